/-! ===== readField ===== -/
def W182 (a : Int) (p i : Nat) : Prop := (p = 239 ∧ (i : Int) = a) ∨ ((p = 240 ∨ p = 241) ∧ 6 * a ≤ (i : Int) ∧ (i : Int) < 6 * a + 6)
section RFI
variable {d : Nat} {K L : Int → Int} {B n N N' x y : Int} {s s' s'' t : yS} {σ ρ τ : RSt} {a1 v : Int32} {f : Int} {Ls : List Int}
theorem W182_no {a : Int} : ∀ p i, W182 a p i → noR p := fun p i w => by
  unfold W182 at w
  unfold noR nRe nRw
  omega
set_option maxHeartbeats 2000000 in
/-- a field: L0 stand so far -/
theorem x_182 (hP : TXp K L n) (hT : RTk K L B n s) (h : RQr B n σ s) (ha : 0 ≤ a1.toInt) {L0 : List Int} (hl : (s.2.1 239 a1.toInt.toNat).toInt = (L0.length : Int)) (h6 : L0.length ≤ 6) (hN : N ≤ (s.1 26).toInt) (hY : YA K L B s 240 241 (6 * a1.toInt) N (s.1 26).toInt L0) : Par d 182 [.ref 213, .int a1] s (fun v s' => v = none ∧ RTk K L B n s' ∧ RQr B n (m_s K L (decide (L0.length = 6)) σ) s' ∧ GFx (s.1 26).toInt (W182 a1.toInt) s s' ∧ s'.1 42 = s.1 42 ∧ ((m_s K L (decide (L0.length = 6)) σ).1 = 0 → L0.length < 6 ∧ (s'.2.1 239 a1.toInt.toNat).toInt = ((L0 ++ [σ.2]).length : Int) ∧ YA K L B s' 240 241 (6 * a1.toInt) N (s'.1 26).toInt (L0 ++ [σ.2]))) := by
  cases d with
  | zero => exact Par_0
  | succ d =>
    refine pb_182 ?_
    have nxt : ∀ t' : yS, R78 s t' → RQr B n (w_5 K L (decide (L0.length = 6)) σ) t' → ub_182_14 (Par d) a1 t' (fun v s' => v = none ∧ RTk K L B n s' ∧ RQr B n (m_s K L (decide (L0.length = 6)) σ) s' ∧ GFx (s.1 26).toInt (W182 a1.toInt) s s' ∧ s'.1 42 = s.1 42 ∧ ((m_s K L (decide (L0.length = 6)) σ).1 = 0 → L0.length < 6 ∧ (s'.2.1 239 a1.toInt.toNat).toInt = ((L0 ++ [σ.2]).length : Int) ∧ YA K L B s' 240 241 (6 * a1.toInt) N (s'.1 26).toInt (L0 ++ [σ.2]))) := by
      intro t' r1 r2
      have f26 : t'.1 26 = s.1 26 := r1.2 26 (by decide) (by decide)
      unfold ub_182_14
      refine x_nm (Φ := fun x3 y s4 => ub_182_27 (Par d) a1 x3 y s4 _) hP (RTk_78 r1 hT) r2 (fun x3 y s4 c1 c2 c3 c4 => ?_)
      have eN : p_t K L 10 false (e_k K L 1 (w_5 K L (decide (L0.length = 6)) σ)) = n_f K L (decide (L0.length = 6)) σ := by
        rw [w5_e]
        rfl
      rw [eN] at c2 c4
      rw [f26] at c3 c4
      unfold ub_182_27
      refine Par.imp (x_167 hP c1 c2 (a1 := 59) (by decide)) ?_
      rintro v1 s5 ⟨rfl, q1, q2⟩
      rw [show (59 : Int32).toInt = 59 by decide] at q2
      change RQr B n (m_s K L (decide (L0.length = 6)) σ) s5 at q2
      have q26 : s5.1 26 = s4.1 26 := q1.2 26 (by decide) (by decide)
      have h4 := c3.2.2.2
      have F5 : GFx (s.1 26).toInt (W182 a1.toInt) s s5 := GFx_tr (Int.le_refl _) (GFx_tr (Int.le_refl _) (GFx_78 r1 (Int.le_refl _)) (GFx_E c3)) (GFx_78 q1 h4)
      have e42 : s5.1 42 = s.1 42 := by rw [q1.2 42 (by decide) (by decide), c3.1 42 (by decide) (by decide) (by decide) (by decide) (by decide), r1.2 42 (by decide) (by decide)]
      have T5 := RTk_78 q1 c1
      refine ⟨rfl, fun hf => ?_, fun hf => ?_⟩
      · unfold ub_182_66
        exact ⟨rfl, T5, q2, F5, e42, fun w => absurd w (by rw [← q2.1]; exact hf)⟩
      · have h0 : (m_s K L (decide (L0.length = 6)) σ).1 = 0 := by rw [← q2.1]; exact hf
        have hn0 : (n_f K L (decide (L0.length = 6)) σ).1 = 0 := (ek_0 h0).1
        have hb : L0.length < 6 := by
          rcases Nat.lt_or_ge L0.length 6 with h | h
          · exact h
          · exfalso
            rw [decide_eq_true (show L0.length = 6 by omega)] at hn0
            exact nf_t hn0
        obtain ⟨y1, y2, y3⟩ := c4 hn0
        have t0 : w_5 K L (decide (L0.length = 6)) σ = σ := by
          unfold w_5
          rw [if_neg (fun w => by have := of_decide_eq_true w.1; omega)]
        rw [t0] at y1 y3
        have r239 : ∀ i, s5.2.1 239 i = s.2.1 239 i := fun i => by rw [q1.1, c3.2.2.1 239 i (by decide) (Or.inl (by unfold nRe nRw; omega)), r1.1]
        intro _ x6 hx6 ha2
        rw [r239, hl]
        intro _ x7 hx7 _ s8 hs8 _ x9 hx9 _
        have r8 : ∀ q j, s8.2.1 q j = if q = 240 ∧ j = x7.toInt.toNat then x3 else s5.2.1 q j := fun q j => by rw [hs8, sa_21]
        rw [r8, if_neg (by omega), r239, hl]
        intro _ x10 hx10 _ s11 hs11 _
        have ex : x10.toInt.toNat = x7.toInt.toNat := by omega
        rw [ex] at hs11
        have r11 : ∀ q j, s11.2.1 q j = if q = 241 ∧ j = x7.toInt.toNat then y else if q = 240 ∧ j = x7.toInt.toNat then x3 else s5.2.1 q j := fun q j => by rw [hs11, sa_21, r8]
        rw [r11, if_neg (by omega), if_neg (by omega), r239, hl]
        intro _ x12 hx12 _ s13 hs13
        have r13 : ∀ q j, s13.2.1 q j = if q = 239 ∧ j = a1.toInt.toNat then x12 else if q = 241 ∧ j = x7.toInt.toNat then y else if q = 240 ∧ j = x7.toInt.toNat then x3 else s5.2.1 q j := fun q j => by rw [hs13, sa_21, r11]
        have e13 : s13.1 = s5.1 := by rw [hs13, hs11, hs8]; rfl
        have F13 : GFx (s5.1 26).toInt (W182 a1.toInt) s5 s13 := by
          refine ⟨fun k _ _ _ _ _ _ => by rw [e13], by rw [hs13, hs11, hs8]; rfl, fun p i _ _ w => ?_, by rw [e13]; exact Int.le_refl _⟩
          unfold W182 at w
          rw [r13, if_neg (by omega), if_neg (by omega), if_neg (by omega)]
        have hq5 : (s.1 26).toInt ≤ (s5.1 26).toInt := by rw [q26]; exact h4
        have Y5 : YA K L B s5 240 241 (6 * a1.toInt) N (s.1 26).toInt L0 := YA_fr (W := fun _ _ => False) (fun _ _ w => absurd w id) (GFx_tr (Int.le_refl _) (GFx_tr (Int.le_refl _) (GFx_78 r1 (Int.le_refl _)) (GFx_E c3)) (GFx_78 q1 h4)) (Int.le_refl _) ⟨by decide, by unfold nRe nRw; omega⟩ ⟨by decide, by unfold nRe nRw; omega⟩ (fun _ _ => ⟨id, id⟩) hY
        have ex2 : x7.toInt.toNat = (6 * a1.toInt + (L0.length : Int)).toNat := by omega
        have y3' : yT K L B s5 10 (s.1 26).toInt (s4.1 26).toInt (σ.2 + 1) := yT_eq 10 _ _ _ y3 ⟨fun _ _ _ _ _ => by rw [q1.1], fun _ _ _ => by rw [q1.1]⟩
        unfold ub_182_66
        refine ⟨rfl, GFx_tk W182_no F13 T5, RQr_1 (by rw [e13]) (by rw [e13]) q2, GFx_tr hq5 F5 F13, by rw [e13]; exact e42, fun _ => ⟨hb, ?_, ?_⟩⟩
        · rw [r13, if_pos ⟨rfl, rfl⟩, List.length_append]
          simp only [List.length_cons, List.length_nil]
          omega
        · refine YA_add (a := (s.1 26).toInt) (b := (s4.1 26).toInt) (fun i w hw => ?_) ?_ ?_ hN (by rw [e13, q26]; exact Int.le_refl _) (GFx_yT W182_no F13 (by rw [q26]; exact Int.le_refl _) y3')
          · have hi : i < L0.length := by
              rcases Nat.lt_or_ge i L0.length with h | h
              · exact h
              · rw [List.getElem?_eq_none h] at hw
                cases hw
            obtain ⟨j1, a, b, j2, j3, j4, j5⟩ := Y5 i w hw
            rw [r13, if_neg (by omega), if_neg (by omega), if_neg (by omega), r13, if_neg (by omega), if_neg (by omega), if_neg (by omega)]
            exact ⟨j1, a, b, j2, by rw [e13]; omega, j4, GFx_yT W182_no F13 (by omega) j5⟩
          · rw [← ex2, r13, if_neg (by omega), if_neg (by omega), if_pos ⟨rfl, rfl⟩, y1]
          · rw [← ex2, r13, if_neg (by omega), if_pos ⟨rfl, rfl⟩, y2]
    unfold ub_182_0
    rw [hl]
    refine fun _ => ⟨fun h6' => ?_, fun h6' => ?_⟩
    · refine nxt s R78_rf ?_
      have : w_5 K L (decide (L0.length = 6)) σ = σ := by
        unfold w_5
        rw [if_neg (fun w => by have := of_decide_eq_true w.1; omega)]
      rw [this]
      exact h
    · have hd : decide (L0.length = 6) = true := decide_eq_true (by omega)
      refine Par.imp (x_166 hT h) ?_
      rintro v2 s2 ⟨rfl, x3, rfl, hr⟩
      refine ⟨x3, rfl, fun w3 => ?_, fun w3 => ?_⟩
      · rcases hr with ⟨z1, -⟩ | ⟨-, z1⟩
        · omega
        refine nxt s2 R78_rf ?_
        have : w_5 K L (decide (L0.length = 6)) σ = σ := by
          unfold w_5
          rw [if_neg (fun w => by rw [z1] at w; cases w.2)]
        rw [this]
        exact h
      · rcases hr with ⟨-, z1⟩ | ⟨z1, -⟩
        · refine Par.imp (x_163h hT h (w := 5) (by decide) (by decide) (fun _ => rfl)) ?_
          rintro v5 s5 ⟨rfl, j1, j2, j3⟩
          rw [if_pos (tk_t z1).1] at j3
          refine ⟨rfl, nxt s5 j1 ?_⟩
          unfold w_5
          rw [if_pos ⟨hd, z1⟩]
          exact j3
        · omega
end RFI
