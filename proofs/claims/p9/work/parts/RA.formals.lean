/-! ===== readFormals, readField ===== -/
def W181 (a1 a2 : Nat) (a3 : Int) (p i : Nat) : Prop := (p = a1 ∨ p = a2) ∧ a3 ≤ (i : Int) ∧ (i : Int) < a3 + 6
section RFO
variable {d : Nat} {K L : Int → Int} {B n N N' x y : Int} {s s' s'' t : yS} {σ ρ τ : RSt} {a3 v : Int32} {a1 a2 : Nat} {f : Int} {Ls : List Int}
/-- one name too many ends it -/
theorem nf_t {σ : RSt} : ¬ (n_f K L true σ).1 = 0 := fun h => by
  unfold n_f at h
  exact ef_t (pt_fw 10 _ _ h).1
/-- behind one more of a list of names: what is left -/
theorem nm_st {k : Nat} {c0 : Int} {LL L0 : List Int} {R : RSt} (hk : k ≤ 6) (h0 : τ.1 = 0) (hR : p_l K L (n_f K L) c0 (7 - k) τ = R) (hL : LL = L0 ++ p_ls K (n_f K L) (7 - k) τ) (hl : L0.length = k) : let ρ := n_f K L (decide (k = 6)) τ
    (¬ ρ.1 = 0 → R = ρ) ∧ (ρ.1 = 0 → k < 6 ∧ (t_k K 44 ρ = true → p_l K L (n_f K L) c0 (7 - (k + 1)) (a_d ρ) = R ∧ LL = (L0 ++ [τ.2]) ++ p_ls K (n_f K L) (7 - (k + 1)) (a_d ρ)) ∧ (t_k K 44 ρ = false → e_k K L c0 ρ = R ∧ LL = L0 ++ [τ.2])) := by
  intro ρ
  have e : 7 - k = (6 - k) + 1 := by omega
  have hb : decide (6 - k = 0) = decide (k = 6) := by
    by_cases h : k = 6
    · rw [decide_eq_true h, decide_eq_true (by omega)]
    · rw [decide_eq_false h, decide_eq_false (by omega)]
  rw [e, pl_s, hb] at hR
  rw [e, pls_s, hb] at hL
  change (if 6 - k ≠ 0 ∧ t_k K 44 ρ = true then p_l K L (n_f K L) c0 (6 - k) (a_d ρ) else e_k K L c0 ρ) = R at hR
  change LL = L0 ++ τ.2 :: (if 6 - k ≠ 0 ∧ t_k K 44 ρ = true then p_ls K (n_f K L) (6 - k) (a_d ρ) else []) at hL
  refine ⟨fun hf => ?_, fun hf => ?_⟩
  · rw [if_neg (fun w => hf (tk_t w.2).1), ek_f hf] at hR
    exact hR.symm
  · have hk6 : k < 6 := by
      rcases Nat.lt_or_ge k 6 with h | h
      · exact h
      · exfalso
        have : ρ = n_f K L true τ := by
          show n_f K L (decide (k = 6)) τ = _
          rw [decide_eq_true (by omega)]
        rw [this] at hf
        exact nf_t hf
    rw [show 7 - (k + 1) = 6 - k by omega]
    refine ⟨hk6, fun hc => ?_, fun hc => ?_⟩
    · rw [if_pos ⟨by omega, hc⟩] at hR hL
      exact ⟨hR, by rw [hL]; simp⟩
    · rw [if_neg (fun w => by rw [hc] at w; cases w.2)] at hR hL
      exact ⟨hR, hL⟩
set_option maxHeartbeats 4000000 in
/-- readFormals -/
theorem x_181 (hP : TXp K L n) (hT : RTk K L B n s) (h : RQr B n σ s) (hk : t_k K 91 σ = true) (ha : (a1 = 237 ∧ a2 = 238) ∨ (a1 = 246 ∧ a2 = 247)) (h3 : 0 ≤ a3.toInt) : Par d 181 [.ref 213, .ref a1, .ref a2, .int a3] s (fun v s' => ∃ r : Int32, v = some (.int r) ∧ RTk K L B n s' ∧ RQr B n (p_nm K L 93 (a_d σ)) s' ∧ GFx (s.1 26).toInt (W181 a1 a2 a3.toInt) s s' ∧ s'.1 42 = s.1 42 ∧ ((p_nm K L 93 (a_d σ)).1 = 0 → r.toInt = ((l_nm K L (a_d σ)).length : Int) ∧ (l_nm K L (a_d σ)).length ≤ 6 ∧ YA K L B s' a1 a2 a3.toInt (s.1 26).toInt (s'.1 26).toInt (l_nm K L (a_d σ)))) := by
  cases d with
  | zero => exact Par_0
  | succ d =>
    obtain ⟨k0, k1⟩ := tk_t hk
    have hne : noR a1 ∧ noR a2 ∧ ¬ a1 = a2 := by
      unfold noR nRe nRw
      omega
    have hW : ∀ p i, W181 a1 a2 a3.toInt p i → noR p := fun p i w => by
      rcases w.1 with e | e
      · rw [e]; exact hne.1
      · rw [e]; exact hne.2.1
    generalize hR : p_nm K L 93 (a_d σ) = R
    generalize hLL : l_nm K L (a_d σ) = LL
    refine pb_181 ?_
    unfold ub_181_0
    refine Par.imp (x_167 hP hT h (a1 := 91) (by decide)) ?_
    rintro v1 s1 ⟨rfl, p1, p2⟩
    rw [show (91 : Int32).toInt = 91 by decide, ek_y k0 k1, show ((0 : Int), σ.2 + 1) = a_d σ by unfold a_d; rw [k0]] at p2
    have e26 : s1.1 26 = s.1 26 := p1.2 26 (by decide) (by decide)
    refine ⟨rfl, ?_⟩
    unfold ubl_181_7
    refine ⟨fun b1 b2 b3 b4 b5 t => b1 = a1 ∧ b2 = a2 ∧ b3 = a3 ∧ ∃ τ : RSt, RTk K L B n t ∧ RQr B n τ t ∧ GFx (s.1 26).toInt (W181 a1 a2 a3.toInt) s t ∧ t.1 42 = s.1 42 ∧ (¬ τ.1 = 0 → R = τ) ∧ (τ.1 = 0 → ∃ L0 : List Int, b4.toInt = (L0.length : Int) ∧ L0.length ≤ 6 ∧ YA K L B t a1 a2 a3.toInt (s.1 26).toInt (t.1 26).toInt L0 ∧ ((b5.toInt = 0 ∧ e_k K L 93 τ = R ∧ LL = L0) ∨ (¬ b5.toInt = 0 ∧ p_l K L (n_f K L) 93 (7 - L0.length) τ = R ∧ LL = L0 ++ p_ls K (n_f K L) (7 - L0.length) τ))), ⟨rfl, rfl, rfl, a_d σ, RTk_78 p1 hT, p2, GFx_78 p1 (Int.le_refl _), p1.2 42 (by decide) (by decide), fun w => absurd k0 w, fun _ => ⟨[], by decide, by decide, YA_nil, Or.inr ⟨by decide, hR, hLL.symm⟩⟩⟩, ?_⟩
    rintro b1 b2 b3 b4 b5 t ⟨e1, e2, e3, τ, t1, t2, t3, t4, t5, t6⟩
    subst e1 e2 e3
    -- the end
    have fin : (τ.1 = 0 → b5.toInt = 0) → ub_181_58 (Par d) b1 b2 b3 b4 b5 t (fun v s' => ∃ r : Int32, v = some (.int r) ∧ RTk K L B n s' ∧ RQr B n R s' ∧ GFx (s.1 26).toInt (W181 b1 b2 b3.toInt) s s' ∧ s'.1 42 = s.1 42 ∧ (R.1 = 0 → r.toInt = (LL.length : Int) ∧ LL.length ≤ 6 ∧ YA K L B s' b1 b2 b3.toInt (s.1 26).toInt (s'.1 26).toInt LL)) := by
      intro hb
      unfold ub_181_58
      refine Par.imp (x_167 hP t1 t2 (a1 := 93) (by decide)) ?_
      rintro v2 s2 ⟨rfl, q1, q2⟩
      rw [show (93 : Int32).toInt = 93 by decide] at q2
      have f26 : s2.1 26 = t.1 26 := q1.2 26 (by decide) (by decide)
      have hN := t3.2.2.2
      have F2 : GFx (s.1 26).toInt (W181 b1 b2 b3.toInt) t s2 := GFx_78 q1 hN
      refine ⟨rfl, b4, rfl, RTk_78 q1 t1, ?_, GFx_tr (Int.le_refl _) t3 F2, by rw [q1.2 42 (by decide) (by decide)]; exact t4, fun hr => ?_⟩
      · by_cases h0 : τ.1 = 0
        · obtain ⟨L0, g1, g2, g3, g4⟩ := t6 h0
          rcases g4 with ⟨g5, g6, g7⟩ | ⟨g5, -⟩
          · rw [← g6]
            exact q2
          · exact absurd (hb h0) g5
        · rw [t5 h0]
          rw [ek_f h0] at q2
          exact q2
      · have h0 : τ.1 = 0 := Classical.byContradiction fun w => by
          rw [t5 w] at hr
          exact w hr
        obtain ⟨L0, g1, g2, g3, g4⟩ := t6 h0
        rcases g4 with ⟨g5, g6, g7⟩ | ⟨g5, -⟩
        · rw [g7]
          refine ⟨g1, g2, fun i w hw => ?_⟩
          obtain ⟨y1, a, b, y2, y3, y4, y5⟩ := g3 i w hw
          rw [q1.1]
          refine ⟨y1, a, b, y2, by rw [f26]; exact y3, y4, yT_eq 10 _ _ _ y5 ⟨fun _ _ _ _ _ => by rw [q1.1], fun _ _ _ => by rw [q1.1]⟩⟩
        · exact absurd (hb h0) g5
    unfold ub_181_7
    refine ⟨fun w => fin (fun _ => w), fun w => ⟨fun w0 => fin (fun q => absurd q (by rw [← t2.1]; exact w0)), fun w0 => ?_⟩⟩
    have h0 : τ.1 = 0 := by rw [← t2.1]; exact w0
    obtain ⟨L0, g1, g2, g3, g4⟩ := t6 h0
    rcases g4 with ⟨g5, -⟩ | ⟨g5, g6, g7⟩
    · exact absurd g5 w
    obtain ⟨st1, st2⟩ := nm_st g2 h0 g6 g7 rfl
    -- the name and its TYPE
    have nxt : ∀ t' : yS, R78 t t' → RQr B n (w_5 K L (decide (L0.length = 6)) τ) t' → ub_181_23 (Par d) (fun b1' b2' b3' b4 b5 t => b1' = b1 ∧ b2' = b2 ∧ b3' = b3 ∧ ∃ τ : RSt, RTk K L B n t ∧ RQr B n τ t ∧ GFx (s.1 26).toInt (W181 b1 b2 b3.toInt) s t ∧ t.1 42 = s.1 42 ∧ (¬ τ.1 = 0 → R = τ) ∧ (τ.1 = 0 → ∃ L0 : List Int, b4.toInt = (L0.length : Int) ∧ L0.length ≤ 6 ∧ YA K L B t b1 b2 b3.toInt (s.1 26).toInt (t.1 26).toInt L0 ∧ ((b5.toInt = 0 ∧ e_k K L 93 τ = R ∧ LL = L0) ∨ (¬ b5.toInt = 0 ∧ p_l K L (n_f K L) 93 (7 - L0.length) τ = R ∧ LL = L0 ++ p_ls K (n_f K L) (7 - L0.length) τ)))) b1 b2 b3 b4 b5 t' (fun v s' => ∃ r : Int32, v = some (.int r) ∧ RTk K L B n s' ∧ RQr B n R s' ∧ GFx (s.1 26).toInt (W181 b1 b2 b3.toInt) s s' ∧ s'.1 42 = s.1 42 ∧ (R.1 = 0 → r.toInt = (LL.length : Int) ∧ LL.length ≤ 6 ∧ YA K L B s' b1 b2 b3.toInt (s.1 26).toInt (s'.1 26).toInt LL)) := by
      intro t' r1 r2
      have f26 : t'.1 26 = t.1 26 := r1.2 26 (by decide) (by decide)
      have hN := t3.2.2.2
      unfold ub_181_23
      refine x_nm (Φ := fun x3 y s4 => ub_181_36 (Par d) _ b1 b2 b3 b4 b5 x3 y s4 _) hP (RTk_78 r1 t1) r2 (fun x3 y s4 c1 c2 c3 c4 => ?_)
      have eN : p_t K L 10 false (e_k K L 1 (w_5 K L (decide (L0.length = 6)) τ)) = n_f K L (decide (L0.length = 6)) τ := by
        rw [w5_e]
        rfl
      rw [eN] at c2 c4
      rw [f26] at c3 c4
      generalize hρ : n_f K L (decide (L0.length = 6)) τ = ρ at c2 c4 st1 st2
      have F4 : GFx (s.1 26).toInt (W181 b1 b2 b3.toInt) t s4 := GFx_tr hN (GFx_78 r1 hN) (GFx_E c3)
      have F4s := GFx_tr (Int.le_refl _) t3 F4
      have e42 : s4.1 42 = s.1 42 := by
        rw [c3.1 42 (by decide) (by decide) (by decide) (by decide) (by decide), r1.2 42 (by decide) (by decide)]
        exact t4
      -- the comma
      have com : ∀ (x5 : Int32) (u : yS), RTk K L B n u → RQr B n ρ u → GFx (s.1 26).toInt (W181 b1 b2 b3.toInt) s u → u.1 42 = s.1 42 → (ρ.1 = 0 → x5.toInt = ((L0 ++ [τ.2]).length : Int) ∧ YA K L B u b1 b2 b3.toInt (s.1 26).toInt (u.1 26).toInt (L0 ++ [τ.2])) → ub_181_53 (Par d) (fun b1' b2' b3' b4 b5 t => b1' = b1 ∧ b2' = b2 ∧ b3' = b3 ∧ ∃ τ : RSt, RTk K L B n t ∧ RQr B n τ t ∧ GFx (s.1 26).toInt (W181 b1 b2 b3.toInt) s t ∧ t.1 42 = s.1 42 ∧ (¬ τ.1 = 0 → R = τ) ∧ (τ.1 = 0 → ∃ L0 : List Int, b4.toInt = (L0.length : Int) ∧ L0.length ≤ 6 ∧ YA K L B t b1 b2 b3.toInt (s.1 26).toInt (t.1 26).toInt L0 ∧ ((b5.toInt = 0 ∧ e_k K L 93 τ = R ∧ LL = L0) ∨ (¬ b5.toInt = 0 ∧ p_l K L (n_f K L) 93 (7 - L0.length) τ = R ∧ LL = L0 ++ p_ls K (n_f K L) (7 - L0.length) τ)))) b1 b2 b3 x5 b5 x3 y u (fun v s' => ∃ r : Int32, v = some (.int r) ∧ RTk K L B n s' ∧ RQr B n R s' ∧ GFx (s.1 26).toInt (W181 b1 b2 b3.toInt) s s' ∧ s'.1 42 = s.1 42 ∧ (R.1 = 0 → r.toInt = (LL.length : Int) ∧ LL.length ≤ 6 ∧ YA K L B s' b1 b2 b3.toInt (s.1 26).toInt (s'.1 26).toInt LL)) := by
        intro x5 u u1 u2 u3 u4 u5
        unfold ub_181_53
        refine Par.imp (x_168 hP u1 u2 (a1 := 44) (by decide)) ?_
        rintro v2 s6 ⟨m1, x7, rfl, m2⟩
        rw [show (44 : Int32).toInt = 44 by decide] at m2
        have m26 : s6.1 26 = u.1 26 := m1.2 26 (by decide) (by decide)
        have YY : ∀ Lx, YA K L B u b1 b2 b3.toInt (s.1 26).toInt (u.1 26).toInt Lx → YA K L B s6 b1 b2 b3.toInt (s.1 26).toInt (s6.1 26).toInt Lx := fun Lx hx i w hw => by
          obtain ⟨y1, a, b, y2, y3, y4, y5⟩ := hx i w hw
          rw [m1.1]
          exact ⟨y1, a, b, y2, by rw [m26]; exact y3, y4, yT_eq 10 _ _ _ y5 ⟨fun _ _ _ _ _ => by rw [m1.1], fun _ _ _ => by rw [m1.1]⟩⟩
        have G6 : GFx (s.1 26).toInt (W181 b1 b2 b3.toInt) s s6 := GFx_tr (Int.le_refl _) u3 (GFx_78 m1 u3.2.2.2)
        have e6 : s6.1 42 = s.1 42 := by rw [m1.2 42 (by decide) (by decide)]; exact u4
        refine ⟨x7, rfl, rfl, rfl, rfl, ?_⟩
        rcases m2 with ⟨m3, m4, m5⟩ | ⟨m3, m4, m5, -⟩
        · have r0 := (tk_t m4).1
          obtain ⟨z1, z2, -⟩ := st2 r0
          obtain ⟨z3, z4⟩ := z2 m4
          obtain ⟨z5, z6⟩ := u5 r0
          refine ⟨a_d ρ, RTk_78 m1 u1, m5, G6, e6, fun w => absurd r0 w, fun _ => ⟨L0 ++ [τ.2], z5, by rw [List.length_append]; simp only [List.length_cons, List.length_nil]; omega, YY _ z6, Or.inr ⟨by omega, ?_, ?_⟩⟩⟩
          · rw [List.length_append]
            exact z3
          · rw [List.length_append]
            exact z4
        · refine ⟨ρ, RTk_78 m1 u1, m5, G6, e6, st1, fun r0 => ?_⟩
          obtain ⟨z1, -, z2⟩ := st2 r0
          obtain ⟨z3, z4⟩ := z2 m4
          obtain ⟨z5, z6⟩ := u5 r0
          exact ⟨L0 ++ [τ.2], z5, by rw [List.length_append]; simp only [List.length_cons, List.length_nil]; omega, YY _ z6, Or.inl ⟨m3, z3, z4⟩⟩
      unfold ub_181_36
      refine ⟨fun hf => com b4 s4 c1 c2 F4s e42 (fun r0 => absurd r0 (by rw [← c2.1]; exact hf)), fun hf => ?_⟩
      have r0 : ρ.1 = 0 := by rw [← c2.1]; exact hf
      obtain ⟨z1, -, -⟩ := st2 r0
      obtain ⟨y1, y2, y3⟩ := c4 r0
      have t0 : (w_5 K L (decide (L0.length = 6)) τ) = τ := w5_0 (by
        rw [← eN] at hρ
        have := (ek_0 (pt_fw 10 _ _ (by rw [hρ]; exact r0)).1).1
        exact this)
      rw [t0] at y1 y3
      intro _ x6 hx6
      have W6 : ∀ p, (p = b1 ∨ p = b2) → W181 b1 b2 b3.toInt p x6.toInt.toNat := fun p hp => ⟨hp, by omega, by omega⟩
      have ex : x6.toInt.toNat = (b3.toInt + (L0.length : Int)).toNat := by omega
      have key : ∀ nn : Nat, (0 ≤ x6.toInt ∧ x6.toInt < (nn : Int)) → ∀ s7 : yS, s7 = sa s4 b1 x6.toInt.toNat x3 → ∀ x8 : Int32, x8.toInt = b3.toInt + b4.toInt → ∀ s9, s9 = sa s7 b2 x8.toInt.toNat y → ∀ x10 : Int32, x10.toInt = b4.toInt + 1 → ub_181_53 (Par d) (fun b1' b2' b3' b4 b5 t => b1' = b1 ∧ b2' = b2 ∧ b3' = b3 ∧ ∃ τ : RSt, RTk K L B n t ∧ RQr B n τ t ∧ GFx (s.1 26).toInt (W181 b1 b2 b3.toInt) s t ∧ t.1 42 = s.1 42 ∧ (¬ τ.1 = 0 → R = τ) ∧ (τ.1 = 0 → ∃ L0 : List Int, b4.toInt = (L0.length : Int) ∧ L0.length ≤ 6 ∧ YA K L B t b1 b2 b3.toInt (s.1 26).toInt (t.1 26).toInt L0 ∧ ((b5.toInt = 0 ∧ e_k K L 93 τ = R ∧ LL = L0) ∨ (¬ b5.toInt = 0 ∧ p_l K L (n_f K L) 93 (7 - L0.length) τ = R ∧ LL = L0 ++ p_ls K (n_f K L) (7 - L0.length) τ)))) b1 b2 b3 x10 b5 x3 y s9 (fun v s' => ∃ r : Int32, v = some (.int r) ∧ RTk K L B n s' ∧ RQr B n R s' ∧ GFx (s.1 26).toInt (W181 b1 b2 b3.toInt) s s' ∧ s'.1 42 = s.1 42 ∧ (R.1 = 0 → r.toInt = (LL.length : Int) ∧ LL.length ≤ 6 ∧ YA K L B s' b1 b2 b3.toInt (s.1 26).toInt (s'.1 26).toInt LL)) := by
        intro nn hnn s7 hs7 x8 hx8 s9 hs9 x10 hx10
        have e8 : x8.toInt.toNat = x6.toInt.toNat := by omega
        rw [e8] at hs9
        have e9 : s9.1 = s4.1 := by rw [hs9, hs7]; rfl
        have Fa : GFx (s4.1 26).toInt (W181 b1 b2 b3.toInt) s4 s9 := by
          rw [hs9]
          refine GFx_tr (Int.le_refl _) (s' := s7) ?_ (GFx_sa (W6 b2 (Or.inr rfl)) (by rw [hs7]; exact Int.le_refl _))
          rw [hs7]
          exact GFx_sa (W6 b1 (Or.inl rfl)) (Int.le_refl _)
        have hN4 := F4s.2.2.2
        have r9 : ∀ q j, s9.2.1 q j = if q = b2 ∧ j = x6.toInt.toNat then y else if q = b1 ∧ j = x6.toInt.toNat then x3 else s4.2.1 q j := fun q j => by rw [hs9, sa_21, hs7, sa_21]
        have Y9 : YA K L B s9 b1 b2 b3.toInt (s.1 26).toInt (s9.1 26).toInt L0 := by
          have a1 : YA K L B s4 b1 b2 b3.toInt (s.1 26).toInt (t.1 26).toInt L0 := fun i w hw => by
            obtain ⟨j1, a, b, j2, j3, j4, j5⟩ := g3 i w hw
            have hb1 := c3.2.2.1 b1 (b3.toInt + (i : Int)).toNat hne.1.2.1 (Or.inl hne.1.1)
            have hb2 := c3.2.2.1 b2 (b3.toInt + (i : Int)).toNat hne.2.1.2.1 (Or.inl hne.2.1.1)
            rw [hb1, hb2, r1.1]
            refine ⟨j1, a, b, j2, j3, j4, ?_⟩
            have j6 : yT K L B t' 10 a b (w + 1) := yT_eq 10 _ _ _ j5 ⟨fun _ _ _ _ _ => by rw [r1.1], fun _ _ _ => by rw [r1.1]⟩
            exact GFx_yT (W := fun _ _ => False) (fun _ _ w => absurd w id) (GFx_E c3) j3 j6
          have a2 : YA K L B s9 b1 b2 b3.toInt (s.1 26).toInt (t.1 26).toInt L0 := fun i w hw => by
            have hi : i < L0.length := by
              rcases Nat.lt_or_ge i L0.length with h | h
              · exact h
              · rw [List.getElem?_eq_none h] at hw
                cases hw
            obtain ⟨j1, a, b, j2, j3, j4, j5⟩ := a1 i w hw
            rw [r9, if_neg (by omega), if_neg (by omega), r9, if_neg (by omega), if_neg (by omega)]
            exact ⟨j1, a, b, j2, j3, j4, GFx_yT hW Fa (by have := c3.2.2.2; omega) j5⟩
          exact YA_wi (Int.le_refl _) (by rw [e9]; exact c3.2.2.2) a2
        refine com x10 s9 ?_ (RQr_1 (by rw [e9]) (by rw [e9]) c2) (GFx_tr hN4 F4s Fa) (by rw [e9]; exact e42) (fun _ => ⟨by rw [List.length_append]; simp only [List.length_cons, List.length_nil]; omega, ?_⟩)
        · exact GFx_tk hW Fa c1
        · refine YA_add (a := (t.1 26).toInt) (b := (s4.1 26).toInt) Y9 ?_ ?_ hN (by rw [e9]; exact Int.le_refl _) (GFx_yT hW Fa (Int.le_refl _) y3)
          · rw [← ex, r9, if_neg (fun e => hne.2.2 e.1), if_pos ⟨rfl, rfl⟩, y1]
          · rw [← ex, r9, if_pos ⟨rfl, rfl⟩, y2]
      rcases ha with ⟨ha1, ha2⟩ | ⟨ha1, ha2⟩
      · refine ⟨288, by rw [ha1]; rfl, fun hnn s7 hs7 _ x8 hx8 => ⟨288, by rw [ha2]; rfl, fun _ s9 hs9 _ x10 hx10 => key 288 hnn s7 hs7 x8 hx8 s9 hs9 x10 hx10⟩⟩
      · refine ⟨2448, by rw [ha1]; rfl, fun hnn s7 hs7 _ x8 hx8 => ⟨2448, by rw [ha2]; rfl, fun _ s9 hs9 _ x10 hx10 => key 2448 hnn s7 hs7 x8 hx8 s9 hs9 x10 hx10⟩⟩
    refine ⟨fun h6 => ?_, fun h6 => ?_⟩
    · refine nxt t R78_rf ?_
      have : w_5 K L (decide (L0.length = 6)) τ = τ := by
        unfold w_5
        rw [if_neg (fun w => by have := of_decide_eq_true w.1; omega)]
      rw [this]
      exact t2
    · have hd : decide (L0.length = 6) = true := decide_eq_true (by omega)
      refine Par.imp (x_166 t1 t2) ?_
      rintro v2 s2 ⟨rfl, x3, rfl, hr⟩
      refine ⟨x3, rfl, fun w3 => ?_, fun w3 => ?_⟩
      · rcases hr with ⟨z1, -⟩ | ⟨-, z1⟩
        · omega
        refine nxt s2 R78_rf ?_
        have : w_5 K L (decide (L0.length = 6)) τ = τ := by
          unfold w_5
          rw [if_neg (fun w => by rw [z1] at w; cases w.2)]
        rw [this]
        exact t2
      · rcases hr with ⟨-, z1⟩ | ⟨z1, -⟩
        · refine Par.imp (x_163h t1 t2 (w := 5) (by decide) (by decide) (fun _ => rfl)) ?_
          rintro v5 s5 ⟨rfl, j1, j2, j3⟩
          rw [if_pos h0] at j3
          refine ⟨rfl, nxt s5 j1 ?_⟩
          unfold w_5
          rw [if_pos ⟨hd, z1⟩]
          exact j3
        · omega
end RFO
