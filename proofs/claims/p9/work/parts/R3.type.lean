/-! ===== takeType, takeTypes ===== -/
/-- what is kept by the taking of TYPES and E: tokens, depth -/
def Rp (K L : Int → Int) (B n : Int) (m : Nat) (σ : RSt) (s : yS) : Prop := RTk K L B n s ∧ RQr B n σ s ∧ (s.1 27).toInt = 10 - (m : Int)
section RT3
variable {d : Nat} {K L : Int → Int} {B n N N' : Int} {s s' s'' : yS} {σ : RSt} {a1 x : Int32} {x0 : Int}
def T173 (K L : Int → Int) (B n : Int) (d : Nat) : Prop := ∀ (m : Nat) (σ : RSt) (s : yS), m ≤ 11 → Rp K L B n m σ s → Par d 173 [.ref 213] s (fun v s' => ∃ r : Int32, v = some (.int r) ∧ r.toInt = (s.1 26).toInt ∧ 0 ≤ (s.1 26).toInt ∧ (s.1 26).toInt < (s'.1 26).toInt ∧ TFx (s.1 26).toInt s s' ∧ Rp K L B n m (p_t K L m false σ) s' ∧ ((p_t K L m false σ).1 = 0 → yT K L B s' m (s.1 26).toInt (s'.1 26).toInt σ.2 ∧ (s'.2.1 225 (s.1 26).toInt.toNat).toInt = -1))
def T174 (K L : Int → Int) (B n : Int) (d : Nat) : Prop := ∀ (m : Nat) (σ : RSt) (s : yS), m ≤ 10 → t_k K 91 σ = true → Rp K L B n m σ s → Par d 174 [.ref 213] s (fun v s' => ∃ r : Int32, v = some (.int r) ∧ r.toInt = (s.1 26).toInt ∧ 0 ≤ (s.1 26).toInt ∧ (s.1 26).toInt < (s'.1 26).toInt ∧ TFx (s.1 26).toInt s s' ∧ Rp K L B n m (p_l K L (p_t K L m) 93 7 (a_d σ)) s' ∧ ((p_l K L (p_t K L m) 93 7 (a_d σ)).1 = 0 → (s'.1 28).toInt = (NT K L σ.2 : Int) ∧ ych s' (yT K L B s' m) (nxT K L) (NT K L σ.2) (s.1 26).toInt (s'.1 26).toInt (σ.2 + 1)))
theorem Rp_78 {m : Nat} {τ : RSt} (h : Rp K L B n m σ s) (g : R78 s s') (hq : RQr B n τ s') : Rp K L B n m τ s' := ⟨RTk_78 g h.1, hq, by rw [g.2 27 (by decide) (by decide)]; exact h.2.2⟩
theorem x_173s (ih : T174 K L B n d) (hP : TXp K L n) : T173 K L B n (d + 1) := by
  intro m σ s hm11 h
  refine pb_173 ?_
  unfold ub_173_0
  refine Par.imp (x_166 h.1 h.2.1) ?_
  rintro v1 s1 ⟨rfl, r3, rfl, hr3⟩
  refine ⟨r3, rfl, ?_⟩
  refine Par.imp (x_172 h.1 h.2.1 hr3) ?_
  rintro v2 s4 ⟨rfl, p1, p2, p3, p4⟩
  refine ⟨rfl, ?_⟩
  have e26 : s4.1 26 = s1.1 26 := p2 26 (by decide) (by decide)
  have e7 : s4.1 7 = s1.1 7 := p2 7 (by decide) (by decide)
  refine Par.imp x_171 ?_
  rintro v3 s6 ⟨x8, rfl, q1, q2, q3, q4, q5, q6, q7, q8⟩
  rw [e26] at q1 q2 q3 q4 q8
  refine ⟨x8, rfl, fun _ x9 hx9 s10 hs10 => ?_⟩
  have hb : decide ((s1.1 27).toInt = 10) = decide (m = 0) := by
    rw [h.2.2]
    by_cases e : m = 0
    · rw [decide_eq_true e, decide_eq_true (by omega)]
    · rw [decide_eq_false e, decide_eq_false (by omega)]
  rw [hb] at p4
  -- behind the name
  have T10 : RTk K L B n s10 := by
    rw [hs10]
    exact RTk_78 R78_7 (TFx_tk q4 (RTk_eq (by rw [p1]) (by rw [p1]) (by rw [p1]) h.1))
  have Q10 : RQr B n (e_f K L (decide (m = 0)) σ) s10 := by
    have p6 : RQr B n (w_f K L (decide (m = 0)) σ) s6 := ⟨by rw [q6]; exact p4.1, fun w => by rw [q5]; exact p4.2 w⟩
    rw [hs10]
    unfold w_f at p6
    unfold e_f
    by_cases h0 : σ.1 = 0
    · rw [if_pos h0] at p6 ⊢
      by_cases h1 : K σ.2 = 1
      · rw [if_pos h1] at p6 ⊢
        by_cases hm : m = 0
        · rw [decide_eq_true hm, if_pos rfl] at p6 ⊢
          exact RQ_7f p6 (by dsimp only; omega)
        · rw [decide_eq_false hm, if_neg (by decide)] at p6 ⊢
          have := RQ_ad hP p6 (by rw [h1]; decide) hx9
          unfold a_d at this
          rw [h0] at this
          exact this
      · rw [if_neg h1] at p6 ⊢
        exact RQ_7f p6 (by dsimp only; omega)
    · rw [if_neg h0] at p6 ⊢
      exact RQ_7f p6 h0
  have e1027 : (s10.1 27).toInt = 10 - (m : Int) + 1 := by
    rw [hs10, sfr_1, if_neg (by decide), q7, p3, h.2.2]
  have F10 : TFx (s1.1 26).toInt s1 s10 := by
    have f1 : TFx (s1.1 26).toInt s1 s4 := ⟨fun k _ k8 _ k27 _ => p2 k k8 k27, by rw [p1], fun p i _ => by rw [p1], by rw [e26]; exact Int.le_refl _⟩
    have f2 : TFx (s1.1 26).toInt s4 s6 := q4
    rw [hs10]
    exact TFx_tr (Int.le_refl _) f1 (TFx_tr (Int.le_refl _) f2 (TFx_sf (Or.inl rfl) (by omega)))
  have n10 : (s10.1 26).toInt = (s1.1 26).toInt + 1 := by rw [hs10, sfr_1, if_neg (by decide), q3]
  -- the node
  have N10 : nNw (s1.1 26).toInt 0 s4 s10 := by
    rw [hs10]
    exact q8
  refine Par.imp (x_164 T10 Q10 (a1 := 91) (by decide)) ?_
  rintro v12 s11 ⟨rfl, x13, rfl, hr13⟩
  rw [show (91 : Int32).toInt = 91 by decide] at hr13
  -- the end: depth back
  have fin : ∀ t : yS, TFx (s1.1 26).toInt s1 t → (s1.1 26).toInt < (t.1 26).toInt → (t.1 27).toInt = 10 - (m : Int) + 1 → RTk K L B n t → RQr B n (p_t K L m false σ) t → ((p_t K L m false σ).1 = 0 → yT K L B t m (s1.1 26).toInt (t.1 26).toInt σ.2 ∧ (t.2.1 225 (s1.1 26).toInt.toNat).toInt = -1) → ub_173_30 (Par d) x8 t (fun v s' => ∃ r : Int32, v = some (.int r) ∧ r.toInt = (s1.1 26).toInt ∧ 0 ≤ (s1.1 26).toInt ∧ (s1.1 26).toInt < (s'.1 26).toInt ∧ TFx (s1.1 26).toInt s1 s' ∧ Rp K L B n m (p_t K L m false σ) s' ∧ ((p_t K L m false σ).1 = 0 → yT K L B s' m (s1.1 26).toInt (s'.1 26).toInt σ.2 ∧ (s'.2.1 225 (s1.1 26).toInt.toNat).toInt = -1)) := by
    intro t t1 t2 t3 t4 t5 t6
    unfold ub_173_30
    intro _ x1 hx1 s2 hs2
    have e2 : (s2.1 26) = t.1 26 := by rw [hs2, sfr_1, if_neg (by decide)]
    refine ⟨x8, rfl, q1, q2, by rw [e2]; exact t2, ?_, ⟨?_, ?_, ?_⟩, fun w => ?_⟩
    · rw [hs2]
      exact TFx_tr (Int.le_refl _) t1 (TFx_sf (Or.inr (Or.inr (Or.inl rfl))) (by omega))
    · rw [hs2]
      exact RTk_eq rfl rfl rfl t4
    · rw [hs2]
      exact ⟨by rw [sfr_1, if_neg (by decide)]; exact t5.1, fun w => by rw [sfr_1, if_neg (by decide)]; exact t5.2 w⟩
    · rw [hs2, sfr_1, if_pos rfl, hx1, t3]
      omega
    · obtain ⟨w1, w2⟩ := t6 w
      rw [e2, hs2, sfr_2]
      exact ⟨yT_eq m _ _ _ w1 ⟨fun _ _ _ _ _ => rfl, fun _ _ _ => rfl⟩, w2⟩
  have tok : σ.1 = 0 → (s11.2.1 222 (s1.1 26).toInt.toNat).toInt = B + σ.2 := fun h0 => by
    rw [N10.2.1, e7]
    exact (h.2.1.2 h0).1
  refine ⟨x13, rfl, fun w => ?_, fun w => ?_⟩
  · rcases hr13 with ⟨y1, -⟩ | ⟨-, y2⟩
    · omega
    refine fin s11 F10 (by omega) e1027 T10 ?_ (fun hr => ?_)
    · cases m with
      | zero => exact Q10
      | succ m =>
        rw [decide_eq_false (by omega)] at Q10 y2
        rw [p_t, if_neg (by rw [y2]; decide)]
        exact Q10
    · cases m with
      | zero => exact absurd (show (e_f K L true σ).1 = 0 from hr) (fun w => ef_t w)
      | succ m =>
        rw [decide_eq_false (by omega)] at y2
        rw [p_t, if_neg (by rw [y2]; decide)] at hr
        obtain ⟨k0, k1, k2, k3⟩ := ef_0 hr
        have h91 : ¬ K (σ.2 + 1) = 91 := fun q => by
          have : t_k K 91 (e_f K L false σ) = true := decide_eq_true (by rw [k3]; exact ⟨rfl, q⟩)
          rw [this] at y2
          cases y2
        refine ⟨⟨⟨q2, by omega⟩, N10.1, tok k0, ?_⟩, N10.2.2.2.1⟩
        rw [if_neg h91]
        exact ⟨N10.2.2.2.2.1, N10.2.2.1, n10⟩
  · rcases hr13 with ⟨-, y2⟩ | ⟨y1, -⟩
    · cases m with
      | zero => exact absurd (tk_t y2).1 (fun w => ef_t w)
      | succ m =>
        rw [decide_eq_false (by omega)] at Q10 y2
        have hm10 : m ≤ 10 := by omega
        refine Par.imp (ih m (e_f K L false σ) s11 hm10 y2 ⟨T10, Q10, by omega⟩) ?_
        rintro v15 s14 ⟨x16, rfl, w1, w2, w3, w4, w5, w6⟩
        refine ⟨x16, rfl, fun _ s17 hs17 _ s18 hs18 => ?_⟩
        have hx8 : x8.toInt.toNat = (s1.1 26).toInt.toNat := by rw [q1]
        have hz : (((s1.1 26).toInt.toNat : Nat) : Int) = (s1.1 26).toInt := Int.toNat_of_nonneg q2
        have e18 : s18.1 = s14.1 := by rw [hs18, hs17]; rfl
        have e171 : s17.1 = s14.1 := by rw [hs17]; rfl
        rw [hx8] at hs17 hs18
        rw [e171] at hs18
        have r18 : ∀ q j, s18.2.1 q j = if q = 226 ∧ j = (s1.1 26).toInt.toNat then s14.1 28 else if q = 224 ∧ j = (s1.1 26).toInt.toNat then x16 else s14.2.1 q j := fun q j => by
          rw [hs18, sa_21, hs17, sa_21]
        have F14 : TFx (s1.1 26).toInt s1 s14 := TFx_tr (by omega) F10 w4
        have F18 : TFx (s1.1 26).toInt s1 s18 := by
          rw [hs18]
          refine TFx_tr (Int.le_refl _) F14 (TFx_tr (Int.le_refl _) (s' := s17) ?_ (TFx_sa (by unfold nRw; omega) (by omega) (by rw [e171]; omega)))
          rw [hs17]
          exact TFx_sa (by unfold nRw; omega) (by omega) (by omega)
        refine fin s18 F18 (by rw [e18]; omega) (by rw [e18]; exact w5.2.2.trans (by omega)) ?_ ?_ (fun hr => ?_)
        · exact RTk_eq (funext fun j => by rw [r18, if_neg (by omega), if_neg (by omega)]) (funext fun j => by rw [r18, if_neg (by omega), if_neg (by omega)]) (funext fun j => by rw [r18, if_neg (by omega), if_neg (by omega)]) w5.1
        · rw [p_t, if_pos y2]
          exact ⟨by rw [e18]; exact w5.2.1.1, fun w => by rw [e18]; exact w5.2.1.2 w⟩
        · rw [p_t, if_pos y2] at hr
          obtain ⟨z1, z2⟩ := w6 hr
          obtain ⟨g0, g1⟩ := tk_t y2
          obtain ⟨k0, k1, k2, k3⟩ := ef_0 g0
          rw [k3] at z1 z2 g1
          dsimp only at z1 z2 g1
          have old : ∀ p, ¬ p = 224 → ¬ p = 226 → s18.2.1 p (s1.1 26).toInt.toNat = s11.2.1 p (s1.1 26).toInt.toNat := fun p h1 h2 => by
            rw [r18, if_neg (fun e => h2 e.1), if_neg (fun e => h1 e.1), w4.2.2.1 p _ (Or.inr (by omega))]
          refine ⟨⟨⟨q2, by rw [e18]; omega⟩, by rw [old 221 (by decide) (by decide)]; exact N10.1, by rw [old 222 (by decide) (by decide)]; exact tok k0, ?_⟩, by rw [old 225 (by decide) (by decide)]; exact N10.2.2.2.1⟩
          rw [if_pos g1]
          refine ⟨by rw [r18, if_pos ⟨rfl, rfl⟩]; exact z1, by rw [r18, if_neg (by omega), if_pos ⟨rfl, rfl⟩]; omega, ?_⟩
          obtain ⟨z, u, c1, c2, c3, c4⟩ := z2
          rw [n10] at c1
          refine ⟨z, u, c1, by rw [e18]; exact c2, by rw [c3]; omega, yCh_one c4 (fun i hi f => yT_eq m _ _ _ f ?_) (fun i hi => ?_)⟩
          · have mo := yCh_mono c4
            have a := mo 0 i (by omega) (by omega)
            have b := mo (i + 1) (NT K L (σ.2 + 1)) (by omega) (Nat.le_refl _)
            refine ⟨fun p j hp j1 j2 => ?_, fun j j1 j2 => ?_⟩
            · rw [r18, if_neg (by omega), if_neg (by omega)]
            · rw [r18, if_neg (by omega), if_neg (by omega)]
          · rw [r18, if_neg (by omega), if_neg (by omega)]
    · omega
theorem NT_eq {m : Nat} (hm : m ≤ 11) (h : (p_l K L (p_t K L m) 93 7 (0, x0 + 1)).1 = 0) : p_n K (p_t K L m) 7 (0, x0 + 1) = NT K L x0 := (pl_mono7 (pt_mono m 11 hm) _ h).2.symm
theorem x_174s (ih : T173 K L B n d) (hP : TXp K L n) : T174 K L B n (d + 1) := by
  intro m σ s hm hk h
  obtain ⟨k0, k1⟩ := tk_t hk
  refine pb_174 ?_
  unfold ub_174_0
  refine Par.imp (x_167 hP h.1 h.2.1 (a1 := 91) (by decide)) ?_
  rintro v1 s1 ⟨rfl, p1, p2⟩
  rw [show (91 : Int32).toInt = 91 by decide, ek_y k0 k1] at p2
  have h1 := Rp_78 h p1 p2
  have e26 : s1.1 26 = s.1 26 := p1.2 26 (by decide) (by decide)
  have eA : a_d σ = (0, σ.2 + 1) := by
    unfold a_d
    rw [k0]
  refine ⟨rfl, ?_⟩
  refine Par.imp (ih m _ s1 (by omega) h1) ?_
  rintro v3 s3 ⟨x5, rfl, q1, q2, q3, q4, q5, q6⟩
  rw [e26] at q1 q2 q3 q4 q6
  refine ⟨x5, rfl, ?_⟩
  rw [eA]
  -- the loop: n trees stand, the last at token w
  unfold ubl_174_10
  refine ⟨fun b1 b2 b3 t => b1 = x5 ∧ ∃ (τ : RSt) (c : Nat), b3.toInt = (c : Int) ∧ 1 ≤ c ∧ c ≤ 7 ∧ Rp K L B n m τ t ∧ TFx (s.1 26).toInt s t ∧ (s.1 26).toInt < (t.1 26).toInt ∧ (c = 7 → ¬ τ.1 = 0) ∧ (if ¬ c = 7 ∧ t_k K 44 τ = true then p_l K L (p_t K L m) 93 (7 - c) (a_d τ) else e_k K L 93 τ) = p_l K L (p_t K L m) 93 7 (0, σ.2 + 1) ∧ (if ¬ c = 7 ∧ t_k K 44 τ = true then p_n K (p_t K L m) (7 - c) (a_d τ) + c else c) = p_n K (p_t K L m) 7 (0, σ.2 + 1) ∧ (τ.1 = 0 → ∃ z u : Nat → Int, z 0 = (s.1 26).toInt ∧ z c = (t.1 26).toInt ∧ u 0 = σ.2 + 1 ∧ u c = τ.2 + 1 ∧ b2.toInt = z (c - 1) ∧ yCh t (yT K L B t m) (nxT K L) c z u), ⟨rfl, p_t K L m false (0, σ.2 + 1), 1, by decide, by omega, by omega, q5, TFx_tr (Int.le_refl _) (TFx_78 p1 (Int.le_refl _)) q4, q3, by omega, ?_, ?_, fun hf => ?_⟩, ?_⟩
  · have e := pl_s (K := K) (L := L) (c := 93) (p_t K L m) 6 (0, σ.2 + 1)
    rw [decide_eq_false (show ¬ 6 = 0 by decide)] at e
    refine Eq.trans ?_ e.symm
    by_cases hc : t_k K 44 (p_t K L m false (0, σ.2 + 1)) = true
    · rw [if_pos ⟨by decide, hc⟩, if_pos ⟨by decide, hc⟩]
    · rw [if_neg (fun w => hc w.2), if_neg (fun w => hc w.2)]
  · have e := pn_s (K := K) (p_t K L m) 6 (0, σ.2 + 1)
    rw [decide_eq_false (show ¬ 6 = 0 by decide)] at e
    refine Eq.trans ?_ e.symm
    by_cases hc : t_k K 44 (p_t K L m false (0, σ.2 + 1)) = true
    · rw [if_pos ⟨by decide, hc⟩, if_pos ⟨by decide, hc⟩]
    · rw [if_neg (fun w => hc w.2), if_neg (fun w => hc w.2)]
  · obtain ⟨y1, y2⟩ := q6 hf
    have hx : nxT K L (σ.2 + 1) = (p_t K L m false (0, σ.2 + 1)).2 := by
      unfold nxT
      rw [pt_mono m 11 (by omega) _ _ hf]
    refine ⟨fun i => if i = 0 then (s.1 26).toInt else (s3.1 26).toInt, fun i => if i = 0 then σ.2 + 1 else (p_t K L m false (0, σ.2 + 1)).2 + 1, rfl, rfl, rfl, rfl, q1, fun i hi => ?_, fun i hi => by omega, fun _ => y2⟩
    have e : i = 0 := by omega
    subst e
    exact ⟨y1, by show (p_t K L m false (0, σ.2 + 1)).2 + 1 = nxT K L (σ.2 + 1) + 1; rw [hx], q2, q3⟩
  · rintro b1 b2 b3 t ⟨hb1, τ, c, g1, g2, g3, g4, g5, g6, g7, g8, g9, g10⟩
    replace hb1 := hb1.symm
    subst hb1
    unfold ub_174_10
    refine Par.imp (x_168 hP g4.1 g4.2.1 (a1 := 44) (by decide)) ?_
    rintro v2 s1' ⟨r1, x3, rfl, hr3⟩
    rw [show (44 : Int32).toInt = 44 by decide] at hr3
    have f26 : s1'.1 26 = t.1 26 := r1.2 26 (by decide) (by decide)
    have F1 : TFx (s.1 26).toInt s s1' := TFx_tr (Int.le_refl _) g5 (TFx_78 r1 (by omega))
    refine ⟨x3, rfl, fun w => ?_, fun w => ?_⟩
    · -- no comma
      rcases hr3 with ⟨y1, -⟩ | ⟨-, y2, y3, -⟩
      · omega
      have hno : ¬ (¬ c = 7 ∧ t_k K 44 τ = true) := fun q => by
        rw [y2] at q
        cases q.2
      rw [if_neg hno] at g8 g9
      refine Par.imp (x_167 hP (RTk_78 r1 g4.1) y3 (a1 := 93) (by decide)) ?_
      rintro v5 s4 ⟨rfl, w1, w2⟩
      rw [show (93 : Int32).toInt = 93 by decide, g8] at w2
      refine ⟨rfl, fun s6 hs6 => ?_⟩
      have e4 : s4.1 26 = t.1 26 := (w1.2 26 (by decide) (by decide)).trans f26
      have e6 : s6.1 26 = t.1 26 := by rw [hs6, sfr_1, if_neg (by decide)]; exact e4
      have e62 : s6.2 = t.2 := by rw [hs6, sfr_2, w1.1, r1.1]
      refine ⟨x5, rfl, q1, q2, by rw [e6]; exact g6, ?_, ⟨RTk_eq (by rw [e62]) (by rw [e62]) (by rw [e62]) g4.1, ?_, ?_⟩, fun hr => ⟨?_, ?_⟩⟩
      · rw [hs6]
        exact TFx_tr (Int.le_refl _) F1 (TFx_tr (Int.le_refl _) (TFx_78 w1 (by rw [f26]; omega)) (TFx_sf (Or.inr (Or.inr (Or.inr rfl))) (by rw [e4]; omega)))
      · rw [hs6]
        exact ⟨by rw [sfr_1, if_neg (by decide)]; exact w2.1, fun w => by rw [sfr_1, if_neg (by decide)]; exact w2.2 w⟩
      · rw [hs6, sfr_1, if_neg (by decide), w1.2 27 (by decide) (by decide), r1.2 27 (by decide) (by decide)]
        exact g4.2.2
      · rw [hs6, sfr_1, if_pos rfl, g1, ← NT_eq (by omega) hr, ← g9]
      · have hr' := hr
        rw [← g8] at hr
        obtain ⟨z, u, c1, c2, c3, c4, c5, c6⟩ := g10 (ek_0 hr).1
        rw [← NT_eq (by omega) hr', ← g9]
        exact ⟨z, u, c1, by rw [e6]; exact c2, c3, yCh_one c6 (fun i _ f => yT_eq m _ _ _ f ⟨fun _ _ _ _ _ => by rw [e62], fun _ _ _ => by rw [e62]⟩) (fun i _ => by rw [e62])⟩
    · -- a comma
      rcases hr3 with ⟨y1, y2, y3⟩ | ⟨y1, -⟩
      · obtain ⟨f0, f1⟩ := tk_t y2
        have hc7 : ¬ c = 7 := fun e => g7 e f0
        rw [if_pos ⟨hc7, y2⟩] at g8 g9
        have T1 := RTk_78 r1 g4.1
        obtain ⟨z, u, c1, c2, c3, c4, c5, c6⟩ := g10 f0
        have eAt : a_d τ = (0, u c) := by
          unfold a_d
          rw [f0, c4]
        rw [eAt] at g8 g9 y3
        -- the next one
        have nxt : ∀ (t' : yS) (b : Bool), b = decide (c = 6) → R78 t t' → RTk K L B n t' → (∃ ρ : RSt, RQr B n ρ t' ∧ p_t K L m false ρ = p_t K L m b (0, u c) ∧ ((p_t K L m b (0, u c)).1 = 0 → ρ = (0, u c))) → ub_174_25 (Par d) (fun b1 b2 b3 t => b1 = x5 ∧ ∃ (τ : RSt) (c : Nat), b3.toInt = (c : Int) ∧ 1 ≤ c ∧ c ≤ 7 ∧ Rp K L B n m τ t ∧ TFx (s.1 26).toInt s t ∧ (s.1 26).toInt < (t.1 26).toInt ∧ (c = 7 → ¬ τ.1 = 0) ∧ (if ¬ c = 7 ∧ t_k K 44 τ = true then p_l K L (p_t K L m) 93 (7 - c) (a_d τ) else e_k K L 93 τ) = p_l K L (p_t K L m) 93 7 (0, σ.2 + 1) ∧ (if ¬ c = 7 ∧ t_k K 44 τ = true then p_n K (p_t K L m) (7 - c) (a_d τ) + c else c) = p_n K (p_t K L m) 7 (0, σ.2 + 1) ∧ (τ.1 = 0 → ∃ z u : Nat → Int, z 0 = (s.1 26).toInt ∧ z c = (t.1 26).toInt ∧ u 0 = σ.2 + 1 ∧ u c = τ.2 + 1 ∧ b2.toInt = z (c - 1) ∧ yCh t (yT K L B t m) (nxT K L) c z u)) x5 b2 b3 t' (fun v s' => ∃ r : Int32, v = some (.int r) ∧ r.toInt = (s.1 26).toInt ∧ 0 ≤ (s.1 26).toInt ∧ (s.1 26).toInt < (s'.1 26).toInt ∧ TFx (s.1 26).toInt s s' ∧ Rp K L B n m (p_l K L (p_t K L m) 93 7 (0, σ.2 + 1)) s' ∧ ((p_l K L (p_t K L m) 93 7 (0, σ.2 + 1)).1 = 0 → (s'.1 28).toInt = (NT K L σ.2 : Int) ∧ ych s' (yT K L B s' m) (nxT K L) (NT K L σ.2) (s.1 26).toInt (s'.1 26).toInt (σ.2 + 1))) := by
          intro t' b hb t1 t2 ⟨ρ, t3, t4, t5⟩
          have h26 : t'.1 26 = t.1 26 := t1.2 26 (by decide) (by decide)
          unfold ub_174_25
          refine Par.imp (ih m ρ t' (by omega) ⟨t2, t3, by rw [t1.2 27 (by decide) (by decide)]; exact g4.2.2⟩) ?_
          rintro v2 s1'' ⟨x3, rfl, j1, j2, j3, j4, j5, j6⟩
          rw [h26] at j1 j2 j3 j4 j6
          rw [t4] at j5 j6
          refine ⟨x3, rfl, fun hb2 s4 hs4 _ x5' hx5 => ?_⟩
          have e4 : s4.1 = s1''.1 := by rw [hs4]; rfl
          have F4 : TFx (t.1 26).toInt t s1'' := TFx_tr (Int.le_refl _) (TFx_78 t1 (Int.le_refl _)) j4
          have hzb : ((b2.toInt.toNat : Nat) : Int) = b2.toInt := Int.toNat_of_nonneg hb2.1
          have r4 : ∀ q j, s4.2.1 q j = if q = 225 ∧ j = b2.toInt.toNat then x3 else s1''.2.1 q j := fun q j => by rw [hs4, sa_21]
          have hz0 : (s.1 26).toInt ≤ z (c - 1) ∧ z (c - 1) < (t.1 26).toInt := by
            have a := yCh_mono c6 0 (c - 1) (by omega) (by omega)
            have b := (c6.1 (c - 1) (by omega)).2.2
            rw [show c - 1 + 1 = c by omega, c2] at b
            omega
          have F4' : TFx (s.1 26).toInt s s4 := by
            refine TFx_tr (Int.le_refl _) g5 (TFx_tr (N' := (s.1 26).toInt) (Int.le_refl _) (s' := s1'') ?_ ?_)
            · exact ⟨F4.1, F4.2.1, fun p i w => F4.2.2.1 p i (by rcases w with w | w; exact Or.inl w; exact Or.inr (by omega)), by have := F4.2.2.2; omega⟩
            · rw [hs4]
              exact TFx_sa (by unfold nRw; omega) (by omega) (by omega)
          have T4 : RTk K L B n s4 := RTk_eq (funext fun j => by rw [r4, if_neg (by omega)]) (funext fun j => by rw [r4, if_neg (by omega)]) (funext fun j => by rw [r4, if_neg (by omega)]) j5.1
          have hfuel : 7 - c = (6 - c) + 1 := by omega
          have hbk : b = decide (6 - c = 0) := by
            rw [hb]
            by_cases e : c = 6
            · rw [decide_eq_true e, decide_eq_true (by omega)]
            · rw [decide_eq_false e, decide_eq_false (by omega)]
          refine ⟨rfl, p_t K L m b (0, u c), c + 1, by omega, by omega, by omega, ⟨T4, ⟨by rw [e4]; exact j5.2.1.1, fun w => by rw [e4]; exact j5.2.1.2 w⟩, by rw [e4]; exact j5.2.2⟩, F4', by rw [e4]; omega, fun e => ?_, ?_, ?_, fun hf => ?_⟩
          · have : b = true := by
              rw [hb]
              exact decide_eq_true (by omega)
            rw [this, ← pt_b]
            intro hf
            by_cases hk1 : t_k K 1 (0, u c) = true
            · rw [if_pos hk1] at hf
              have := (pt_fw m _ _ hf).1
              dsimp only at this
              omega
            · rw [if_neg hk1] at hf
              cases m with
              | zero => exact ef_t (show (e_f K L true (0, u c)).1 = 0 from hf)
              | succ m =>
                rw [p_t] at hf
                by_cases h9 : t_k K 91 (e_f K L false (0, u c)) = true
                · have := ef_0 (tk_t h9).1
                  exact hk1 (decide_eq_true ⟨this.1, this.2.1⟩)
                · rw [if_neg h9] at hf
                  have := ef_0 hf
                  exact hk1 (decide_eq_true ⟨this.1, this.2.1⟩)
          · rw [← g8, hfuel, p_l, ← hbk]
            by_cases hq : t_k K 44 (p_t K L m b (0, u c)) = true
            · by_cases e : c = 6
              · rw [if_neg (fun w => w.1 (by omega)), if_neg (fun w => w.1 (by omega))]
              · rw [if_pos ⟨by omega, hq⟩, if_pos ⟨by omega, hq⟩, show 7 - (c + 1) = 6 - c by omega]
            · rw [if_neg (fun w => hq w.2), if_neg (fun w => hq w.2)]
          · rw [← g9, hfuel, p_n, ← hbk]
            by_cases hq : t_k K 44 (p_t K L m b (0, u c)) = true
            · by_cases e : c = 6
              · rw [if_neg (fun w => w.1 (by omega)), if_neg (fun w => w.1 (by omega))]
                omega
              · rw [if_pos ⟨by omega, hq⟩, if_pos ⟨by omega, hq⟩, show 7 - (c + 1) = 6 - c by omega]
                omega
            · rw [if_neg (fun w => hq w.2), if_neg (fun w => hq w.2)]
              omega
          · have hρ := t5 hf
            obtain ⟨y1', y2'⟩ := j6 hf
            rw [hρ] at y1'
            dsimp only at y1'
            have hb0 : b = false := (fun (b : Bool) (w : (p_t K L m b (0, u c)).1 = 0) => (by
              cases b with
              | false => rfl
              | true =>
                exfalso
                cases m with
                | zero => exact ef_t (show (e_f K L true (0, u c)).1 = 0 from w)
                | succ m =>
                  rw [p_t] at w
                  by_cases h9 : t_k K 91 (e_f K L true (0, u c)) = true
                  · exact ef_t (tk_t h9).1
                  · rw [if_neg h9] at w
                    exact ef_t w : b = false)) b hf
            have hx : nxT K L (u c) = (p_t K L m b (0, u c)).2 := by
              unfold nxT
              rw [hb0] at hf ⊢
              rw [pt_mono m 11 (by omega) _ _ hf]
            refine ⟨fun i => if i ≤ c then z i else (s1''.1 26).toInt, fun i => if i ≤ c then u i else nxT K L (u c) + 1, by dsimp only; rw [if_pos (Nat.zero_le _)]; exact c1, by dsimp only; rw [if_neg (by omega), e4], by dsimp only; rw [if_pos (Nat.zero_le _)]; exact c3, by dsimp only; rw [if_neg (by omega), hx], by dsimp only; rw [show c + 1 - 1 = c by omega, if_pos (Nat.le_refl _), j1, c2], ?_⟩
            have zlt : ∀ i, i < c → z i ≤ z (c - 1) ∧ z (i + 1) ≤ (t.1 26).toInt := fun i hi => by
              have a := yCh_mono c6 i (c - 1) (by omega) (by omega)
              have b := yCh_mono c6 (i + 1) c (by omega) (Nat.le_refl _)
              omega
            have zpos : ∀ i, i < c → 0 ≤ z i := fun i hi => (c6.1 i hi).2.2.1
            have same : ∀ p (j : Int), 0 ≤ j → j < (t.1 26).toInt → ¬ (p = 225 ∧ j = b2.toInt) → s4.2.1 p j.toNat = t.2.1 p j.toNat := fun p j j0 j1 hne => by
              rw [r4, if_neg (by omega), F4.2.2.1 p _ (Or.inr (by omega))]
            refine yCh_add c6 (fun i hi f => yT_eq m _ _ _ f ⟨fun p j hp h1 h2 => ?_, fun j h1 h2 => ?_⟩) ?_ ?_ (fun i hi => ?_) (fun _ => ?_) ?_
            · have := zlt i hi
              have := zpos i hi
              exact same p j (by omega) (by omega) (by omega)
            · have := zlt i hi
              have := zpos i hi
              refine same 225 j (by omega) (by omega) (fun e => ?_)
              -- the last root is no inner node
              rw [c5] at e
              by_cases el : i = c - 1
              · rw [el] at h1
                omega
              · have := yCh_mono c6 (i + 1) (c - 1) (by omega) (by omega)
                omega
            · rw [c2]
              refine yT_eq m _ _ _ y1' ⟨fun p j hp h1 h2 => ?_, fun j h1 h2 => ?_⟩
              · rw [r4, if_neg (by omega)]
              · rw [r4, if_neg (by omega)]
            · rw [c2]
              exact ⟨j2, j3⟩
            · have h1 := zlt i (by omega)
              have h2 := zpos i (by omega)
              have h3 := (c6.1 i (by omega)).2.2.2
              have h4 := yCh_mono c6 (i + 1) (c - 1) (by omega) (by omega)
              exact same 225 (z i) h2 (by omega) (by omega)
            · rw [← c5, r4, if_pos ⟨rfl, rfl⟩, j1, c2]
            · rw [c2, r4, if_neg (by omega)]
              exact y2'
        refine ⟨fun h6 => ?_, fun h6 => ?_⟩
        · exact nxt s1' false (by rw [decide_eq_false (by omega)]) r1 T1 ⟨(0, u c), y3, rfl, fun _ => rfl⟩
        · refine Par.imp (x_166 T1 y3) ?_
          rintro v8 s7 ⟨rfl, x9, rfl, hr9⟩
          refine ⟨x9, rfl, fun w9 => ?_, fun w9 => ?_⟩
          · rcases hr9 with ⟨z1, -⟩ | ⟨-, z2⟩
            · omega
            refine nxt s7 true (by rw [decide_eq_true (by omega)]) r1 T1 ⟨(0, u c), y3, ?_, fun _ => rfl⟩
            rw [← pt_b, if_neg (by rw [z2]; decide)]
          · rcases hr9 with ⟨-, z2⟩ | ⟨z1, -⟩
            · refine Par.imp (x_163h T1 y3 (w := 5) (by decide) (by decide) (fun _ => rfl)) ?_
              rintro v11 s10 ⟨rfl, d1, d2, d3⟩
              rw [if_pos rfl] at d3
              have hb' := pt_b (K := K) (L := L) (σ := (0, u c)) m
              rw [if_pos z2] at hb'
              refine ⟨rfl, nxt s10 true (by rw [decide_eq_true (by omega)]) (R78_tr r1 d1) (RTk_78 d1 T1) ⟨_, d3, hb', fun hf => ?_⟩⟩
              · exfalso
                rw [← pt_b, if_pos z2] at hf
                have := (pt_fw m _ _ hf).1
                dsimp only at this
                omega
            · omega
      · omega
theorem x_17 (hP : TXp K L n) : ∀ d, T173 K L B n d ∧ T174 K L B n d
  | 0 => ⟨fun _ _ _ _ _ => Par_0, fun _ _ _ _ _ _ => Par_0⟩
  | d + 1 => ⟨x_173s (x_17 hP d).2 hP, x_174s (x_17 hP d).1 hP⟩
end RT3
