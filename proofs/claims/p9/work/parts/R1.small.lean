/-! ===== the reference's reader: where it stands ===== -/
/-- a token's kind as the reference tells it: sort and word -/
def kR (k so wo : Int) : Prop := (k = 0 ∧ so = 0) ∨ (k = 1 ∧ so = 1 ∧ 5 < wo) ∨ (k = 2 ∧ so = 4) ∨ (3 ≤ k ∧ k ≤ 8 ∧ so = 1 ∧ wo = k - 3) ∨ (9 ≤ k ∧ so = 3 ∧ wo = k)
theorem kR_sg {k so wo c : Int} (h : kR k so wo) (hc : 9 ≤ c) : (so = 3 ∧ wo = c) ↔ k = c := by
  unfold kR at h
  omega
theorem kR_wd {k so wo w : Int} (h : kR k so wo) (h1 : 0 ≤ w) (h2 : w ≤ 5) : (so = 1 ∧ wo = w) ↔ k = w + 3 := by
  unfold kR at h
  omega
theorem kR_nm {k so wo : Int} (h : kR k so wo) : (so = 1 ∧ ¬ wo ≤ 5) ↔ k = 1 := by
  unfold kR at h
  omega
theorem kR_0 {k so wo : Int} (h : kR k so wo) : so = 0 ↔ k = 0 := by
  unfold kR at h
  omega
/-- kinds and places of the tokens from B on -/
def RTk (K L : Int → Int) (B n : Int) (s : yS) : Prop := ∀ i : Int, 0 ≤ i → i ≤ n → kR (K i) (s.2.1 215 (B + i).toNat).toInt (s.2.1 217 (B + i).toNat).toInt ∧ (s.2.1 216 (B + i).toNat).toInt = L i
/-- where it stands -/
def RQr (B n : Int) (σ : RSt) (s : yS) : Prop := (s.1 8).toInt = σ.1 ∧ (σ.1 = 0 → (s.1 7).toInt = B + σ.2 ∧ 0 ≤ σ.2 ∧ σ.2 ≤ n)
/-- only the token and the fault are written -/
def R78 (s s' : yS) : Prop := s'.2 = s.2 ∧ ∀ k, ¬ k = 7 → ¬ k = 8 → s'.1 k = s.1 k
section RSM
variable {d : Nat} {s s' s'' : yS} {K L : Int → Int} {B n : Int} {σ : RSt} {a1 a2 x : Int32}
theorem sfr_1 {k q : Nat} : (sf s k x).1 q = if q = k then x else s.1 q := rfl
theorem sfr_2 {k : Nat} : (sf s k x).2 = s.2 := rfl
theorem R78_rf : R78 s s := ⟨rfl, fun _ _ _ => rfl⟩
theorem R78_tr (h : R78 s s') (g : R78 s' s'') : R78 s s'' := ⟨g.1.trans h.1, fun k h1 h2 => (g.2 k h1 h2).trans (h.2 k h1 h2)⟩
theorem R78_7 : R78 s (sf s 7 x) := ⟨rfl, fun k h1 _ => by rw [sfr_1, if_neg h1]⟩
theorem R78_8 : R78 s (sf s 8 x) := ⟨rfl, fun k _ h2 => by rw [sfr_1, if_neg h2]⟩
theorem RTk_eq (h : s'.2.1 215 = s.2.1 215) (h1 : s'.2.1 216 = s.2.1 216) (h2 : s'.2.1 217 = s.2.1 217) (g : RTk K L B n s) : RTk K L B n s' := fun i i1 i2 => by
  rw [h, h1, h2]
  exact g i i1 i2
theorem RTk_78 (h : R78 s s') (g : RTk K L B n s) : RTk K L B n s' := RTk_eq (by rw [h.1]) (by rw [h.1]) (by rw [h.1]) g
/-- wrong -/
theorem x_163 : Par d 163 [.ref 213, .int a1, .int a2] s (fun v s' => v = none ∧ R78 s s' ∧ (s'.1 7) = s.1 7 ∧ (¬ (s.1 8).toInt = 0 → s'.1 8 = s.1 8) ∧ ((s.1 8).toInt = 0 → (s'.1 8).toInt = a1.toInt + 16 * (s.2.1 216 a2.toInt.toNat).toInt)) := by
  cases d with
  | zero => exact Par_0
  | succ d =>
    refine pb_163 ?_
    unfold ub_163_0 ub_163_13
    refine ⟨fun w => ⟨rfl, R78_rf, rfl, fun _ => rfl, fun q => absurd q w⟩, fun h0 _ _ x1 hx1 _ x2 hx2 s3 hs3 => ?_⟩
    rw [hs3]
    refine ⟨rfl, R78_8, by rw [sfr_1, if_neg (by decide)], fun q => absurd h0 q, fun _ => ?_⟩
    rw [sfr_1, if_pos rfl]
    omega
/-- wrong, here -/
theorem x_163h (hT : RTk K L B n s) (h : RQr B n σ s) {w : Int} (ha : a1.toInt = w) (hw : 0 < w ∧ w < 16) (h2 : σ.1 = 0 → a2 = s.1 7) : Par d 163 [.ref 213, .int a1, .int a2] s (fun v s' => v = none ∧ R78 s s' ∧ (s'.1 7) = s.1 7 ∧ RQr B n (if σ.1 = 0 then (w + 16 * L σ.2, σ.2) else σ) s') := by
  refine Par.imp x_163 ?_
  rintro v s' ⟨rfl, p1, p2, p3, p4⟩
  refine ⟨rfl, p1, p2, ?_⟩
  by_cases h0 : σ.1 = 0
  · rw [if_pos h0]
    obtain ⟨q1, q2, q3⟩ := h.2 h0
    have e := p4 (by rw [h.1]; exact h0)
    rw [h2 h0, q1, (hT _ q2 q3).2, ha] at e
    exact ⟨e, fun w => by dsimp only at w; omega⟩
  · rw [if_neg h0]
    exact ⟨by rw [p3 (by rw [h.1]; exact h0)]; exact h.1, fun w => absurd w h0⟩
/-- isSign -/
theorem x_164 (hT : RTk K L B n s) (h : RQr B n σ s) (hc : 9 ≤ a1.toInt) : Par d 164 [.ref 213, .int a1] s (fun v s' => s' = s ∧ ∃ r : Int32, v = some (.int r) ∧ ((r.toInt = 1 ∧ t_k K a1.toInt σ = true) ∨ (r.toInt = 0 ∧ t_k K a1.toInt σ = false))) := by
  cases d with
  | zero => exact Par_0
  | succ d =>
    refine pb_164 ?_
    have no : t_k K a1.toInt σ = false → ub_164_19 (Par d) a1 s (fun v s' => s' = s ∧ ∃ r : Int32, v = some (.int r) ∧ ((r.toInt = 1 ∧ t_k K a1.toInt σ = true) ∨ (r.toInt = 0 ∧ t_k K a1.toInt σ = false))) := by
      intro hk
      unfold ub_164_19 ub_164_20
      exact fun _ => ⟨rfl, 0, rfl, Or.inr ⟨by decide, hk⟩⟩
    unfold ub_164_0
    refine ⟨fun w => no (tk_f (by rw [← h.1]; exact w)), fun h0 => ?_⟩
    obtain ⟨q1, q2, q3⟩ := h.2 (by rw [← h.1]; exact h0)
    rw [q1]
    have hk := kR_sg (hT _ q2 q3).1 hc
    intro _
    refine ⟨fun w => no (decide_eq_false (fun q => w (hk.mpr q.2).1)), fun w1 _ => ⟨fun w => no (decide_eq_false (fun q => w (hk.mpr q.2).2)), fun w2 => ?_⟩⟩
    unfold ub_164_20
    exact fun _ => ⟨rfl, 1, rfl, Or.inl ⟨by decide, decide_eq_true ⟨by rw [← h.1]; exact h0, hk.mp ⟨w1, w2⟩⟩⟩⟩
/-- isWord -/
theorem x_165 (hT : RTk K L B n s) (h : RQr B n σ s) (hc : 0 ≤ a1.toInt) (hc2 : a1.toInt ≤ 5) : Par d 165 [.ref 213, .int a1] s (fun v s' => s' = s ∧ ∃ r : Int32, v = some (.int r) ∧ ((r.toInt = 1 ∧ t_k K (a1.toInt + 3) σ = true) ∨ (r.toInt = 0 ∧ t_k K (a1.toInt + 3) σ = false))) := by
  cases d with
  | zero => exact Par_0
  | succ d =>
    refine pb_165 ?_
    have no : t_k K (a1.toInt + 3) σ = false → ub_165_19 (Par d) a1 s (fun v s' => s' = s ∧ ∃ r : Int32, v = some (.int r) ∧ ((r.toInt = 1 ∧ t_k K (a1.toInt + 3) σ = true) ∨ (r.toInt = 0 ∧ t_k K (a1.toInt + 3) σ = false))) := by
      intro hk
      unfold ub_165_19 ub_165_20
      exact fun _ => ⟨rfl, 0, rfl, Or.inr ⟨by decide, hk⟩⟩
    unfold ub_165_0
    refine ⟨fun w => no (tk_f (by rw [← h.1]; exact w)), fun h0 => ?_⟩
    obtain ⟨q1, q2, q3⟩ := h.2 (by rw [← h.1]; exact h0)
    rw [q1]
    have hk := kR_wd (hT _ q2 q3).1 hc hc2
    intro _
    refine ⟨fun w => no (decide_eq_false (fun q => w (hk.mpr q.2).1)), fun w1 _ => ⟨fun w => no (decide_eq_false (fun q => w (hk.mpr q.2).2)), fun w2 => ?_⟩⟩
    unfold ub_165_20
    exact fun _ => ⟨rfl, 1, rfl, Or.inl ⟨by decide, decide_eq_true ⟨by rw [← h.1]; exact h0, hk.mp ⟨w1, w2⟩⟩⟩⟩
/-- isName -/
theorem x_166 (hT : RTk K L B n s) (h : RQr B n σ s) : Par d 166 [.ref 213] s (fun v s' => s' = s ∧ ∃ r : Int32, v = some (.int r) ∧ ((r.toInt = 1 ∧ t_k K 1 σ = true) ∨ (r.toInt = 0 ∧ t_k K 1 σ = false))) := by
  cases d with
  | zero => exact Par_0
  | succ d =>
    refine pb_166 ?_
    have no : t_k K 1 σ = false → ub_166_19 (Par d) s (fun v s' => s' = s ∧ ∃ r : Int32, v = some (.int r) ∧ ((r.toInt = 1 ∧ t_k K 1 σ = true) ∨ (r.toInt = 0 ∧ t_k K 1 σ = false))) := by
      intro hk
      unfold ub_166_19 ub_166_20
      exact fun _ => ⟨rfl, 0, rfl, Or.inr ⟨by decide, hk⟩⟩
    unfold ub_166_0
    refine ⟨fun w => no (tk_f (by rw [← h.1]; exact w)), fun h0 => ?_⟩
    obtain ⟨q1, q2, q3⟩ := h.2 (by rw [← h.1]; exact h0)
    rw [q1]
    have hk := kR_nm (hT _ q2 q3).1
    intro _
    refine ⟨fun w => no (decide_eq_false (fun q => w (hk.mpr q.2).1)), fun w1 _ => ⟨fun w => no (decide_eq_false (fun q => (hk.mpr q.2).2 w)), fun w2 => ?_⟩⟩
    unfold ub_166_20
    exact fun _ => ⟨rfl, 1, rfl, Or.inl ⟨by decide, decide_eq_true ⟨by rw [← h.1]; exact h0, hk.mp ⟨w1, w2⟩⟩⟩⟩
/-- one on: without a fault at a token that is not the end -/
theorem RQ_ad (hT : TXp K L n) (h : RQr B n σ s) (hk : ¬ K σ.2 = 0) (hx : x.toInt = (s.1 7).toInt + 1) : RQr B n (a_d σ) (sf s 7 x) := by
  refine ⟨by rw [sfr_1, if_neg (by decide)]; exact h.1, fun h0 => ?_⟩
  obtain ⟨q1, q2, q3⟩ := h.2 h0
  rw [sfr_1, if_pos rfl]
  unfold a_d
  dsimp only
  have : ¬ σ.2 = n := fun e => by
    rw [e, hT.2.1] at hk
    exact hk rfl
  omega
theorem RQ_7f (h : RQr B n σ s) (h0 : ¬ σ.1 = 0) : RQr B n σ (sf s 7 x) := ⟨by rw [sfr_1, if_neg (by decide)]; exact h.1, fun w => absurd w h0⟩
/-- takeSign -/
theorem x_167 (hP : TXp K L n) (hT : RTk K L B n s) (h : RQr B n σ s) (hc : 9 ≤ a1.toInt) : Par d 167 [.ref 213, .int a1] s (fun v s' => v = none ∧ R78 s s' ∧ RQr B n (e_k K L a1.toInt σ) s') := by
  cases d with
  | zero => exact Par_0
  | succ d =>
    refine pb_167 ?_
    unfold ub_167_0
    refine Par.imp (x_164 hT h hc) ?_
    rintro v s1 ⟨rfl, r, rfl, hr⟩
    refine ⟨r, rfl, fun w => ?_, fun w _ x6 hx6 s7 hs7 => ?_⟩
    · rcases hr with ⟨h1, -⟩ | ⟨-, h1⟩
      · omega
      refine Par.imp (x_163h hT h (w := 1) (by decide) (by decide) (fun _ => rfl)) ?_
      rintro v s4 ⟨rfl, p1, p2, p3⟩
      unfold ub_167_16
      refine ⟨rfl, rfl, p1, ?_⟩
      unfold e_k
      by_cases h0 : σ.1 = 0
      · rw [if_pos h0] at p3 ⊢
        rw [if_neg (fun q => by rw [show t_k K a1.toInt σ = true from decide_eq_true ⟨h0, q⟩] at h1; cases h1)]
        exact p3
      · rw [if_neg h0] at p3 ⊢
        exact p3
    · rcases hr with ⟨-, h1⟩ | ⟨h1, -⟩
      · obtain ⟨k0, k1⟩ := tk_t h1
        unfold ub_167_16
        rw [hs7]
        refine ⟨rfl, R78_7, ?_⟩
        rw [ek_y k0 k1]
        have := RQ_ad hP h (by rw [k1]; omega) hx6
        unfold a_d at this
        rw [k0] at this
        exact this
      · omega
/-- hasSign -/
theorem x_168 (hP : TXp K L n) (hT : RTk K L B n s) (h : RQr B n σ s) (hc : 9 ≤ a1.toInt) : Par d 168 [.ref 213, .int a1] s (fun v s' => R78 s s' ∧ ∃ r : Int32, v = some (.int r) ∧ ((r.toInt = 1 ∧ t_k K a1.toInt σ = true ∧ RQr B n (a_d σ) s') ∨ (r.toInt = 0 ∧ t_k K a1.toInt σ = false ∧ RQr B n σ s' ∧ s'.1 7 = s.1 7))) := by
  cases d with
  | zero => exact Par_0
  | succ d =>
    refine pb_168 ?_
    unfold ub_168_0
    refine Par.imp (x_164 hT h hc) ?_
    rintro v s1 ⟨rfl, r, rfl, hr⟩
    refine ⟨r, rfl, fun w => ?_, fun w => ?_⟩
    · rcases hr with ⟨h1, -⟩ | ⟨-, h1⟩
      · omega
      unfold ub_168_12
      intro _ x1 hx1 s2 hs2 _
      have e : x1 = s1.1 7 := by
        apply Int32.toInt_inj.mp
        rw [hx1, show (0 : Int32).toInt = 0 by decide]
        omega
      rw [hs2]
      refine ⟨R78_7, r, rfl, Or.inr ⟨w, h1, ⟨by rw [sfr_1, if_neg (by decide)]; exact h.1, fun h0 => ?_⟩, by rw [sfr_1, if_pos rfl, e]⟩⟩
      rw [sfr_1, if_pos rfl, e]
      exact h.2 h0
    · rcases hr with ⟨h2, h1⟩ | ⟨h1, -⟩
      · obtain ⟨k0, k1⟩ := tk_t h1
        unfold ub_168_12
        intro _ x1 hx1 s2 hs2 _
        rw [hs2]
        refine ⟨R78_7, r, rfl, Or.inl ⟨h2, h1, RQ_ad hP h (by rw [k1]; omega) ?_⟩⟩
        rw [hx1, show (1 : Int32).toInt = 1 by decide]
      · omega
/-- takeWord -/
theorem x_169 (hP : TXp K L n) (hT : RTk K L B n s) (h : RQr B n σ s) (hc : 0 ≤ a1.toInt) (hc2 : a1.toInt ≤ 5) : Par d 169 [.ref 213, .int a1] s (fun v s' => v = none ∧ R78 s s' ∧ RQr B n (e_k K L (a1.toInt + 3) σ) s') := by
  cases d with
  | zero => exact Par_0
  | succ d =>
    refine pb_169 ?_
    unfold ub_169_0
    refine Par.imp (x_165 hT h hc hc2) ?_
    rintro v s1 ⟨rfl, r, rfl, hr⟩
    refine ⟨r, rfl, fun w => ?_, fun w _ x6 hx6 s7 hs7 => ?_⟩
    · rcases hr with ⟨h1, -⟩ | ⟨-, h1⟩
      · omega
      refine Par.imp (x_163h hT h (w := 1) (by decide) (by decide) (fun _ => rfl)) ?_
      rintro v s4 ⟨rfl, p1, p2, p3⟩
      unfold ub_169_16
      refine ⟨rfl, rfl, p1, ?_⟩
      unfold e_k
      by_cases h0 : σ.1 = 0
      · rw [if_pos h0] at p3 ⊢
        rw [if_neg (fun q => by rw [show t_k K (a1.toInt + 3) σ = true from decide_eq_true ⟨h0, q⟩] at h1; cases h1)]
        exact p3
      · rw [if_neg h0] at p3 ⊢
        exact p3
    · rcases hr with ⟨-, h1⟩ | ⟨h1, -⟩
      · obtain ⟨k0, k1⟩ := tk_t h1
        unfold ub_169_16
        rw [hs7]
        refine ⟨rfl, R78_7, ?_⟩
        rw [ek_y k0 k1]
        have := RQ_ad hP h (by rw [k1]; omega) hx6
        unfold a_d at this
        rw [k0] at this
        exact this
      · omega
/-- takeName -/
theorem x_170 (hP : TXp K L n) (hT : RTk K L B n s) (h : RQr B n σ s) : Par d 170 [.ref 213] s (fun v s' => ∃ r : Int32, v = some (.int r) ∧ R78 s s' ∧ RQr B n (e_k K L 1 σ) s' ∧ (σ.1 = 0 → r.toInt = B + σ.2)) := by
  cases d with
  | zero => exact Par_0
  | succ d =>
    refine pb_170 ?_
    unfold ub_170_0
    refine Par.imp (x_166 hT h) ?_
    rintro v s1 ⟨rfl, r, rfl, hr⟩
    refine ⟨r, rfl, fun w => ?_, fun w => ?_⟩
    · rcases hr with ⟨h2, h1⟩ | ⟨h1, -⟩
      · obtain ⟨k0, k1⟩ := tk_t h1
        unfold ub_170_8
        intro _ x1 hx1 s2 hs2 _ x3 hx3
        have e7 : (s2.1 7).toInt = (s1.1 7).toInt + 1 := by rw [hs2, sfr_1, if_pos rfl, hx1]
        refine ⟨x3, rfl, by rw [hs2]; exact R78_7, ?_, fun _ => ?_⟩
        · rw [ek_y k0 k1, hs2]
          have := RQ_ad hP h (by rw [k1]; decide) hx1
          unfold a_d at this
          rw [k0] at this
          exact this
        · have := (h.2 k0).1
          omega
      · omega
    · rcases hr with ⟨h1, -⟩ | ⟨-, h1⟩
      · omega
      refine Par.imp (x_163h hT h (w := 1) (by decide) (by decide) (fun _ => rfl)) ?_
      rintro v s4 ⟨rfl, p1, p2, p3⟩
      refine ⟨rfl, ?_⟩
      unfold ub_170_8
      intro _ x1 hx1 s2 hs2 _ x3 hx3
      have e7 : (s2.1 7).toInt = (s1.1 7).toInt + 1 := by rw [hs2, sfr_1, if_pos rfl, hx1, p2]
      refine ⟨x3, rfl, by rw [hs2]; exact R78_tr p1 R78_7, ?_, fun k0 => ?_⟩
      · rw [hs2]
        unfold e_k
        by_cases h0 : σ.1 = 0
        · rw [if_pos h0] at p3 ⊢
          rw [if_neg (fun q => by rw [show t_k K 1 σ = true from decide_eq_true ⟨h0, q⟩] at h1; cases h1)]
          exact RQ_7f p3 (by dsimp only; omega)
        · rw [if_neg h0] at p3 ⊢
          exact RQ_7f p3 h0
      · have := (h.2 k0).1
        omega
end RSM
