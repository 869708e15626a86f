/-! ===== banks ===== -/
def bl (q : Nat) : Nat := if q ∈ [215, 216, 217, 231, 232, 271, 272] then 4002 else if q ∈ [261, 273] then 60 else if q ∈ [220, 274] then 1 else if q = 270 then 60000 else zl q
/-- what a program read into bank b may touch -/
def tc (b q i : Nat) : Prop := (bl q * b ≤ i ∧ i < bl q * (b + 1)) ∨ (q = 264 ∧ (i < 6 ∨ (10 + 4100 * b ≤ i ∧ i < 10 + 4100 * (b + 1)) ∨ 100000 ≤ i)) ∨ q ∈ [265, 266, 267, 268, 269]
def BKF (b : Nat) (s s' : yS) : Prop := ∀ q i, ¬ tc b q i → s'.2.1 q i = s.2.1 q i
section BK
variable {b b' n W N : Nat} {s s' s'' : yS}
theorem BKF_rf : BKF b s s := fun _ _ _ => rfl
theorem BKF_tr (h : BKF b s s') (h' : BKF b s' s'') : BKF b s s'' := fun q i w => (h' q i w).trans (h q i w)
theorem BKF_2 (h : s'.2 = s.2) : BKF b s s' := fun q i _ => by rw [h]
theorem BKF_sf {k : Nat} {v : Int32} (h : BKF b s s') : BKF b s (sf s' k v) := h
theorem BKF_sa {p i : Nat} {v : Int32} (h : BKF b s s') (hi : tc b p i) : BKF b s (sa s' p i v) := fun q j w => by
  rw [sa_2, if_neg (fun e => w (by rw [e.1, e.2]; exact hi))]
  exact h q j w
theorem bl_zl : ∀ p, zl p ≠ 0 → bl p = zl p := by
  intro p hp
  unfold bl
  have z1 : ∀ q ∈ [215, 216, 217, 231, 232, 271, 272], zl q = 0 := by decide
  have z2 : ∀ q ∈ [261, 273], zl q = 0 := by decide
  have z3 : ∀ q ∈ [220, 274], zl q = 0 := by decide
  rw [if_neg (fun w => hp (z1 p w)), if_neg (fun w => hp (z2 p w)), if_neg (fun w => hp (z3 p w)), if_neg (fun w => hp (by rw [w]; decide))]
theorem BKF_cf (h : CF b s s') : BKF b s s' := by
  intro q i hn
  by_cases h1 : q ∈ [215, 216, 217]
  · refine h.2.1 q i h1 (fun w => hn (Or.inl ?_))
    have e : bl q = 4002 := (show ∀ q ∈ [215, 216, 217], bl q = 4002 by decide) q h1
    rw [e]
    omega
  · by_cases h2 : q = 220
    · subst h2
      refine h.2.2.1 i (fun w => hn (Or.inl ?_))
      rw [show bl 220 = 1 by decide]
      omega
    · rw [h.1 q (fun w => by
        rcases List.mem_cons.mp w with w | w
        · exact h1 (by rw [w]; decide)
        rcases List.mem_cons.mp w with w | w
        · exact h1 (by rw [w]; decide)
        rcases List.mem_cons.mp w with w | w
        · exact h1 (by rw [w]; decide)
        rcases List.mem_cons.mp w with w | w
        · exact h2 w
        · cases w)]
theorem BKF_nf (h : NF b (c0 b) s s') : BKF b s s' := by
  intro q i hn
  refine h.2.1 q i (fun w => hn (Or.inl ?_))
  have hz : zl q ≠ 0 := fun e => by
    rw [e] at w
    omega
  rw [bl_zl q hz]
  exact w
theorem BKF_fz (h : FZ b s s') : BKF b s s' := by
  intro q i hn
  refine h.2.1 q i (fun w => hn (Or.inl ?_)) (fun w => hn (Or.inr (Or.inl ⟨w.1, Or.inr (Or.inl w.2)⟩))) (fun w => hn (Or.inl ?_))
  · rcases w.1 with e | e
    · rw [e, show bl 231 = 4002 by decide]; exact w.2
    · rw [e, show bl 232 = 4002 by decide]; exact w.2
  · rw [w.1, show bl 261 = 60 by decide]; exact w.2
theorem mem5 {q : Nat} (h : q = 265 ∨ q = 266 ∨ q = 267 ∨ q = 268 ∨ q = 269) : q ∈ [265, 266, 267, 268, 269] := by
  rcases h with rfl | rfl | rfl | rfl | rfl <;> decide
theorem BKF_xf {ks : List Nat} {P E : Nat} (h : XF ks P E s s') (hP : 100000 ≤ P) : BKF b s s' := by
  intro q i hn
  exact h.2.1 q i (fun w => hn (Or.inr (Or.inl ⟨w.1, Or.inr (Or.inr (by omega))⟩))) (fun w => hn (Or.inr (Or.inr (mem5 (by omega))))) (fun w => hn (Or.inr (Or.inr (mem5 (by omega)))))
theorem BKF_sfr (h : SFr s s') : BKF b s s' := by
  intro q i hn
  rw [h.2.1 q (fun w => hn (Or.inr (Or.inr (mem5 (by omega)))))]
theorem BKF_tfr {ks : List Nat} {lo hi S P E O : Nat} (h : TFr ks b lo hi S P E O s s') (h1 : 4002 * b ≤ lo) (h2 : hi ≤ 4002 * (b + 1)) (hS : 10 + 4100 * b ≤ S) (hP : 100000 ≤ P) (hO : 60000 * b ≤ O) : BKF b s s' := by
  intro q i hn
  refine h.2.1 q i (fun w => hn (Or.inl ?_)) (fun w => hn (Or.inr (Or.inl ⟨w.1, Or.inr ?_⟩))) (fun w => hn (Or.inr (Or.inr (mem5 (by omega))))) (fun w => hn (Or.inr (Or.inr (mem5 (by omega))))) (fun w => hn (Or.inl ?_))
  · have e : bl q = 4002 := by
      rcases w.1 with ⟨e, -⟩ | ⟨e, -⟩ | e | e | e | e <;> rw [e] <;> decide
    rw [e]
    omega
  · omega
  · rw [w.1, show bl 270 = 60000 by decide]
    omega
theorem BKF_get {q i : Nat} (h : BKF b s s') (hb : b < 3) (hb' : b' < 2) (hne : ¬ b = b') (h1 : bl q * b' ≤ i) (h2 : i < bl q * (b' + 1)) (hq : q ∉ [264, 265, 266, 267, 268, 269]) : s'.2.1 q i = s.2.1 q i := by
  refine h q i ?_
  rintro (w | w | w)
  · have c : (b = 0 ∧ b' = 1) ∨ (b = 1 ∧ b' = 0) ∨ (b = 2 ∧ b' = 0) ∨ (b = 2 ∧ b' = 1) := by omega
    rcases c with ⟨e1, e2⟩ | ⟨e1, e2⟩ | ⟨e1, e2⟩ | ⟨e1, e2⟩
    · rw [e1] at w
      rw [e2] at h1
      omega
    · rw [e1] at w
      rw [e2] at h2
      omega
    · rw [e1] at w
      rw [e2] at h2
      omega
    · rw [e1] at w
      rw [e2] at h2
      omega
  · exact hq (by rw [w.1]; decide)
  · exact hq (List.mem_cons_of_mem _ w)
end BK
/-- a program, checked, in bank b -/
def GPx (b : Nat) (s : yS) : Prop := ∃ (own : Nat → Nat × Nat) (n W N T F H S0 : Nat) (G : PG) (S O : Nat), CK own b n N T F H S0 G s ∧ Lx b n W s ∧ PT b n N F H G S O s ∧ MN b n N H G S O s ∧ S ≤ 10 + 4100 * (b + 1) ∧ O ≤ 60000 * (b + 1) ∧ N ≤ 4002 * b + 2760 ∧ (∃ W2 : Nat, (s.2.1 220 b).toInt = (W2 : Int) ∧ W2 ≤ 2100) ∧ WKp b W s.2.2
theorem bl_nd : ∀ q ∈ ndB, bl q = 4002 ∧ q ∉ [264, 265, 266, 267, 268, 269] := by decide
theorem bl_wR : ∀ q ∈ wR, bl q = 4002 ∧ q ∉ [264, 265, 266, 267, 268, 269] := by decide
theorem bl_tb : ∀ q ∈ tbR, bl q = zl q ∧ q ∉ [264, 265, 266, 267, 268, 269] := by decide
/-- a program stays while another is read into the other bank -/
theorem GPx_keep {b b' : Nat} {s s' : yS} (hb : b < 3) (hb' : b' < 2) (hne : ¬ b = b') (h : GPx b' s) (hF : BKF b s s') (hLF : LFr b s.2.2 s'.2.2) (hB : BP s') (hT : TYN s') (hG : GC s') (h75 : (s'.1 75).toInt = (b' : Int)) : GPx b' s' := by
  obtain ⟨own, n, W, N, T, F, H, S0, G, S, O, k1, k2, k3, k4, k5, k6, k7, k8, k9⟩ := h
  obtain ⟨d1, d2, d3, d4, d5, d6, d7, d8, d9, d10⟩ := id k1
  have hn := k2.2.1
  have nd : ∀ q, q ∈ ndB → ∀ x, 4002 * b' ≤ x → x < N → s'.2.1 q x = s.2.1 q x := fun q hq x h1 h2 => BKF_get hF hb hb' hne (by rw [(bl_nd q hq).1]; omega) (by rw [(bl_nd q hq).1]; omega) (bl_nd q hq).2
  have tk : ∀ q, q ∈ [215, 216, 217] → ∀ x, 4002 * b' ≤ x → x < 4002 * b' + 4002 → s'.2.1 q x = s.2.1 q x := fun q hq x h1 h2 => by
    have e : bl q = 4002 ∧ q ∉ [264, 265, 266, 267, 268, 269] := by revert q; decide
    exact BKF_get hF hb hb' hne (by rw [e.1]; omega) (by rw [e.1]; omega) e.2
  have ty : ∀ j, 10 + 4100 * b' ≤ j → j < 10 + 4100 * (b' + 1) → s'.2.1 264 j = s.2.1 264 j := fun j h1 h2 => by
    refine hF 264 j ?_
    rintro (w | w | w)
    · rw [show bl 264 = 0 by decide] at w
      omega
    · omega
    · revert w; decide
  have cell : ∀ q i, bl q * b' ≤ i → i < bl q * (b' + 1) → q ∉ [264, 265, 266, 267, 268, 269] → s'.2.1 q i = s.2.1 q i := fun q i h1 h2 h3 => BKF_get hF hb hb' hne h1 h2 h3
  have ca : ∀ l h, 4002 * b' ≤ l → h ≤ N → CA b' n l h S O s s' := by
    intro l h h1 h2
    refine ⟨fun q hq x x1 x2 => cell q x (by rw [(bl_wR q hq).1]; omega) (by rw [(bl_wR q hq).1]; omega) (bl_wR q hq).2, fun t t1 t2 => tk 217 (by decide) t t1 (by omega), fun j j1 j2 => ty j j1 (by omega), fun j j1 j2 => cell 270 j (by rw [show bl 270 = 60000 by decide]; exact j1) (by rw [show bl 270 = 60000 by decide]; omega) (by decide)⟩
  refine ⟨own, n, W, N, T, F, H, S0, G, S, O, CK_eq k1 ⟨fun t t1 t2 => ⟨tk 215 (by decide) t t1 (by omega), tk 217 (by decide) t t1 (by omega)⟩, fun x x1 x2 => ⟨⟨nd _ (by decide) x x1 x2, nd _ (by decide) x x1 x2, nd _ (by decide) x x1 x2, nd _ (by decide) x x1 x2, nd _ (by decide) x x1 x2, nd _ (by decide) x x1 x2, fun _ => nd _ (by decide) x x1 x2, fun _ => nd _ (by decide) x x1 x2⟩, nd _ (by decide) x x1 x2, nd _ (by decide) x x1 x2⟩, fun p i hp i1 i2 => cell p i (by rw [(bl_tb p hp).1]; exact i1) (by rw [(bl_tb p hp).1]; exact i2) (bl_tb p hp).2⟩ (fun y y1 y2 _ => ⟨cell 231 y (by rw [show bl 231 = 4002 by decide]; exact y1) (by rw [show bl 231 = 4002 by decide]; omega) (by decide), cell 232 y (by rw [show bl 232 = 4002 by decide]; exact y1) (by rw [show bl 232 = 4002 by decide]; omega) (by decide)⟩) (fun j hj => ?_) (fun i i1 i2 => cell 261 i (by rw [show bl 261 = 60 by decide]; exact i1) (by rw [show bl 261 = 60 by decide]; omega) (by decide)) hT hG h75, ?_, PT_ca k3 (fun f hf => cell 258 _ (by rw [show bl 258 = 60 by decide]; omega) (by rw [show bl 258 = 60 by decide]; have := d1.2.2.2.1; omega) (by decide)) ca, MN_ca k4 (cell 259 b' (by rw [show bl 259 = 1 by decide]; omega) (by rw [show bl 259 = 1 by decide]; omega) (by decide)) (cell 274 b' (by rw [show bl 274 = 1 by decide]; omega) (by rw [show bl 274 = 1 by decide]; omega) (by decide)) (fun i i1 i2 => cell 273 i (by rw [show bl 273 = 60 by decide]; exact i1) (by rw [show bl 273 = 60 by decide]; exact i2) (by decide)) ca, k5, k6, k7, by rw [cell 220 b' (by rw [show bl 220 = 1 by decide]; omega) (by rw [show bl 220 = 1 by decide]; omega) (by decide)]; exact k8, fun w hw => ?_⟩
  · rcases hj with hj | hj
    · by_cases h6 : j < 6
      · have e1 := d4 j h6
        have e2 := hB j h6
        unfold tyE at e1 e2
        have := d5 j
        have := hT j
        exact Int32.toInt_inj.mp (by omega)
      · refine hF 264 j ?_
        rintro (w | w | w)
        · rw [show bl 264 = 0 by decide] at w
          omega
        · omega
        · revert w; decide
    · exact ty j hj.1 (by omega)
  · obtain ⟨l1, l2, l3, l4, l5, l6⟩ := k2
    refine ⟨l1, l2, l3, fun i hi => ?_, ?_, fun i hi h => ?_⟩
    · rw [tk 216 (by decide) _ (by omega) (by omega)]
      exact l4 i hi
    · rw [tk 215 (by decide) _ (by omega) (by omega)]
      exact l5
    · rw [tk 215 (by decide) _ (by omega) (by omega)] at h
      rw [tk 217 (by decide) _ (by omega) (by omega)]
      exact l6 i hi h
  · have hW := k2.2.2.1
    have e : ∀ q, s'.2.2 q (2100 * b' + w) = s.2.2 q (2100 * b' + w) := fun q => hLF q _ (by omega)
    have := k9 w hw
    unfold gw at this ⊢
    rw [e, e]
    exact this
