/-! one -/
def w_197_51 (T : Nat → List Value → yS → (Option Value → yS → Prop) → Prop)  (a1 : Int32) (a2 : Int32) (a3 : Int32) (a4 : Int32) (a5 : Int32) (a6 : Int32) (a7 : Int32) (a8 : Int32) (t0 : Int32) (s : yS) (P : Option Value → yS → Prop) : Prop :=
  ∀ s1, s1 = sf s 64 a5 → P (some (.int t0)) s1
set_option maxRecDepth 20000 in
theorem k_197_51 {d : Nat}  {a1 : Int32} {a2 : Int32} {a3 : Int32} {a4 : Int32} {a5 : Int32} {a6 : Int32} {a7 : Int32} {a8 : Int32} {t0 : Int32} {s : yS} {P : Option Value → yS → Prop}  (h : w_197_51 (Tot d)  a1 a2 a3 a4 a5 a6 a7 a8 t0 s P) : Go d 10 (some .int) xE_197 (xE_197.drop 51) [.ref 213, .int a1, .int a2, .int a3, .int a4, .int a5, .int a6, .int a7, .int a8, .null, .null, .null, .null, .null, .null] [.int t0] s P := by
  unfold w_197_51 at h
  refine g_st [.ref 213, .int a1, .int a2, .int a3, .int a4, .int a5, .int a6, .int a7, .int a8, .int t0, .null, .null, .null, .null, .null] rfl rfl rfl ?_
  refine g_ld rfl rfl rfl ?_
  refine g_ld rfl rfl rfl ?_
  refine g_put rfl rfl rfl ?_
  replace h := h _ rfl
  refine g_ld rfl rfl rfl ?_
  exact g_retI rfl h
def w_197_0 (T : Nat → List Value → yS → (Option Value → yS → Prop) → Prop)  (a1 : Int32) (a2 : Int32) (a3 : Int32) (a4 : Int32) (s : yS) (P : Option Value → yS → Prop) : Prop :=
  (0 ≤ a1.toInt ∧ a1.toInt < 12006) ∧ ((0 ≤ a1.toInt ∧ a1.toInt < 12006) ∧ (T 191 [.ref 213, .int (s.2.1 231 a1.toInt.toNat), .int (s.2.1 232 a1.toInt.toNat), .int a2] s (fun v2 s1 => ∃ x3, v2 = some (.int x3) ∧ ((¬ (x3.toInt = 0) → (0 ≤ a3.toInt ∧ a3.toInt < 12006) ∧ ((0 ≤ a3.toInt ∧ a3.toInt < 12006) ∧ (T 191 [.ref 213, .int (s1.2.1 231 a3.toInt.toNat), .int (s1.2.1 232 a3.toInt.toNat), .int a4] s1 (fun v5 s4 => ∃ x6, v5 = some (.int x6) ∧ ((¬ (x6.toInt = 0) → T 187 [.ref 213, .int (s1.1 71), .int (s1.1 72), .int (s4.1 71), .int (s4.1 72)] s4 (fun v8 s7 => ∃ x9, v8 = some (.int x9) ∧ ((x9.toInt = 0 → w_197_51 T  a1 a2 a3 a4 (s.1 64) (s1.1 71) (s1.1 72) x6 0 s7 P) ∧ (¬ (x9.toInt = 0) → w_197_51 T  a1 a2 a3 a4 (s.1 64) (s1.1 71) (s1.1 72) x6 1 s7 P)))) ∧ (x6.toInt = 0 → w_197_51 T  a1 a2 a3 a4 (s.1 64) (s1.1 71) (s1.1 72) x6 2 s4 P)))))) ∧ (x3.toInt = 0 → P (some (.int 2)) s1)))))
set_option maxRecDepth 20000 in
theorem k_197_0 {d : Nat}  {a1 : Int32} {a2 : Int32} {a3 : Int32} {a4 : Int32} {s : yS} {P : Option Value → yS → Prop}  (h : w_197_0 (Tot d)  a1 a2 a3 a4 s P) : Go d 10 (some .int) xE_197 (xE_197.drop 0) [.ref 213, .int a1, .int a2, .int a3, .int a4, .null, .null, .null, .null, .null, .null, .null, .null, .null, .null] [] s P := by
  unfold w_197_0 at h
  refine g_ld rfl rfl rfl ?_
  refine g_get rfl rfl ?_
  change Go _ _ _ _ _ _ [.int (s.1 64)] _ _
  refine g_st [.ref 213, .int a1, .int a2, .int a3, .int a4, .int (s.1 64), .null, .null, .null, .null, .null, .null, .null, .null, .null] rfl rfl rfl ?_
  refine g_ld rfl rfl rfl ?_
  refine g_ld rfl rfl rfl ?_
  refine g_get rfl rfl ?_
  change Go _ _ _ _ _ _ [.ref 231, .ref 213] _ _
  refine g_ld rfl rfl rfl ?_
  refine g_ial rfl rfl (i_in (x := a1) rfl h.1) ?_
  change Go _ _ _ _ _ _ [.int (s.2.1 231 a1.toInt.toNat), .ref 213] _ _
  replace h := h.2
  refine g_ld rfl rfl rfl ?_
  refine g_get rfl rfl ?_
  change Go _ _ _ _ _ _ [.ref 232, .int (s.2.1 231 a1.toInt.toNat), .ref 213] _ _
  refine g_ld rfl rfl rfl ?_
  refine g_ial rfl rfl (i_in (x := a1) rfl h.1) ?_
  change Go _ _ _ _ _ _ [.int (s.2.1 232 a1.toInt.toNat), .int (s.2.1 231 a1.toInt.toNat), .ref 213] _ _
  replace h := h.2
  refine g_ld rfl rfl rfl ?_
  refine g_call [.ref 213, .int (s.2.1 231 a1.toInt.toNat), .int (s.2.1 232 a1.toInt.toNat), .int a2] [] rfl rfl rfl (Tot.imp h (fun v2 s1 h => ?_))
  obtain ⟨x3, rfl, h⟩ := h
  change Go _ _ _ _ _ _ [.int x3] _ _
  refine g_brN rfl rfl ⟨fun hc => ?_, fun hc => ?_⟩
  · replace h := h.1 (fun q => hc ((i_eq (x := x3) (y := 0) rfl (show (0 : Int32).toInt = 0 by decide)).mpr q))
    refine g_ld rfl rfl rfl ?_
    refine g_get rfl rfl ?_
    change Go _ _ _ _ _ _ [.int (s1.1 71)] _ _
    refine g_st [.ref 213, .int a1, .int a2, .int a3, .int a4, .int (s.1 64), .int (s1.1 71), .null, .null, .null, .null, .null, .null, .null, .null] rfl rfl rfl ?_
    refine g_ld rfl rfl rfl ?_
    refine g_get rfl rfl ?_
    change Go _ _ _ _ _ _ [.int (s1.1 72)] _ _
    refine g_st [.ref 213, .int a1, .int a2, .int a3, .int a4, .int (s.1 64), .int (s1.1 71), .int (s1.1 72), .null, .null, .null, .null, .null, .null, .null] rfl rfl rfl ?_
    refine g_ld rfl rfl rfl ?_
    refine g_ld rfl rfl rfl ?_
    refine g_get rfl rfl ?_
    change Go _ _ _ _ _ _ [.ref 231, .ref 213] _ _
    refine g_ld rfl rfl rfl ?_
    refine g_ial rfl rfl (i_in (x := a3) rfl h.1) ?_
    change Go _ _ _ _ _ _ [.int (s1.2.1 231 a3.toInt.toNat), .ref 213] _ _
    replace h := h.2
    refine g_ld rfl rfl rfl ?_
    refine g_get rfl rfl ?_
    change Go _ _ _ _ _ _ [.ref 232, .int (s1.2.1 231 a3.toInt.toNat), .ref 213] _ _
    refine g_ld rfl rfl rfl ?_
    refine g_ial rfl rfl (i_in (x := a3) rfl h.1) ?_
    change Go _ _ _ _ _ _ [.int (s1.2.1 232 a3.toInt.toNat), .int (s1.2.1 231 a3.toInt.toNat), .ref 213] _ _
    replace h := h.2
    refine g_ld rfl rfl rfl ?_
    refine g_call [.ref 213, .int (s1.2.1 231 a3.toInt.toNat), .int (s1.2.1 232 a3.toInt.toNat), .int a4] [] rfl rfl rfl (Tot.imp h (fun v5 s4 h => ?_))
    obtain ⟨x6, rfl, h⟩ := h
    change Go _ _ _ _ _ _ [.int x6] _ _
    refine g_st [.ref 213, .int a1, .int a2, .int a3, .int a4, .int (s.1 64), .int (s1.1 71), .int (s1.1 72), .int x6, .null, .null, .null, .null, .null, .null] rfl rfl rfl ?_
    refine g_ld rfl rfl rfl ?_
    refine g_brN rfl rfl ⟨fun hc => ?_, fun hc => ?_⟩
    · replace h := h.1 (fun q => hc ((i_eq (x := x6) (y := 0) rfl (show (0 : Int32).toInt = 0 by decide)).mpr q))
      refine g_ld rfl rfl rfl ?_
      refine g_ld rfl rfl rfl ?_
      refine g_ld rfl rfl rfl ?_
      refine g_ld rfl rfl rfl ?_
      refine g_get rfl rfl ?_
      change Go _ _ _ _ _ _ [.int (s4.1 71), .int (s1.1 72), .int (s1.1 71), .ref 213] _ _
      refine g_ld rfl rfl rfl ?_
      refine g_get rfl rfl ?_
      change Go _ _ _ _ _ _ [.int (s4.1 72), .int (s4.1 71), .int (s1.1 72), .int (s1.1 71), .ref 213] _ _
      refine g_call [.ref 213, .int (s1.1 71), .int (s1.1 72), .int (s4.1 71), .int (s4.1 72)] [] rfl rfl rfl (Tot.imp h (fun v8 s7 h => ?_))
      obtain ⟨x9, rfl, h⟩ := h
      change Go _ _ _ _ _ _ [.int x9] _ _
      refine g_brP rfl rfl ⟨fun hc => ?_, fun hc => ?_⟩
      · replace h := h.1 ((i_eq (x := x9) (y := 0) rfl (show (0 : Int32).toInt = 0 by decide)).mp hc)
        refine g_c [.int 0] (xo_push (.int 0)) rfl rfl ?_
        exact k_197_51  h
      · replace h := h.2 (fun q => hc ((i_eq (x := x9) (y := 0) rfl (show (0 : Int32).toInt = 0 by decide)).mpr q))
        refine g_c [.int 1] (xo_push (.int 1)) rfl rfl ?_
        refine g_go rfl ?_
        exact k_197_51  h
    · replace h := h.2 ((i_eq (x := x6) (y := 0) rfl (show (0 : Int32).toInt = 0 by decide)).mp hc)
      refine g_c [.int 2] (xo_push (.int 2)) rfl rfl ?_
      refine g_go rfl ?_
      exact k_197_51  h
  · replace h := h.2 ((i_eq (x := x3) (y := 0) rfl (show (0 : Int32).toInt = 0 by decide)).mp hc)
    refine g_c [.int 2] (xo_push (.int 2)) rfl rfl ?_
    exact g_retI rfl h
theorem t_197 {d : Nat} {a1 : Int32} {a2 : Int32} {a3 : Int32} {a4 : Int32} {s : yS} {P : Option Value → yS → Prop} (h : w_197_0 (Tot d) a1 a2 a3 a4 s P) : Tot (d + 1) 197 [.ref 213, .int a1, .int a2, .int a3, .int a4] s P := tot_of (E := xE_197) (ml := 10) (ret := some .int) rfl rfl rfl (k_197_0 h)
/-! isToldAhead -/
def w_198_25 (T : Nat → List Value → yS → (Option Value → yS → Prop) → Prop) (R4 : Int32 → Nat → Int32 → Int32 → Int32 → Int32 → yS → Prop) (a1 : Int32) (a2 : Nat) (a3 : Int32) (a4 : Int32) (a5 : Int32) (a6 : Int32) (t0 : Int32) (s : yS) (P : Option Value → yS → Prop) : Prop :=
  (-2147483648 ≤ a6.toInt + 1 ∧ a6.toInt + 1 ≤ 2147483647) ∧ (∀ x1 : Int32, x1.toInt = a6.toInt + 1 → R4 a1 a2 a3 a4 t0 x1  s)
set_option maxRecDepth 20000 in
theorem k_198_25 {d : Nat} {R4 : Int32 → Nat → Int32 → Int32 → Int32 → Int32 → yS → Prop} {a1 : Int32} {a2 : Nat} {a3 : Int32} {a4 : Int32} {a5 : Int32} {a6 : Int32} {t0 : Int32} {s : yS} {P : Option Value → yS → Prop} (r4 : ∀ a1 a2 a3 a4 a5 a6 s, R4 a1 a2 a3 a4 a5 a6 s → Go d 7 (some .boolean) xE_198 (xE_198.drop 4) [.ref 213, .int a1, .ref a2, .int a3, .int a4, .int a5, .int a6, .null, .null, .null, .null, .null] [] s P) (h : w_198_25 (Tot d) R4 a1 a2 a3 a4 a5 a6 t0 s P) : Go d 7 (some .boolean) xE_198 (xE_198.drop 25) [.ref 213, .int a1, .ref a2, .int a3, .int a4, .int a5, .int a6, .null, .null, .null, .null, .null] [.int t0] s P := by
  unfold w_198_25 at h
  refine g_st [.ref 213, .int a1, .ref a2, .int a3, .int a4, .int t0, .int a6, .null, .null, .null, .null, .null] rfl rfl rfl ?_
  have ex1 := i_add (x := a6) (y := 1) rfl (show (1 : Int32).toInt = 1 by decide) h.1
  have cx1 := ck_inc (x := a6) (n := 1) rfl h.1
  replace h := h.2 _ ex1
  refine g_inc [.ref 213, .int a1, .ref a2, .int a3, .int a4, .int t0, .int (a6 + 1), .null, .null, .null, .null, .null] rfl rfl rfl rfl cx1 ?_
  refine g_go rfl ?_
  exact r4 a1 a2 a3 a4 t0 (a6 + 1)  s h
def w_198_22 (T : Nat → List Value → yS → (Option Value → yS → Prop) → Prop) (R4 : Int32 → Nat → Int32 → Int32 → Int32 → Int32 → yS → Prop) (a1 : Int32) (a2 : Nat) (a3 : Int32) (a4 : Int32) (a5 : Int32) (a6 : Int32) (s : yS) (P : Option Value → yS → Prop) : Prop :=
  w_198_25 T R4 a1 a2 a3 a4 a5 a6 1 s P
set_option maxRecDepth 20000 in
theorem k_198_22 {d : Nat} {R4 : Int32 → Nat → Int32 → Int32 → Int32 → Int32 → yS → Prop} {a1 : Int32} {a2 : Nat} {a3 : Int32} {a4 : Int32} {a5 : Int32} {a6 : Int32} {s : yS} {P : Option Value → yS → Prop} (r4 : ∀ a1 a2 a3 a4 a5 a6 s, R4 a1 a2 a3 a4 a5 a6 s → Go d 7 (some .boolean) xE_198 (xE_198.drop 4) [.ref 213, .int a1, .ref a2, .int a3, .int a4, .int a5, .int a6, .null, .null, .null, .null, .null] [] s P) (h : w_198_22 (Tot d) R4 a1 a2 a3 a4 a5 a6 s P) : Go d 7 (some .boolean) xE_198 (xE_198.drop 22) [.ref 213, .int a1, .ref a2, .int a3, .int a4, .int a5, .int a6, .null, .null, .null, .null, .null] [] s P := by
  unfold w_198_22 at h
  refine g_c [.int 1] (xo_push (.int 1)) rfl rfl ?_
  refine g_go rfl ?_
  exact k_198_25 r4 h
def w_198_4 (T : Nat → List Value → yS → (Option Value → yS → Prop) → Prop) (R4 : Int32 → Nat → Int32 → Int32 → Int32 → Int32 → yS → Prop) (a1 : Int32) (a2 : Nat) (a3 : Int32) (a4 : Int32) (a5 : Int32) (a6 : Int32) (s : yS) (P : Option Value → yS → Prop) : Prop :=
  (a4.toInt ≤ a6.toInt → (a5.toInt = 0 ∨ a5.toInt = 1) ∧ P (some (.int a5)) s) ∧ (¬ (a4.toInt ≤ a6.toInt) → (¬ (a5.toInt = 0) → w_198_22 T R4 a1 a2 a3 a4 a5 a6  s P) ∧ (a5.toInt = 0 → (-2147483648 ≤ a3.toInt + a6.toInt ∧ a3.toInt + a6.toInt ≤ 2147483647) ∧ (∀ x1 : Int32, x1.toInt = a3.toInt + a6.toInt → ∃ n, ytab a2 = some (0, n) ∧ (0 ≤ x1.toInt ∧ x1.toInt < (n : Int)) ∧ ((0 ≤ (s.2.1 a2 x1.toInt.toNat).toInt ∧ (s.2.1 a2 x1.toInt.toNat).toInt < 12006) ∧ ((0 ≤ a1.toInt ∧ a1.toInt < 12006) ∧ ((¬ ((s.2.1 217 (s.2.1 a2 x1.toInt.toNat).toInt.toNat).toInt = (s.2.1 217 a1.toInt.toNat).toInt) → w_198_25 T R4 a1 a2 a3 a4 a5 a6 0 s P) ∧ ((s.2.1 217 (s.2.1 a2 x1.toInt.toNat).toInt.toNat).toInt = (s.2.1 217 a1.toInt.toNat).toInt → w_198_22 T R4 a1 a2 a3 a4 a5 a6  s P)))))))
set_option maxRecDepth 20000 in
theorem k_198_4 {d : Nat} {R4 : Int32 → Nat → Int32 → Int32 → Int32 → Int32 → yS → Prop} {a1 : Int32} {a2 : Nat} {a3 : Int32} {a4 : Int32} {a5 : Int32} {a6 : Int32} {s : yS} {P : Option Value → yS → Prop} (r4 : ∀ a1 a2 a3 a4 a5 a6 s, R4 a1 a2 a3 a4 a5 a6 s → Go d 7 (some .boolean) xE_198 (xE_198.drop 4) [.ref 213, .int a1, .ref a2, .int a3, .int a4, .int a5, .int a6, .null, .null, .null, .null, .null] [] s P) (h : w_198_4 (Tot d) R4 a1 a2 a3 a4 a5 a6 s P) : Go d 7 (some .boolean) xE_198 (xE_198.drop 4) [.ref 213, .int a1, .ref a2, .int a3, .int a4, .int a5, .int a6, .null, .null, .null, .null, .null] [] s P := by
  unfold w_198_4 at h
  refine g_ld rfl rfl rfl ?_
  refine g_ld rfl rfl rfl ?_
  refine g_brP rfl rfl ⟨fun hc => ?_, fun hc => ?_⟩
  · replace h := h.1 ((i_le (x := a4) (y := a6) rfl rfl).mp hc)
    refine g_ld rfl rfl rfl ?_
    exact g_retZ rfl (i_z (x := a5) rfl h.1) h.2
  · replace h := h.2 (fun q => hc ((i_le (x := a4) (y := a6) rfl rfl).mpr q))
    refine g_ld rfl rfl rfl ?_
    refine g_brN rfl rfl ⟨fun hc => ?_, fun hc => ?_⟩
    · replace h := h.1 (fun q => hc ((i_eq (x := a5) (y := 0) rfl (show (0 : Int32).toInt = 0 by decide)).mpr q))
      exact k_198_22 r4 h
    · replace h := h.2 ((i_eq (x := a5) (y := 0) rfl (show (0 : Int32).toInt = 0 by decide)).mp hc)
      refine g_ld rfl rfl rfl ?_
      refine g_get rfl rfl ?_
      change Go _ _ _ _ _ _ [.ref 217] _ _
      refine g_ld rfl rfl rfl ?_
      refine g_ld rfl rfl rfl ?_
      refine g_ld rfl rfl rfl ?_
      have ex1 := i_add (x := a3) (y := a6) rfl rfl h.1
      have cx1 := ck_add (x := a3) (y := a6) rfl rfl h.1
      replace h := h.2 _ ex1
      refine g_ca [.int (a3 + a6), .ref a2, .ref 217] xo_iadd rfl rfl (fun _ => cx1) ?_
      obtain ⟨n, hn, h⟩ := h
      refine g_ial rfl hn (i_in (x := (a3 + a6)) rfl h.1) ?_
      change Go _ _ _ _ _ _ [.int (s.2.1 a2 (a3 + a6).toInt.toNat), .ref 217] _ _
      replace h := h.2
      refine g_ial rfl rfl (i_in (x := s.2.1 a2 (a3 + a6).toInt.toNat) rfl h.1) ?_
      change Go _ _ _ _ _ _ [.int (s.2.1 217 (s.2.1 a2 (a3 + a6).toInt.toNat).toInt.toNat)] _ _
      replace h := h.2
      refine g_ld rfl rfl rfl ?_
      refine g_get rfl rfl ?_
      change Go _ _ _ _ _ _ [.ref 217, .int (s.2.1 217 (s.2.1 a2 (a3 + a6).toInt.toNat).toInt.toNat)] _ _
      refine g_ld rfl rfl rfl ?_
      refine g_ial rfl rfl (i_in (x := a1) rfl h.1) ?_
      change Go _ _ _ _ _ _ [.int (s.2.1 217 a1.toInt.toNat), .int (s.2.1 217 (s.2.1 a2 (a3 + a6).toInt.toNat).toInt.toNat)] _ _
      replace h := h.2
      refine g_brN rfl rfl ⟨fun hc => ?_, fun hc => ?_⟩
      · replace h := h.1 (fun q => hc ((i_eq (x := s.2.1 217 (s.2.1 a2 (a3 + a6).toInt.toNat).toInt.toNat) (y := s.2.1 217 a1.toInt.toNat) rfl rfl).mpr q))
        refine g_c [.int 0] (xo_push (.int 0)) rfl rfl ?_
        exact k_198_25 r4 h
      · replace h := h.2 ((i_eq (x := s.2.1 217 (s.2.1 a2 (a3 + a6).toInt.toNat).toInt.toNat) (y := s.2.1 217 a1.toInt.toNat) rfl rfl).mp hc)
        exact k_198_22 r4 h
def wl_198_4 (T : Nat → List Value → yS → (Option Value → yS → Prop) → Prop)  (a1 : Int32) (a2 : Nat) (a3 : Int32) (a4 : Int32) (a5 : Int32) (a6 : Int32) (s : yS) (P : Option Value → yS → Prop) : Prop :=
  ∃ (I : Int32 → Nat → Int32 → Int32 → Int32 → Int32 → yS → Prop) (μ : Int32 → Nat → Int32 → Int32 → Int32 → Int32 → yS → Nat), I a1 a2 a3 a4 a5 a6 s ∧ ∀ (a1 : Int32) (a2 : Nat) (a3 : Int32) (a4 : Int32) (a5 : Int32) (a6 : Int32) (s : yS), I a1 a2 a3 a4 a5 a6 s → w_198_4 T (fun a1' a2' a3' a4' a5' a6' s' => I a1' a2' a3' a4' a5' a6' s' ∧ μ a1' a2' a3' a4' a5' a6' s' < μ a1 a2 a3 a4 a5 a6 s) a1 a2 a3 a4 a5 a6 s P
theorem kl_198_4 {d : Nat}  {a1 : Int32} {a2 : Nat} {a3 : Int32} {a4 : Int32} {a5 : Int32} {a6 : Int32} {s : yS} {P : Option Value → yS → Prop}  (h : wl_198_4 (Tot d)  a1 a2 a3 a4 a5 a6 s P) : Go d 7 (some .boolean) xE_198 (xE_198.drop 4) [.ref 213, .int a1, .ref a2, .int a3, .int a4, .int a5, .int a6, .null, .null, .null, .null, .null] [] s P := by
  obtain ⟨I, μ, h0, h1⟩ := h
  have key : ∀ (n : Nat) (a1 : Int32) (a2 : Nat) (a3 : Int32) (a4 : Int32) (a5 : Int32) (a6 : Int32) (s : yS), μ a1 a2 a3 a4 a5 a6 s = n → I a1 a2 a3 a4 a5 a6 s → Go d 7 (some .boolean) xE_198 (xE_198.drop 4) [.ref 213, .int a1, .ref a2, .int a3, .int a4, .int a5, .int a6, .null, .null, .null, .null, .null] [] s P := by
    intro n
    induction n using Nat.strongRecOn with
    | ind n ih =>
      intro a1 a2 a3 a4 a5 a6 s e hI
      exact k_198_4 (fun a1' a2' a3' a4' a5' a6' s' q => ih _ (by rw [← e]; exact q.2) _ _ _ _ _ _ _ rfl q.1) (h1 a1 a2 a3 a4 a5 a6 s hI)
  exact key _ a1 a2 a3 a4 a5 a6 s rfl h0
def w_198_0 (T : Nat → List Value → yS → (Option Value → yS → Prop) → Prop)  (a1 : Int32) (a2 : Nat) (a3 : Int32) (a4 : Int32) (s : yS) (P : Option Value → yS → Prop) : Prop :=
  wl_198_4 T  a1 a2 a3 a4 0 0  s P
set_option maxRecDepth 20000 in
theorem k_198_0 {d : Nat}  {a1 : Int32} {a2 : Nat} {a3 : Int32} {a4 : Int32} {s : yS} {P : Option Value → yS → Prop}  (h : w_198_0 (Tot d)  a1 a2 a3 a4 s P) : Go d 7 (some .boolean) xE_198 (xE_198.drop 0) [.ref 213, .int a1, .ref a2, .int a3, .int a4, .null, .null, .null, .null, .null, .null, .null] [] s P := by
  unfold w_198_0 at h
  refine g_c [.int 0] (xo_push (.int 0)) rfl rfl ?_
  refine g_st [.ref 213, .int a1, .ref a2, .int a3, .int a4, .int 0, .null, .null, .null, .null, .null, .null] rfl rfl rfl ?_
  refine g_c [.int 0] (xo_push (.int 0)) rfl rfl ?_
  refine g_st [.ref 213, .int a1, .ref a2, .int a3, .int a4, .int 0, .int 0, .null, .null, .null, .null, .null] rfl rfl rfl ?_
  exact kl_198_4  h
theorem t_198 {d : Nat} {a1 : Int32} {a2 : Nat} {a3 : Int32} {a4 : Int32} {s : yS} {P : Option Value → yS → Prop} (h : w_198_0 (Tot d) a1 a2 a3 a4 s P) : Tot (d + 1) 198 [.ref 213, .int a1, .ref a2, .int a3, .int a4] s P := tot_of (E := xE_198) (ml := 7) (ret := some .boolean) rfl rfl rfl (k_198_0 h)
/-! twice -/
def w_199_38 (T : Nat → List Value → yS → (Option Value → yS → Prop) → Prop) (R2 : Nat → Int32 → Int32 → Int32 → Int32 → yS → Prop) (a1 : Nat) (a2 : Int32) (a3 : Int32) (a4 : Int32) (a5 : Int32) (s : yS) (P : Option Value → yS → Prop) : Prop :=
  (-2147483648 ≤ a5.toInt + 1 ∧ a5.toInt + 1 ≤ 2147483647) ∧ (∀ x1 : Int32, x1.toInt = a5.toInt + 1 → R2 a1 a2 a3 a4 x1  s)
set_option maxRecDepth 20000 in
theorem k_199_38 {d : Nat} {R2 : Nat → Int32 → Int32 → Int32 → Int32 → yS → Prop} {a1 : Nat} {a2 : Int32} {a3 : Int32} {a4 : Int32} {a5 : Int32} {s : yS} {P : Option Value → yS → Prop} (r2 : ∀ a1 a2 a3 a4 a5 s, R2 a1 a2 a3 a4 a5 s → Go d 6 (none) xE_199 (xE_199.drop 2) [.ref 213, .ref a1, .int a2, .int a3, .int a4, .int a5, .null, .null, .null, .null, .null] [] s P) (h : w_199_38 (Tot d) R2 a1 a2 a3 a4 a5 s P) : Go d 6 (none) xE_199 (xE_199.drop 38) [.ref 213, .ref a1, .int a2, .int a3, .int a4, .int a5, .null, .null, .null, .null, .null] [] s P := by
  unfold w_199_38 at h
  have ex1 := i_add (x := a5) (y := 1) rfl (show (1 : Int32).toInt = 1 by decide) h.1
  have cx1 := ck_inc (x := a5) (n := 1) rfl h.1
  replace h := h.2 _ ex1
  refine g_inc [.ref 213, .ref a1, .int a2, .int a3, .int a4, .int (a5 + 1), .null, .null, .null, .null, .null] rfl rfl rfl rfl cx1 ?_
  refine g_go rfl ?_
  exact r2 a1 a2 a3 a4 (a5 + 1)  s h
def w_199_30 (T : Nat → List Value → yS → (Option Value → yS → Prop) → Prop) (R2 : Nat → Int32 → Int32 → Int32 → Int32 → yS → Prop) (a1 : Nat) (a2 : Int32) (a3 : Int32) (a4 : Int32) (a5 : Int32) (s : yS) (P : Option Value → yS → Prop) : Prop :=
  (-2147483648 ≤ a2.toInt + a5.toInt ∧ a2.toInt + a5.toInt ≤ 2147483647) ∧ (∀ x1 : Int32, x1.toInt = a2.toInt + a5.toInt → ∃ n, ytab a1 = some (0, n) ∧ (0 ≤ x1.toInt ∧ x1.toInt < (n : Int)) ∧ (T 163 [.ref 213, .int 3, .int (s.2.1 a1 x1.toInt.toNat)] s (fun v3 s2 => v3 = none ∧ (w_199_38 T R2 a1 a2 a3 a4 a5  s2 P))))
set_option maxRecDepth 20000 in
theorem k_199_30 {d : Nat} {R2 : Nat → Int32 → Int32 → Int32 → Int32 → yS → Prop} {a1 : Nat} {a2 : Int32} {a3 : Int32} {a4 : Int32} {a5 : Int32} {s : yS} {P : Option Value → yS → Prop} (r2 : ∀ a1 a2 a3 a4 a5 s, R2 a1 a2 a3 a4 a5 s → Go d 6 (none) xE_199 (xE_199.drop 2) [.ref 213, .ref a1, .int a2, .int a3, .int a4, .int a5, .null, .null, .null, .null, .null] [] s P) (h : w_199_30 (Tot d) R2 a1 a2 a3 a4 a5 s P) : Go d 6 (none) xE_199 (xE_199.drop 30) [.ref 213, .ref a1, .int a2, .int a3, .int a4, .int a5, .null, .null, .null, .null, .null] [] s P := by
  unfold w_199_30 at h
  refine g_ld rfl rfl rfl ?_
  refine g_c [.int 3, .ref 213] (xo_push (.int 3)) rfl rfl ?_
  refine g_ld rfl rfl rfl ?_
  refine g_ld rfl rfl rfl ?_
  refine g_ld rfl rfl rfl ?_
  have ex1 := i_add (x := a2) (y := a5) rfl rfl h.1
  have cx1 := ck_add (x := a2) (y := a5) rfl rfl h.1
  replace h := h.2 _ ex1
  refine g_ca [.int (a2 + a5), .ref a1, .int 3, .ref 213] xo_iadd rfl rfl (fun _ => cx1) ?_
  obtain ⟨n, hn, h⟩ := h
  refine g_ial rfl hn (i_in (x := (a2 + a5)) rfl h.1) ?_
  change Go _ _ _ _ _ _ [.int (s.2.1 a1 (a2 + a5).toInt.toNat), .int 3, .ref 213] _ _
  replace h := h.2
  refine g_call [.ref 213, .int 3, .int (s.2.1 a1 (a2 + a5).toInt.toNat)] [] rfl rfl rfl (Tot.imp h (fun v3 s2 h => ?_))
  obtain ⟨rfl, h⟩ := h
  change Go _ _ _ _ _ _ [] _ _
  exact k_199_38 r2 h
def w_199_2 (T : Nat → List Value → yS → (Option Value → yS → Prop) → Prop) (R2 : Nat → Int32 → Int32 → Int32 → Int32 → yS → Prop) (a1 : Nat) (a2 : Int32) (a3 : Int32) (a4 : Int32) (a5 : Int32) (s : yS) (P : Option Value → yS → Prop) : Prop :=
  (a3.toInt ≤ a5.toInt → P none s) ∧ (¬ (a3.toInt ≤ a5.toInt) → (-2147483648 ≤ a2.toInt + a5.toInt ∧ a2.toInt + a5.toInt ≤ 2147483647) ∧ (∀ x1 : Int32, x1.toInt = a2.toInt + a5.toInt → ∃ n, ytab a1 = some (0, n) ∧ (0 ≤ x1.toInt ∧ x1.toInt < (n : Int)) ∧ (T 198 [.ref 213, .int (s.2.1 a1 x1.toInt.toNat), .ref a1, .int a2, .int a5] s (fun v3 s2 => ∃ x4, v3 = some (.int x4) ∧ ((¬ (x4.toInt = 0) → w_199_30 T R2 a1 a2 a3 a4 a5  s2 P) ∧ (x4.toInt = 0 → (a4.toInt < 0 → w_199_38 T R2 a1 a2 a3 a4 a5  s2 P) ∧ (¬ (a4.toInt < 0) → (-2147483648 ≤ a2.toInt + a5.toInt ∧ a2.toInt + a5.toInt ≤ 2147483647) ∧ (∀ x5 : Int32, x5.toInt = a2.toInt + a5.toInt → ∃ n, ytab a1 = some (0, n) ∧ (0 ≤ x5.toInt ∧ x5.toInt < (n : Int)) ∧ ((0 ≤ (s2.2.1 a1 x5.toInt.toNat).toInt ∧ (s2.2.1 a1 x5.toInt.toNat).toInt < 12006) ∧ (T 200 [.ref 213, .int a4, .int (s2.2.1 217 (s2.2.1 a1 x5.toInt.toNat).toInt.toNat)] s2 (fun v7 s6 => ∃ x8, v7 = some (.int x8) ∧ ((x8.toInt < 0 → w_199_38 T R2 a1 a2 a3 a4 a5  s6 P) ∧ (¬ (x8.toInt < 0) → w_199_30 T R2 a1 a2 a3 a4 a5  s6 P)))))))))))))
set_option maxRecDepth 20000 in
theorem k_199_2 {d : Nat} {R2 : Nat → Int32 → Int32 → Int32 → Int32 → yS → Prop} {a1 : Nat} {a2 : Int32} {a3 : Int32} {a4 : Int32} {a5 : Int32} {s : yS} {P : Option Value → yS → Prop} (r2 : ∀ a1 a2 a3 a4 a5 s, R2 a1 a2 a3 a4 a5 s → Go d 6 (none) xE_199 (xE_199.drop 2) [.ref 213, .ref a1, .int a2, .int a3, .int a4, .int a5, .null, .null, .null, .null, .null] [] s P) (h : w_199_2 (Tot d) R2 a1 a2 a3 a4 a5 s P) : Go d 6 (none) xE_199 (xE_199.drop 2) [.ref 213, .ref a1, .int a2, .int a3, .int a4, .int a5, .null, .null, .null, .null, .null] [] s P := by
  unfold w_199_2 at h
  refine g_ld rfl rfl rfl ?_
  refine g_ld rfl rfl rfl ?_
  refine g_brP rfl rfl ⟨fun hc => ?_, fun hc => ?_⟩
  · replace h := h.1 ((i_le (x := a3) (y := a5) rfl rfl).mp hc)
    exact g_ret0 rfl h
  · replace h := h.2 (fun q => hc ((i_le (x := a3) (y := a5) rfl rfl).mpr q))
    refine g_ld rfl rfl rfl ?_
    refine g_ld rfl rfl rfl ?_
    refine g_ld rfl rfl rfl ?_
    refine g_ld rfl rfl rfl ?_
    have ex1 := i_add (x := a2) (y := a5) rfl rfl h.1
    have cx1 := ck_add (x := a2) (y := a5) rfl rfl h.1
    replace h := h.2 _ ex1
    refine g_ca [.int (a2 + a5), .ref a1, .ref 213] xo_iadd rfl rfl (fun _ => cx1) ?_
    obtain ⟨n, hn, h⟩ := h
    refine g_ial rfl hn (i_in (x := (a2 + a5)) rfl h.1) ?_
    change Go _ _ _ _ _ _ [.int (s.2.1 a1 (a2 + a5).toInt.toNat), .ref 213] _ _
    replace h := h.2
    refine g_ld rfl rfl rfl ?_
    refine g_ld rfl rfl rfl ?_
    refine g_ld rfl rfl rfl ?_
    refine g_call [.ref 213, .int (s.2.1 a1 (a2 + a5).toInt.toNat), .ref a1, .int a2, .int a5] [] rfl rfl rfl (Tot.imp h (fun v3 s2 h => ?_))
    obtain ⟨x4, rfl, h⟩ := h
    change Go _ _ _ _ _ _ [.int x4] _ _
    refine g_brN rfl rfl ⟨fun hc => ?_, fun hc => ?_⟩
    · replace h := h.1 (fun q => hc ((i_eq (x := x4) (y := 0) rfl (show (0 : Int32).toInt = 0 by decide)).mpr q))
      exact k_199_30 r2 h
    · replace h := h.2 ((i_eq (x := x4) (y := 0) rfl (show (0 : Int32).toInt = 0 by decide)).mp hc)
      refine g_ld rfl rfl rfl ?_
      refine g_brP rfl rfl ⟨fun hc => ?_, fun hc => ?_⟩
      · replace h := h.1 ((i_lt (x := a4) (y := 0) rfl (show (0 : Int32).toInt = 0 by decide)).mp hc)
        exact k_199_38 r2 h
      · replace h := h.2 (fun q => hc ((i_lt (x := a4) (y := 0) rfl (show (0 : Int32).toInt = 0 by decide)).mpr q))
        refine g_ld rfl rfl rfl ?_
        refine g_ld rfl rfl rfl ?_
        refine g_ld rfl rfl rfl ?_
        refine g_get rfl rfl ?_
        change Go _ _ _ _ _ _ [.ref 217, .int a4, .ref 213] _ _
        refine g_ld rfl rfl rfl ?_
        refine g_ld rfl rfl rfl ?_
        refine g_ld rfl rfl rfl ?_
        have ex5 := i_add (x := a2) (y := a5) rfl rfl h.1
        have cx5 := ck_add (x := a2) (y := a5) rfl rfl h.1
        replace h := h.2 _ ex5
        refine g_ca [.int (a2 + a5), .ref a1, .ref 217, .int a4, .ref 213] xo_iadd rfl rfl (fun _ => cx5) ?_
        obtain ⟨n, hn, h⟩ := h
        refine g_ial rfl hn (i_in (x := (a2 + a5)) rfl h.1) ?_
        change Go _ _ _ _ _ _ [.int (s2.2.1 a1 (a2 + a5).toInt.toNat), .ref 217, .int a4, .ref 213] _ _
        replace h := h.2
        refine g_ial rfl rfl (i_in (x := s2.2.1 a1 (a2 + a5).toInt.toNat) rfl h.1) ?_
        change Go _ _ _ _ _ _ [.int (s2.2.1 217 (s2.2.1 a1 (a2 + a5).toInt.toNat).toInt.toNat), .int a4, .ref 213] _ _
        replace h := h.2
        refine g_call [.ref 213, .int a4, .int (s2.2.1 217 (s2.2.1 a1 (a2 + a5).toInt.toNat).toInt.toNat)] [] rfl rfl rfl (Tot.imp h (fun v7 s6 h => ?_))
        obtain ⟨x8, rfl, h⟩ := h
        change Go _ _ _ _ _ _ [.int x8] _ _
        refine g_brP rfl rfl ⟨fun hc => ?_, fun hc => ?_⟩
        · replace h := h.1 ((i_lt (x := x8) (y := 0) rfl (show (0 : Int32).toInt = 0 by decide)).mp hc)
          exact k_199_38 r2 h
        · replace h := h.2 (fun q => hc ((i_lt (x := x8) (y := 0) rfl (show (0 : Int32).toInt = 0 by decide)).mpr q))
          exact k_199_30 r2 h
def wl_199_2 (T : Nat → List Value → yS → (Option Value → yS → Prop) → Prop)  (a1 : Nat) (a2 : Int32) (a3 : Int32) (a4 : Int32) (a5 : Int32) (s : yS) (P : Option Value → yS → Prop) : Prop :=
  ∃ (I : Nat → Int32 → Int32 → Int32 → Int32 → yS → Prop) (μ : Nat → Int32 → Int32 → Int32 → Int32 → yS → Nat), I a1 a2 a3 a4 a5 s ∧ ∀ (a1 : Nat) (a2 : Int32) (a3 : Int32) (a4 : Int32) (a5 : Int32) (s : yS), I a1 a2 a3 a4 a5 s → w_199_2 T (fun a1' a2' a3' a4' a5' s' => I a1' a2' a3' a4' a5' s' ∧ μ a1' a2' a3' a4' a5' s' < μ a1 a2 a3 a4 a5 s) a1 a2 a3 a4 a5 s P
theorem kl_199_2 {d : Nat}  {a1 : Nat} {a2 : Int32} {a3 : Int32} {a4 : Int32} {a5 : Int32} {s : yS} {P : Option Value → yS → Prop}  (h : wl_199_2 (Tot d)  a1 a2 a3 a4 a5 s P) : Go d 6 (none) xE_199 (xE_199.drop 2) [.ref 213, .ref a1, .int a2, .int a3, .int a4, .int a5, .null, .null, .null, .null, .null] [] s P := by
  obtain ⟨I, μ, h0, h1⟩ := h
  have key : ∀ (n : Nat) (a1 : Nat) (a2 : Int32) (a3 : Int32) (a4 : Int32) (a5 : Int32) (s : yS), μ a1 a2 a3 a4 a5 s = n → I a1 a2 a3 a4 a5 s → Go d 6 (none) xE_199 (xE_199.drop 2) [.ref 213, .ref a1, .int a2, .int a3, .int a4, .int a5, .null, .null, .null, .null, .null] [] s P := by
    intro n
    induction n using Nat.strongRecOn with
    | ind n ih =>
      intro a1 a2 a3 a4 a5 s e hI
      exact k_199_2 (fun a1' a2' a3' a4' a5' s' q => ih _ (by rw [← e]; exact q.2) _ _ _ _ _ _ rfl q.1) (h1 a1 a2 a3 a4 a5 s hI)
  exact key _ a1 a2 a3 a4 a5 s rfl h0
def w_199_0 (T : Nat → List Value → yS → (Option Value → yS → Prop) → Prop)  (a1 : Nat) (a2 : Int32) (a3 : Int32) (a4 : Int32) (s : yS) (P : Option Value → yS → Prop) : Prop :=
  wl_199_2 T  a1 a2 a3 a4 0  s P
set_option maxRecDepth 20000 in
theorem k_199_0 {d : Nat}  {a1 : Nat} {a2 : Int32} {a3 : Int32} {a4 : Int32} {s : yS} {P : Option Value → yS → Prop}  (h : w_199_0 (Tot d)  a1 a2 a3 a4 s P) : Go d 6 (none) xE_199 (xE_199.drop 0) [.ref 213, .ref a1, .int a2, .int a3, .int a4, .null, .null, .null, .null, .null, .null] [] s P := by
  unfold w_199_0 at h
  refine g_c [.int 0] (xo_push (.int 0)) rfl rfl ?_
  refine g_st [.ref 213, .ref a1, .int a2, .int a3, .int a4, .int 0, .null, .null, .null, .null, .null] rfl rfl rfl ?_
  exact kl_199_2  h
theorem t_199 {d : Nat} {a1 : Nat} {a2 : Int32} {a3 : Int32} {a4 : Int32} {s : yS} {P : Option Value → yS → Prop} (h : w_199_0 (Tot d) a1 a2 a3 a4 s P) : Tot (d + 1) 199 [.ref 213, .ref a1, .int a2, .int a3, .int a4] s P := tot_of (E := xE_199) (ml := 6) (ret := none) rfl rfl rfl (k_199_0 h)
/-! paramOf -/
def w_200_27 (T : Nat → List Value → yS → (Option Value → yS → Prop) → Prop) (R9 : Int32 → Int32 → Int32 → Int32 → yS → Prop) (a1 : Int32) (a2 : Int32) (a3 : Int32) (a4 : Int32) (t0 : Int32) (s : yS) (P : Option Value → yS → Prop) : Prop :=
  (-2147483648 ≤ a4.toInt + (-1) ∧ a4.toInt + (-1) ≤ 2147483647) ∧ (∀ x1 : Int32, x1.toInt = a4.toInt + (-1) → R9 a1 a2 t0 x1  s)
set_option maxRecDepth 20000 in
theorem k_200_27 {d : Nat} {R9 : Int32 → Int32 → Int32 → Int32 → yS → Prop} {a1 : Int32} {a2 : Int32} {a3 : Int32} {a4 : Int32} {t0 : Int32} {s : yS} {P : Option Value → yS → Prop} (r9 : ∀ a1 a2 a3 a4 s, R9 a1 a2 a3 a4 s → Go d 5 (some .int) xE_200 (xE_200.drop 9) [.ref 213, .int a1, .int a2, .int a3, .int a4, .null, .null, .null] [] s P) (h : w_200_27 (Tot d) R9 a1 a2 a3 a4 t0 s P) : Go d 5 (some .int) xE_200 (xE_200.drop 27) [.ref 213, .int a1, .int a2, .int a3, .int a4, .null, .null, .null] [.int t0] s P := by
  unfold w_200_27 at h
  refine g_st [.ref 213, .int a1, .int a2, .int t0, .int a4, .null, .null, .null] rfl rfl rfl ?_
  have ex1 := i_add (x := a4) (y := (-1)) rfl (show ((-1) : Int32).toInt = (-1) by decide) h.1
  have cx1 := ck_inc (x := a4) (n := (-1)) rfl h.1
  replace h := h.2 _ ex1
  refine g_inc [.ref 213, .int a1, .int a2, .int t0, .int (a4 + (-1)), .null, .null, .null] rfl rfl rfl rfl cx1 ?_
  refine g_go rfl ?_
  exact r9 a1 a2 t0 (a4 + (-1))  s h
def w_200_9 (T : Nat → List Value → yS → (Option Value → yS → Prop) → Prop) (R9 : Int32 → Int32 → Int32 → Int32 → yS → Prop) (a1 : Int32) (a2 : Int32) (a3 : Int32) (a4 : Int32) (s : yS) (P : Option Value → yS → Prop) : Prop :=
  (a4.toInt < 0 → P (some (.int a3)) s) ∧ (¬ (a4.toInt < 0) → (0 ≤ a1.toInt ∧ a1.toInt < 120) ∧ ((-2147483648 ≤ 2 * a4.toInt ∧ 2 * a4.toInt ≤ 2147483647) ∧ (∀ x1 : Int32, x1.toInt = 2 * a4.toInt → (-2147483648 ≤ (s.2.1 256 a1.toInt.toNat).toInt + x1.toInt ∧ (s.2.1 256 a1.toInt.toNat).toInt + x1.toInt ≤ 2147483647) ∧ (∀ x2 : Int32, x2.toInt = (s.2.1 256 a1.toInt.toNat).toInt + x1.toInt → (0 ≤ x2.toInt ∧ x2.toInt < 12006) ∧ ((¬ ((s.2.1 217 x2.toInt.toNat).toInt = a2.toInt) → w_200_27 T R9 a1 a2 a3 a4 a3 s P) ∧ ((s.2.1 217 x2.toInt.toNat).toInt = a2.toInt → w_200_27 T R9 a1 a2 a3 a4 a4 s P))))))
set_option maxRecDepth 20000 in
theorem k_200_9 {d : Nat} {R9 : Int32 → Int32 → Int32 → Int32 → yS → Prop} {a1 : Int32} {a2 : Int32} {a3 : Int32} {a4 : Int32} {s : yS} {P : Option Value → yS → Prop} (r9 : ∀ a1 a2 a3 a4 s, R9 a1 a2 a3 a4 s → Go d 5 (some .int) xE_200 (xE_200.drop 9) [.ref 213, .int a1, .int a2, .int a3, .int a4, .null, .null, .null] [] s P) (h : w_200_9 (Tot d) R9 a1 a2 a3 a4 s P) : Go d 5 (some .int) xE_200 (xE_200.drop 9) [.ref 213, .int a1, .int a2, .int a3, .int a4, .null, .null, .null] [] s P := by
  unfold w_200_9 at h
  refine g_ld rfl rfl rfl ?_
  refine g_brP rfl rfl ⟨fun hc => ?_, fun hc => ?_⟩
  · replace h := h.1 ((i_lt (x := a4) (y := 0) rfl (show (0 : Int32).toInt = 0 by decide)).mp hc)
    refine g_ld rfl rfl rfl ?_
    exact g_retI rfl h
  · replace h := h.2 (fun q => hc ((i_lt (x := a4) (y := 0) rfl (show (0 : Int32).toInt = 0 by decide)).mpr q))
    refine g_ld rfl rfl rfl ?_
    refine g_get rfl rfl ?_
    change Go _ _ _ _ _ _ [.ref 217] _ _
    refine g_ld rfl rfl rfl ?_
    refine g_get rfl rfl ?_
    change Go _ _ _ _ _ _ [.ref 256, .ref 217] _ _
    refine g_ld rfl rfl rfl ?_
    refine g_ial rfl rfl (i_in (x := a1) rfl h.1) ?_
    change Go _ _ _ _ _ _ [.int (s.2.1 256 a1.toInt.toNat), .ref 217] _ _
    replace h := h.2
    refine g_c [.int 2, .int (s.2.1 256 a1.toInt.toNat), .ref 217] (xo_push (.int 2)) rfl rfl ?_
    refine g_ld rfl rfl rfl ?_
    have ex1 := i_mul (x := 2) (y := a4) (show (2 : Int32).toInt = 2 by decide) rfl h.1
    have cx1 := ck_mul (x := 2) (y := a4) (show (2 : Int32).toInt = 2 by decide) rfl h.1
    replace h := h.2 _ ex1
    refine g_ca [.int (2 * a4), .int (s.2.1 256 a1.toInt.toNat), .ref 217] xo_imul rfl rfl (fun _ => cx1) ?_
    have ex2 := i_add (x := s.2.1 256 a1.toInt.toNat) (y := (2 * a4)) rfl rfl h.1
    have cx2 := ck_add (x := s.2.1 256 a1.toInt.toNat) (y := (2 * a4)) rfl rfl h.1
    replace h := h.2 _ ex2
    refine g_ca [.int ((s.2.1 256 a1.toInt.toNat) + (2 * a4)), .ref 217] xo_iadd rfl rfl (fun _ => cx2) ?_
    refine g_ial rfl rfl (i_in (x := ((s.2.1 256 a1.toInt.toNat) + (2 * a4))) rfl h.1) ?_
    change Go _ _ _ _ _ _ [.int (s.2.1 217 ((s.2.1 256 a1.toInt.toNat) + (2 * a4)).toInt.toNat)] _ _
    replace h := h.2
    refine g_ld rfl rfl rfl ?_
    refine g_brN rfl rfl ⟨fun hc => ?_, fun hc => ?_⟩
    · replace h := h.1 (fun q => hc ((i_eq (x := s.2.1 217 ((s.2.1 256 a1.toInt.toNat) + (2 * a4)).toInt.toNat) (y := a2) rfl rfl).mpr q))
      refine g_ld rfl rfl rfl ?_
      exact k_200_27 r9 h
    · replace h := h.2 ((i_eq (x := s.2.1 217 ((s.2.1 256 a1.toInt.toNat) + (2 * a4)).toInt.toNat) (y := a2) rfl rfl).mp hc)
      refine g_ld rfl rfl rfl ?_
      refine g_go rfl ?_
      exact k_200_27 r9 h
def wl_200_9 (T : Nat → List Value → yS → (Option Value → yS → Prop) → Prop)  (a1 : Int32) (a2 : Int32) (a3 : Int32) (a4 : Int32) (s : yS) (P : Option Value → yS → Prop) : Prop :=
  ∃ (I : Int32 → Int32 → Int32 → Int32 → yS → Prop) (μ : Int32 → Int32 → Int32 → Int32 → yS → Nat), I a1 a2 a3 a4 s ∧ ∀ (a1 : Int32) (a2 : Int32) (a3 : Int32) (a4 : Int32) (s : yS), I a1 a2 a3 a4 s → w_200_9 T (fun a1' a2' a3' a4' s' => I a1' a2' a3' a4' s' ∧ μ a1' a2' a3' a4' s' < μ a1 a2 a3 a4 s) a1 a2 a3 a4 s P
theorem kl_200_9 {d : Nat}  {a1 : Int32} {a2 : Int32} {a3 : Int32} {a4 : Int32} {s : yS} {P : Option Value → yS → Prop}  (h : wl_200_9 (Tot d)  a1 a2 a3 a4 s P) : Go d 5 (some .int) xE_200 (xE_200.drop 9) [.ref 213, .int a1, .int a2, .int a3, .int a4, .null, .null, .null] [] s P := by
  obtain ⟨I, μ, h0, h1⟩ := h
  have key : ∀ (n : Nat) (a1 : Int32) (a2 : Int32) (a3 : Int32) (a4 : Int32) (s : yS), μ a1 a2 a3 a4 s = n → I a1 a2 a3 a4 s → Go d 5 (some .int) xE_200 (xE_200.drop 9) [.ref 213, .int a1, .int a2, .int a3, .int a4, .null, .null, .null] [] s P := by
    intro n
    induction n using Nat.strongRecOn with
    | ind n ih =>
      intro a1 a2 a3 a4 s e hI
      exact k_200_9 (fun a1' a2' a3' a4' s' q => ih _ (by rw [← e]; exact q.2) _ _ _ _ _ rfl q.1) (h1 a1 a2 a3 a4 s hI)
  exact key _ a1 a2 a3 a4 s rfl h0
def w_200_0 (T : Nat → List Value → yS → (Option Value → yS → Prop) → Prop)  (a1 : Int32) (a2 : Int32) (s : yS) (P : Option Value → yS → Prop) : Prop :=
  (0 ≤ a1.toInt ∧ a1.toInt < 120) ∧ ((-2147483648 ≤ (s.2.1 255 a1.toInt.toNat).toInt - 1 ∧ (s.2.1 255 a1.toInt.toNat).toInt - 1 ≤ 2147483647) ∧ (∀ x1 : Int32, x1.toInt = (s.2.1 255 a1.toInt.toNat).toInt - 1 → wl_200_9 T  a1 a2 (-1) x1  s P))
set_option maxRecDepth 20000 in
theorem k_200_0 {d : Nat}  {a1 : Int32} {a2 : Int32} {s : yS} {P : Option Value → yS → Prop}  (h : w_200_0 (Tot d)  a1 a2 s P) : Go d 5 (some .int) xE_200 (xE_200.drop 0) [.ref 213, .int a1, .int a2, .null, .null, .null, .null, .null] [] s P := by
  unfold w_200_0 at h
  refine g_c [.int (-1)] (xo_push (.int (-1))) rfl rfl ?_
  refine g_st [.ref 213, .int a1, .int a2, .int (-1), .null, .null, .null, .null] rfl rfl rfl ?_
  refine g_ld rfl rfl rfl ?_
  refine g_get rfl rfl ?_
  change Go _ _ _ _ _ _ [.ref 255] _ _
  refine g_ld rfl rfl rfl ?_
  refine g_ial rfl rfl (i_in (x := a1) rfl h.1) ?_
  change Go _ _ _ _ _ _ [.int (s.2.1 255 a1.toInt.toNat)] _ _
  replace h := h.2
  refine g_c [.int 1, .int (s.2.1 255 a1.toInt.toNat)] (xo_push (.int 1)) rfl rfl ?_
  have ex1 := i_sub (x := s.2.1 255 a1.toInt.toNat) (y := 1) rfl (show (1 : Int32).toInt = 1 by decide) h.1
  have cx1 := ck_sub (x := s.2.1 255 a1.toInt.toNat) (y := 1) rfl (show (1 : Int32).toInt = 1 by decide) h.1
  replace h := h.2 _ ex1
  refine g_ca [.int ((s.2.1 255 a1.toInt.toNat) - 1)] xo_isub rfl rfl (fun _ => cx1) ?_
  refine g_st [.ref 213, .int a1, .int a2, .int (-1), .int ((s.2.1 255 a1.toInt.toNat) - 1), .null, .null, .null] rfl rfl rfl ?_
  exact kl_200_9  h
theorem t_200 {d : Nat} {a1 : Int32} {a2 : Int32} {s : yS} {P : Option Value → yS → Prop} (h : w_200_0 (Tot d) a1 a2 s P) : Tot (d + 1) 200 [.ref 213, .int a1, .int a2] s P := tot_of (E := xE_200) (ml := 5) (ret := some .int) rfl rfl rfl (k_200_0 h)
/-! namesOfType -/
def w_201_91 (T : Nat → List Value → yS → (Option Value → yS → Prop) → Prop) (R54 : Int32 → Int32 → Int32 → yS → Prop) (a1 : Int32) (a2 : Int32) (a3 : Int32) (s : yS) (P : Option Value → yS → Prop) : Prop :=
  (-2147483648 ≤ 6 * a3.toInt ∧ 6 * a3.toInt ≤ 2147483647) ∧ (∀ x1 : Int32, x1.toInt = 6 * a3.toInt → (0 ≤ a3.toInt ∧ a3.toInt < 408) ∧ (T 199 [.ref 213, .ref 246, .int x1, .int (s.2.1 245 a3.toInt.toNat), .int (-1)] s (fun v3 s2 => v3 = none ∧ ((-2147483648 ≤ a3.toInt + 1 ∧ a3.toInt + 1 ≤ 2147483647) ∧ (∀ x4 : Int32, x4.toInt = a3.toInt + 1 → R54 a1 a2 x4  s2)))))
set_option maxRecDepth 20000 in
theorem k_201_91 {d : Nat} {R54 : Int32 → Int32 → Int32 → yS → Prop} {a1 : Int32} {a2 : Int32} {a3 : Int32} {s : yS} {P : Option Value → yS → Prop} (r54 : ∀ a1 a2 a3 s, R54 a1 a2 a3 s → Go d 4 (none) xE_201 (xE_201.drop 54) [.ref 213, .int a1, .int a2, .int a3, .null, .null] [] s P) (h : w_201_91 (Tot d) R54 a1 a2 a3 s P) : Go d 4 (none) xE_201 (xE_201.drop 91) [.ref 213, .int a1, .int a2, .int a3, .null, .null] [] s P := by
  unfold w_201_91 at h
  refine g_ld rfl rfl rfl ?_
  refine g_ld rfl rfl rfl ?_
  refine g_get rfl rfl ?_
  change Go _ _ _ _ _ _ [.ref 246, .ref 213] _ _
  refine g_c [.int 6, .ref 246, .ref 213] (xo_push (.int 6)) rfl rfl ?_
  refine g_ld rfl rfl rfl ?_
  have ex1 := i_mul (x := 6) (y := a3) (show (6 : Int32).toInt = 6 by decide) rfl h.1
  have cx1 := ck_mul (x := 6) (y := a3) (show (6 : Int32).toInt = 6 by decide) rfl h.1
  replace h := h.2 _ ex1
  refine g_ca [.int (6 * a3), .ref 246, .ref 213] xo_imul rfl rfl (fun _ => cx1) ?_
  refine g_ld rfl rfl rfl ?_
  refine g_get rfl rfl ?_
  change Go _ _ _ _ _ _ [.ref 245, .int (6 * a3), .ref 246, .ref 213] _ _
  refine g_ld rfl rfl rfl ?_
  refine g_ial rfl rfl (i_in (x := a3) rfl h.1) ?_
  change Go _ _ _ _ _ _ [.int (s.2.1 245 a3.toInt.toNat), .int (6 * a3), .ref 246, .ref 213] _ _
  replace h := h.2
  refine g_c [.int (-1), .int (s.2.1 245 a3.toInt.toNat), .int (6 * a3), .ref 246, .ref 213] (xo_push (.int (-1))) rfl rfl ?_
  refine g_call [.ref 213, .ref 246, .int (6 * a3), .int (s.2.1 245 a3.toInt.toNat), .int (-1)] [] rfl rfl rfl (Tot.imp h (fun v3 s2 h => ?_))
  obtain ⟨rfl, h⟩ := h
  change Go _ _ _ _ _ _ [] _ _
  have ex4 := i_add (x := a3) (y := 1) rfl (show (1 : Int32).toInt = 1 by decide) h.1
  have cx4 := ck_inc (x := a3) (n := 1) rfl h.1
  replace h := h.2 _ ex4
  refine g_inc [.ref 213, .int a1, .int a2, .int (a3 + 1), .null, .null] rfl rfl rfl rfl cx4 ?_
  refine g_go rfl ?_
  exact r54 a1 a2 (a3 + 1)  s2 h
def w_201_54 (T : Nat → List Value → yS → (Option Value → yS → Prop) → Prop) (R54 : Int32 → Int32 → Int32 → yS → Prop) (a1 : Int32) (a2 : Int32) (a3 : Int32) (s : yS) (P : Option Value → yS → Prop) : Prop :=
  (0 ≤ a1.toInt ∧ a1.toInt < 48) ∧ ((0 ≤ a1.toInt ∧ a1.toInt < 48) ∧ ((-2147483648 ≤ (s.2.1 242 a1.toInt.toNat).toInt + (s.2.1 243 a1.toInt.toNat).toInt ∧ (s.2.1 242 a1.toInt.toNat).toInt + (s.2.1 243 a1.toInt.toNat).toInt ≤ 2147483647) ∧ (∀ x1 : Int32, x1.toInt = (s.2.1 242 a1.toInt.toNat).toInt + (s.2.1 243 a1.toInt.toNat).toInt → (x1.toInt ≤ a3.toInt → P none s) ∧ (¬ (x1.toInt ≤ a3.toInt) → (0 ≤ a3.toInt ∧ a3.toInt < 408) ∧ ((0 ≤ a1.toInt ∧ a1.toInt < 48) ∧ ((0 ≤ a1.toInt ∧ a1.toInt < 48) ∧ ((-2147483648 ≤ a3.toInt - (s.2.1 242 a1.toInt.toNat).toInt ∧ a3.toInt - (s.2.1 242 a1.toInt.toNat).toInt ≤ 2147483647) ∧ (∀ x2 : Int32, x2.toInt = a3.toInt - (s.2.1 242 a1.toInt.toNat).toInt → T 198 [.ref 213, .int (s.2.1 244 a3.toInt.toNat), .ref 244, .int (s.2.1 242 a1.toInt.toNat), .int x2] s (fun v4 s3 => ∃ x5, v4 = some (.int x5) ∧ ((x5.toInt = 0 → w_201_91 T R54 a1 a2 a3  s3 P) ∧ (¬ (x5.toInt = 0) → (0 ≤ a3.toInt ∧ a3.toInt < 408) ∧ (T 163 [.ref 213, .int 3, .int (s3.2.1 244 a3.toInt.toNat)] s3 (fun v7 s6 => v7 = none ∧ (w_201_91 T R54 a1 a2 a3  s6 P))))))))))))))
set_option maxRecDepth 20000 in
theorem k_201_54 {d : Nat} {R54 : Int32 → Int32 → Int32 → yS → Prop} {a1 : Int32} {a2 : Int32} {a3 : Int32} {s : yS} {P : Option Value → yS → Prop} (r54 : ∀ a1 a2 a3 s, R54 a1 a2 a3 s → Go d 4 (none) xE_201 (xE_201.drop 54) [.ref 213, .int a1, .int a2, .int a3, .null, .null] [] s P) (h : w_201_54 (Tot d) R54 a1 a2 a3 s P) : Go d 4 (none) xE_201 (xE_201.drop 54) [.ref 213, .int a1, .int a2, .int a3, .null, .null] [] s P := by
  unfold w_201_54 at h
  refine g_ld rfl rfl rfl ?_
  refine g_ld rfl rfl rfl ?_
  refine g_get rfl rfl ?_
  change Go _ _ _ _ _ _ [.ref 242, .int a3] _ _
  refine g_ld rfl rfl rfl ?_
  refine g_ial rfl rfl (i_in (x := a1) rfl h.1) ?_
  change Go _ _ _ _ _ _ [.int (s.2.1 242 a1.toInt.toNat), .int a3] _ _
  replace h := h.2
  refine g_ld rfl rfl rfl ?_
  refine g_get rfl rfl ?_
  change Go _ _ _ _ _ _ [.ref 243, .int (s.2.1 242 a1.toInt.toNat), .int a3] _ _
  refine g_ld rfl rfl rfl ?_
  refine g_ial rfl rfl (i_in (x := a1) rfl h.1) ?_
  change Go _ _ _ _ _ _ [.int (s.2.1 243 a1.toInt.toNat), .int (s.2.1 242 a1.toInt.toNat), .int a3] _ _
  replace h := h.2
  have ex1 := i_add (x := s.2.1 242 a1.toInt.toNat) (y := s.2.1 243 a1.toInt.toNat) rfl rfl h.1
  have cx1 := ck_add (x := s.2.1 242 a1.toInt.toNat) (y := s.2.1 243 a1.toInt.toNat) rfl rfl h.1
  replace h := h.2 _ ex1
  refine g_ca [.int ((s.2.1 242 a1.toInt.toNat) + (s.2.1 243 a1.toInt.toNat)), .int a3] xo_iadd rfl rfl (fun _ => cx1) ?_
  refine g_brP rfl rfl ⟨fun hc => ?_, fun hc => ?_⟩
  · replace h := h.1 ((i_le (x := ((s.2.1 242 a1.toInt.toNat) + (s.2.1 243 a1.toInt.toNat))) (y := a3) rfl rfl).mp hc)
    exact g_ret0 rfl h
  · replace h := h.2 (fun q => hc ((i_le (x := ((s.2.1 242 a1.toInt.toNat) + (s.2.1 243 a1.toInt.toNat))) (y := a3) rfl rfl).mpr q))
    refine g_ld rfl rfl rfl ?_
    refine g_ld rfl rfl rfl ?_
    refine g_get rfl rfl ?_
    change Go _ _ _ _ _ _ [.ref 244, .ref 213] _ _
    refine g_ld rfl rfl rfl ?_
    refine g_ial rfl rfl (i_in (x := a3) rfl h.1) ?_
    change Go _ _ _ _ _ _ [.int (s.2.1 244 a3.toInt.toNat), .ref 213] _ _
    replace h := h.2
    refine g_ld rfl rfl rfl ?_
    refine g_get rfl rfl ?_
    change Go _ _ _ _ _ _ [.ref 244, .int (s.2.1 244 a3.toInt.toNat), .ref 213] _ _
    refine g_ld rfl rfl rfl ?_
    refine g_get rfl rfl ?_
    change Go _ _ _ _ _ _ [.ref 242, .ref 244, .int (s.2.1 244 a3.toInt.toNat), .ref 213] _ _
    refine g_ld rfl rfl rfl ?_
    refine g_ial rfl rfl (i_in (x := a1) rfl h.1) ?_
    change Go _ _ _ _ _ _ [.int (s.2.1 242 a1.toInt.toNat), .ref 244, .int (s.2.1 244 a3.toInt.toNat), .ref 213] _ _
    replace h := h.2
    refine g_ld rfl rfl rfl ?_
    refine g_ld rfl rfl rfl ?_
    refine g_get rfl rfl ?_
    change Go _ _ _ _ _ _ [.ref 242, .int a3, .int (s.2.1 242 a1.toInt.toNat), .ref 244, .int (s.2.1 244 a3.toInt.toNat), .ref 213] _ _
    refine g_ld rfl rfl rfl ?_
    refine g_ial rfl rfl (i_in (x := a1) rfl h.1) ?_
    change Go _ _ _ _ _ _ [.int (s.2.1 242 a1.toInt.toNat), .int a3, .int (s.2.1 242 a1.toInt.toNat), .ref 244, .int (s.2.1 244 a3.toInt.toNat), .ref 213] _ _
    replace h := h.2
    have ex2 := i_sub (x := a3) (y := s.2.1 242 a1.toInt.toNat) rfl rfl h.1
    have cx2 := ck_sub (x := a3) (y := s.2.1 242 a1.toInt.toNat) rfl rfl h.1
    replace h := h.2 _ ex2
    refine g_ca [.int (a3 - (s.2.1 242 a1.toInt.toNat)), .int (s.2.1 242 a1.toInt.toNat), .ref 244, .int (s.2.1 244 a3.toInt.toNat), .ref 213] xo_isub rfl rfl (fun _ => cx2) ?_
    refine g_call [.ref 213, .int (s.2.1 244 a3.toInt.toNat), .ref 244, .int (s.2.1 242 a1.toInt.toNat), .int (a3 - (s.2.1 242 a1.toInt.toNat))] [] rfl rfl rfl (Tot.imp h (fun v4 s3 h => ?_))
    obtain ⟨x5, rfl, h⟩ := h
    change Go _ _ _ _ _ _ [.int x5] _ _
    refine g_brP rfl rfl ⟨fun hc => ?_, fun hc => ?_⟩
    · replace h := h.1 ((i_eq (x := x5) (y := 0) rfl (show (0 : Int32).toInt = 0 by decide)).mp hc)
      exact k_201_91 r54 h
    · replace h := h.2 (fun q => hc ((i_eq (x := x5) (y := 0) rfl (show (0 : Int32).toInt = 0 by decide)).mpr q))
      refine g_ld rfl rfl rfl ?_
      refine g_c [.int 3, .ref 213] (xo_push (.int 3)) rfl rfl ?_
      refine g_ld rfl rfl rfl ?_
      refine g_get rfl rfl ?_
      change Go _ _ _ _ _ _ [.ref 244, .int 3, .ref 213] _ _
      refine g_ld rfl rfl rfl ?_
      refine g_ial rfl rfl (i_in (x := a3) rfl h.1) ?_
      change Go _ _ _ _ _ _ [.int (s3.2.1 244 a3.toInt.toNat), .int 3, .ref 213] _ _
      replace h := h.2
      refine g_call [.ref 213, .int 3, .int (s3.2.1 244 a3.toInt.toNat)] [] rfl rfl rfl (Tot.imp h (fun v7 s6 h => ?_))
      obtain ⟨rfl, h⟩ := h
      change Go _ _ _ _ _ _ [] _ _
      exact k_201_91 r54 h
def wl_201_54 (T : Nat → List Value → yS → (Option Value → yS → Prop) → Prop)  (a1 : Int32) (a2 : Int32) (a3 : Int32) (s : yS) (P : Option Value → yS → Prop) : Prop :=
  ∃ (I : Int32 → Int32 → Int32 → yS → Prop) (μ : Int32 → Int32 → Int32 → yS → Nat), I a1 a2 a3 s ∧ ∀ (a1 : Int32) (a2 : Int32) (a3 : Int32) (s : yS), I a1 a2 a3 s → w_201_54 T (fun a1' a2' a3' s' => I a1' a2' a3' s' ∧ μ a1' a2' a3' s' < μ a1 a2 a3 s) a1 a2 a3 s P
theorem kl_201_54 {d : Nat}  {a1 : Int32} {a2 : Int32} {a3 : Int32} {s : yS} {P : Option Value → yS → Prop}  (h : wl_201_54 (Tot d)  a1 a2 a3 s P) : Go d 4 (none) xE_201 (xE_201.drop 54) [.ref 213, .int a1, .int a2, .int a3, .null, .null] [] s P := by
  obtain ⟨I, μ, h0, h1⟩ := h
  have key : ∀ (n : Nat) (a1 : Int32) (a2 : Int32) (a3 : Int32) (s : yS), μ a1 a2 a3 s = n → I a1 a2 a3 s → Go d 4 (none) xE_201 (xE_201.drop 54) [.ref 213, .int a1, .int a2, .int a3, .null, .null] [] s P := by
    intro n
    induction n using Nat.strongRecOn with
    | ind n ih =>
      intro a1 a2 a3 s e hI
      exact k_201_54 (fun a1' a2' a3' s' q => ih _ (by rw [← e]; exact q.2) _ _ _ _ rfl q.1) (h1 a1 a2 a3 s hI)
  exact key _ a1 a2 a3 s rfl h0
def w_201_25 (T : Nat → List Value → yS → (Option Value → yS → Prop) → Prop)  (a1 : Int32) (a2 : Int32) (s : yS) (P : Option Value → yS → Prop) : Prop :=
  (-2147483648 ≤ 6 * a1.toInt ∧ 6 * a1.toInt ≤ 2147483647) ∧ (∀ x1 : Int32, x1.toInt = 6 * a1.toInt → (0 ≤ a1.toInt ∧ a1.toInt < 48) ∧ (T 199 [.ref 213, .ref 237, .int x1, .int (s.2.1 236 a1.toInt.toNat), .int (-1)] s (fun v3 s2 => v3 = none ∧ ((-2147483648 ≤ 6 * a1.toInt ∧ 6 * a1.toInt ≤ 2147483647) ∧ (∀ x4 : Int32, x4.toInt = 6 * a1.toInt → (0 ≤ a1.toInt ∧ a1.toInt < 48) ∧ (T 199 [.ref 213, .ref 240, .int x4, .int (s2.2.1 239 a1.toInt.toNat), .int (-1)] s2 (fun v6 s5 => v6 = none ∧ ((0 ≤ a1.toInt ∧ a1.toInt < 48) ∧ (wl_201_54 T  a1 a2 (s5.2.1 242 a1.toInt.toNat)  s5 P)))))))))
set_option maxRecDepth 20000 in
theorem k_201_25 {d : Nat}  {a1 : Int32} {a2 : Int32} {s : yS} {P : Option Value → yS → Prop}  (h : w_201_25 (Tot d)  a1 a2 s P) : Go d 4 (none) xE_201 (xE_201.drop 25) [.ref 213, .int a1, .int a2, .null, .null, .null] [] s P := by
  unfold w_201_25 at h
  refine g_ld rfl rfl rfl ?_
  refine g_ld rfl rfl rfl ?_
  refine g_get rfl rfl ?_
  change Go _ _ _ _ _ _ [.ref 237, .ref 213] _ _
  refine g_c [.int 6, .ref 237, .ref 213] (xo_push (.int 6)) rfl rfl ?_
  refine g_ld rfl rfl rfl ?_
  have ex1 := i_mul (x := 6) (y := a1) (show (6 : Int32).toInt = 6 by decide) rfl h.1
  have cx1 := ck_mul (x := 6) (y := a1) (show (6 : Int32).toInt = 6 by decide) rfl h.1
  replace h := h.2 _ ex1
  refine g_ca [.int (6 * a1), .ref 237, .ref 213] xo_imul rfl rfl (fun _ => cx1) ?_
  refine g_ld rfl rfl rfl ?_
  refine g_get rfl rfl ?_
  change Go _ _ _ _ _ _ [.ref 236, .int (6 * a1), .ref 237, .ref 213] _ _
  refine g_ld rfl rfl rfl ?_
  refine g_ial rfl rfl (i_in (x := a1) rfl h.1) ?_
  change Go _ _ _ _ _ _ [.int (s.2.1 236 a1.toInt.toNat), .int (6 * a1), .ref 237, .ref 213] _ _
  replace h := h.2
  refine g_c [.int (-1), .int (s.2.1 236 a1.toInt.toNat), .int (6 * a1), .ref 237, .ref 213] (xo_push (.int (-1))) rfl rfl ?_
  refine g_call [.ref 213, .ref 237, .int (6 * a1), .int (s.2.1 236 a1.toInt.toNat), .int (-1)] [] rfl rfl rfl (Tot.imp h (fun v3 s2 h => ?_))
  obtain ⟨rfl, h⟩ := h
  change Go _ _ _ _ _ _ [] _ _
  refine g_ld rfl rfl rfl ?_
  refine g_ld rfl rfl rfl ?_
  refine g_get rfl rfl ?_
  change Go _ _ _ _ _ _ [.ref 240, .ref 213] _ _
  refine g_c [.int 6, .ref 240, .ref 213] (xo_push (.int 6)) rfl rfl ?_
  refine g_ld rfl rfl rfl ?_
  have ex4 := i_mul (x := 6) (y := a1) (show (6 : Int32).toInt = 6 by decide) rfl h.1
  have cx4 := ck_mul (x := 6) (y := a1) (show (6 : Int32).toInt = 6 by decide) rfl h.1
  replace h := h.2 _ ex4
  refine g_ca [.int (6 * a1), .ref 240, .ref 213] xo_imul rfl rfl (fun _ => cx4) ?_
  refine g_ld rfl rfl rfl ?_
  refine g_get rfl rfl ?_
  change Go _ _ _ _ _ _ [.ref 239, .int (6 * a1), .ref 240, .ref 213] _ _
  refine g_ld rfl rfl rfl ?_
  refine g_ial rfl rfl (i_in (x := a1) rfl h.1) ?_
  change Go _ _ _ _ _ _ [.int (s2.2.1 239 a1.toInt.toNat), .int (6 * a1), .ref 240, .ref 213] _ _
  replace h := h.2
  refine g_c [.int (-1), .int (s2.2.1 239 a1.toInt.toNat), .int (6 * a1), .ref 240, .ref 213] (xo_push (.int (-1))) rfl rfl ?_
  refine g_call [.ref 213, .ref 240, .int (6 * a1), .int (s2.2.1 239 a1.toInt.toNat), .int (-1)] [] rfl rfl rfl (Tot.imp h (fun v6 s5 h => ?_))
  obtain ⟨rfl, h⟩ := h
  change Go _ _ _ _ _ _ [] _ _
  refine g_ld rfl rfl rfl ?_
  refine g_get rfl rfl ?_
  change Go _ _ _ _ _ _ [.ref 242] _ _
  refine g_ld rfl rfl rfl ?_
  refine g_ial rfl rfl (i_in (x := a1) rfl h.1) ?_
  change Go _ _ _ _ _ _ [.int (s5.2.1 242 a1.toInt.toNat)] _ _
  replace h := h.2
  refine g_st [.ref 213, .int a1, .int a2, .int (s5.2.1 242 a1.toInt.toNat), .null, .null] rfl rfl rfl ?_
  exact kl_201_54  h
def w_201_0 (T : Nat → List Value → yS → (Option Value → yS → Prop) → Prop)  (a1 : Int32) (s : yS) (P : Option Value → yS → Prop) : Prop :=
  (-2147483648 ≤ 24 * (s.1 30).toInt ∧ 24 * (s.1 30).toInt ≤ 2147483647) ∧ (∀ x1 : Int32, x1.toInt = 24 * (s.1 30).toInt → (0 ≤ a1.toInt ∧ a1.toInt < 48) ∧ ((-2147483648 ≤ a1.toInt - x1.toInt ∧ a1.toInt - x1.toInt ≤ 2147483647) ∧ (∀ x2 : Int32, x2.toInt = a1.toInt - x1.toInt → T 198 [.ref 213, .int (s.2.1 234 a1.toInt.toNat), .ref 234, .int x1, .int x2] s (fun v4 s3 => ∃ x5, v4 = some (.int x5) ∧ ((x5.toInt = 0 → w_201_25 T  a1 x1  s3 P) ∧ (¬ (x5.toInt = 0) → (0 ≤ a1.toInt ∧ a1.toInt < 48) ∧ (T 163 [.ref 213, .int 3, .int (s3.2.1 234 a1.toInt.toNat)] s3 (fun v7 s6 => v7 = none ∧ (w_201_25 T  a1 x1  s6 P)))))))))
set_option maxRecDepth 20000 in
theorem k_201_0 {d : Nat}  {a1 : Int32} {s : yS} {P : Option Value → yS → Prop}  (h : w_201_0 (Tot d)  a1 s P) : Go d 4 (none) xE_201 (xE_201.drop 0) [.ref 213, .int a1, .null, .null, .null, .null] [] s P := by
  unfold w_201_0 at h
  refine g_c [.int 24] (xo_push (.int 24)) rfl rfl ?_
  refine g_ld rfl rfl rfl ?_
  refine g_get rfl rfl ?_
  change Go _ _ _ _ _ _ [.int (s.1 30), .int 24] _ _
  have ex1 := i_mul (x := 24) (y := s.1 30) (show (24 : Int32).toInt = 24 by decide) rfl h.1
  have cx1 := ck_mul (x := 24) (y := s.1 30) (show (24 : Int32).toInt = 24 by decide) rfl h.1
  replace h := h.2 _ ex1
  refine g_ca [.int (24 * (s.1 30))] xo_imul rfl rfl (fun _ => cx1) ?_
  refine g_st [.ref 213, .int a1, .int (24 * (s.1 30)), .null, .null, .null] rfl rfl rfl ?_
  refine g_ld rfl rfl rfl ?_
  refine g_ld rfl rfl rfl ?_
  refine g_get rfl rfl ?_
  change Go _ _ _ _ _ _ [.ref 234, .ref 213] _ _
  refine g_ld rfl rfl rfl ?_
  refine g_ial rfl rfl (i_in (x := a1) rfl h.1) ?_
  change Go _ _ _ _ _ _ [.int (s.2.1 234 a1.toInt.toNat), .ref 213] _ _
  replace h := h.2
  refine g_ld rfl rfl rfl ?_
  refine g_get rfl rfl ?_
  change Go _ _ _ _ _ _ [.ref 234, .int (s.2.1 234 a1.toInt.toNat), .ref 213] _ _
  refine g_ld rfl rfl rfl ?_
  refine g_ld rfl rfl rfl ?_
  refine g_ld rfl rfl rfl ?_
  have ex2 := i_sub (x := a1) (y := (24 * (s.1 30))) rfl rfl h.1
  have cx2 := ck_sub (x := a1) (y := (24 * (s.1 30))) rfl rfl h.1
  replace h := h.2 _ ex2
  refine g_ca [.int (a1 - (24 * (s.1 30))), .int (24 * (s.1 30)), .ref 234, .int (s.2.1 234 a1.toInt.toNat), .ref 213] xo_isub rfl rfl (fun _ => cx2) ?_
  refine g_call [.ref 213, .int (s.2.1 234 a1.toInt.toNat), .ref 234, .int (24 * (s.1 30)), .int (a1 - (24 * (s.1 30)))] [] rfl rfl rfl (Tot.imp h (fun v4 s3 h => ?_))
  obtain ⟨x5, rfl, h⟩ := h
  change Go _ _ _ _ _ _ [.int x5] _ _
  refine g_brP rfl rfl ⟨fun hc => ?_, fun hc => ?_⟩
  · replace h := h.1 ((i_eq (x := x5) (y := 0) rfl (show (0 : Int32).toInt = 0 by decide)).mp hc)
    exact k_201_25  h
  · replace h := h.2 (fun q => hc ((i_eq (x := x5) (y := 0) rfl (show (0 : Int32).toInt = 0 by decide)).mpr q))
    refine g_ld rfl rfl rfl ?_
    refine g_c [.int 3, .ref 213] (xo_push (.int 3)) rfl rfl ?_
    refine g_ld rfl rfl rfl ?_
    refine g_get rfl rfl ?_
    change Go _ _ _ _ _ _ [.ref 234, .int 3, .ref 213] _ _
    refine g_ld rfl rfl rfl ?_
    refine g_ial rfl rfl (i_in (x := a1) rfl h.1) ?_
    change Go _ _ _ _ _ _ [.int (s3.2.1 234 a1.toInt.toNat), .int 3, .ref 213] _ _
    replace h := h.2
    refine g_call [.ref 213, .int 3, .int (s3.2.1 234 a1.toInt.toNat)] [] rfl rfl rfl (Tot.imp h (fun v7 s6 h => ?_))
    obtain ⟨rfl, h⟩ := h
    change Go _ _ _ _ _ _ [] _ _
    exact k_201_25  h
theorem t_201 {d : Nat} {a1 : Int32} {s : yS} {P : Option Value → yS → Prop} (h : w_201_0 (Tot d) a1 s P) : Tot (d + 1) 201 [.ref 213, .int a1] s P := tot_of (E := xE_201) (ml := 4) (ret := none) rfl rfl rfl (k_201_0 h)
/-! namesOfFunc -/
def w_202_173 (T : Nat → List Value → yS → (Option Value → yS → Prop) → Prop) (R120 : Int32 → Int32 → Int32 → yS → Prop) (a1 : Int32) (a2 : Int32) (a3 : Int32) (s : yS) (P : Option Value → yS → Prop) : Prop :=
  (-2147483648 ≤ a3.toInt + 1 ∧ a3.toInt + 1 ≤ 2147483647) ∧ (∀ x1 : Int32, x1.toInt = a3.toInt + 1 → R120 a1 a2 x1  s)
set_option maxRecDepth 20000 in
theorem k_202_173 {d : Nat} {R120 : Int32 → Int32 → Int32 → yS → Prop} {a1 : Int32} {a2 : Int32} {a3 : Int32} {s : yS} {P : Option Value → yS → Prop} (r120 : ∀ a1 a2 a3 s, R120 a1 a2 a3 s → Go d 4 (none) xE_202 (xE_202.drop 120) [.ref 213, .int a1, .int a2, .int a3, .null, .null] [] s P) (h : w_202_173 (Tot d) R120 a1 a2 a3 s P) : Go d 4 (none) xE_202 (xE_202.drop 173) [.ref 213, .int a1, .int a2, .int a3, .null, .null] [] s P := by
  unfold w_202_173 at h
  have ex1 := i_add (x := a3) (y := 1) rfl (show (1 : Int32).toInt = 1 by decide) h.1
  have cx1 := ck_inc (x := a3) (n := 1) rfl h.1
  replace h := h.2 _ ex1
  refine g_inc [.ref 213, .int a1, .int a2, .int (a3 + 1), .null, .null] rfl rfl rfl rfl cx1 ?_
  refine g_go rfl ?_
  exact r120 a1 a2 (a3 + 1)  s h
def w_202_162 (T : Nat → List Value → yS → (Option Value → yS → Prop) → Prop) (R120 : Int32 → Int32 → Int32 → yS → Prop) (a1 : Int32) (a2 : Int32) (a3 : Int32) (s : yS) (P : Option Value → yS → Prop) : Prop :=
  (-2147483648 ≤ 6 * a2.toInt ∧ 6 * a2.toInt ≤ 2147483647) ∧ (∀ x1 : Int32, x1.toInt = 6 * a2.toInt → (-2147483648 ≤ x1.toInt + a3.toInt ∧ x1.toInt + a3.toInt ≤ 2147483647) ∧ (∀ x2 : Int32, x2.toInt = x1.toInt + a3.toInt → (0 ≤ x2.toInt ∧ x2.toInt < 2448) ∧ (T 163 [.ref 213, .int 3, .int (s.2.1 249 x2.toInt.toNat)] s (fun v4 s3 => v4 = none ∧ (w_202_173 T R120 a1 a2 a3  s3 P)))))
set_option maxRecDepth 20000 in
theorem k_202_162 {d : Nat} {R120 : Int32 → Int32 → Int32 → yS → Prop} {a1 : Int32} {a2 : Int32} {a3 : Int32} {s : yS} {P : Option Value → yS → Prop} (r120 : ∀ a1 a2 a3 s, R120 a1 a2 a3 s → Go d 4 (none) xE_202 (xE_202.drop 120) [.ref 213, .int a1, .int a2, .int a3, .null, .null] [] s P) (h : w_202_162 (Tot d) R120 a1 a2 a3 s P) : Go d 4 (none) xE_202 (xE_202.drop 162) [.ref 213, .int a1, .int a2, .int a3, .null, .null] [] s P := by
  unfold w_202_162 at h
  refine g_ld rfl rfl rfl ?_
  refine g_c [.int 3, .ref 213] (xo_push (.int 3)) rfl rfl ?_
  refine g_ld rfl rfl rfl ?_
  refine g_get rfl rfl ?_
  change Go _ _ _ _ _ _ [.ref 249, .int 3, .ref 213] _ _
  refine g_c [.int 6, .ref 249, .int 3, .ref 213] (xo_push (.int 6)) rfl rfl ?_
  refine g_ld rfl rfl rfl ?_
  have ex1 := i_mul (x := 6) (y := a2) (show (6 : Int32).toInt = 6 by decide) rfl h.1
  have cx1 := ck_mul (x := 6) (y := a2) (show (6 : Int32).toInt = 6 by decide) rfl h.1
  replace h := h.2 _ ex1
  refine g_ca [.int (6 * a2), .ref 249, .int 3, .ref 213] xo_imul rfl rfl (fun _ => cx1) ?_
  refine g_ld rfl rfl rfl ?_
  have ex2 := i_add (x := (6 * a2)) (y := a3) rfl rfl h.1
  have cx2 := ck_add (x := (6 * a2)) (y := a3) rfl rfl h.1
  replace h := h.2 _ ex2
  refine g_ca [.int ((6 * a2) + a3), .ref 249, .int 3, .ref 213] xo_iadd rfl rfl (fun _ => cx2) ?_
  refine g_ial rfl rfl (i_in (x := ((6 * a2) + a3)) rfl h.1) ?_
  change Go _ _ _ _ _ _ [.int (s.2.1 249 ((6 * a2) + a3).toInt.toNat), .int 3, .ref 213] _ _
  replace h := h.2
  refine g_call [.ref 213, .int 3, .int (s.2.1 249 ((6 * a2) + a3).toInt.toNat)] [] rfl rfl rfl (Tot.imp h (fun v4 s3 h => ?_))
  obtain ⟨rfl, h⟩ := h
  change Go _ _ _ _ _ _ [] _ _
  exact k_202_173 r120 h
def w_202_120 (T : Nat → List Value → yS → (Option Value → yS → Prop) → Prop) (R120 : Int32 → Int32 → Int32 → yS → Prop) (a1 : Int32) (a2 : Int32) (a3 : Int32) (s : yS) (P : Option Value → yS → Prop) : Prop :=
  (0 ≤ a2.toInt ∧ a2.toInt < 408) ∧ (((s.2.1 248 a2.toInt.toNat).toInt ≤ a3.toInt → P none s) ∧ (¬ ((s.2.1 248 a2.toInt.toNat).toInt ≤ a3.toInt) → (-2147483648 ≤ 6 * a2.toInt ∧ 6 * a2.toInt ≤ 2147483647) ∧ (∀ x1 : Int32, x1.toInt = 6 * a2.toInt → (-2147483648 ≤ x1.toInt + a3.toInt ∧ x1.toInt + a3.toInt ≤ 2147483647) ∧ (∀ x2 : Int32, x2.toInt = x1.toInt + a3.toInt → (0 ≤ x2.toInt ∧ x2.toInt < 2448) ∧ ((0 ≤ (s.2.1 249 x2.toInt.toNat).toInt ∧ (s.2.1 249 x2.toInt.toNat).toInt < 12006) ∧ ((0 ≤ a1.toInt ∧ a1.toInt < 120) ∧ ((0 ≤ (s.2.1 253 a1.toInt.toNat).toInt ∧ (s.2.1 253 a1.toInt.toNat).toInt < 12006) ∧ (((s.2.1 217 (s.2.1 249 x2.toInt.toNat).toInt.toNat).toInt = (s.2.1 217 (s.2.1 253 a1.toInt.toNat).toInt.toNat).toInt → w_202_162 T R120 a1 a2 a3  s P) ∧ (¬ ((s.2.1 217 (s.2.1 249 x2.toInt.toNat).toInt.toNat).toInt = (s.2.1 217 (s.2.1 253 a1.toInt.toNat).toInt.toNat).toInt) → (-2147483648 ≤ 6 * a2.toInt ∧ 6 * a2.toInt ≤ 2147483647) ∧ (∀ x3 : Int32, x3.toInt = 6 * a2.toInt → (-2147483648 ≤ x3.toInt + a3.toInt ∧ x3.toInt + a3.toInt ≤ 2147483647) ∧ (∀ x4 : Int32, x4.toInt = x3.toInt + a3.toInt → (0 ≤ x4.toInt ∧ x4.toInt < 2448) ∧ ((-2147483648 ≤ 6 * a2.toInt ∧ 6 * a2.toInt ≤ 2147483647) ∧ (∀ x5 : Int32, x5.toInt = 6 * a2.toInt → T 198 [.ref 213, .int (s.2.1 249 x4.toInt.toNat), .ref 249, .int x5, .int a3] s (fun v7 s6 => ∃ x8, v7 = some (.int x8) ∧ ((x8.toInt = 0 → w_202_173 T R120 a1 a2 a3  s6 P) ∧ (¬ (x8.toInt = 0) → w_202_162 T R120 a1 a2 a3  s6 P))))))))))))))))
set_option maxRecDepth 20000 in
theorem k_202_120 {d : Nat} {R120 : Int32 → Int32 → Int32 → yS → Prop} {a1 : Int32} {a2 : Int32} {a3 : Int32} {s : yS} {P : Option Value → yS → Prop} (r120 : ∀ a1 a2 a3 s, R120 a1 a2 a3 s → Go d 4 (none) xE_202 (xE_202.drop 120) [.ref 213, .int a1, .int a2, .int a3, .null, .null] [] s P) (h : w_202_120 (Tot d) R120 a1 a2 a3 s P) : Go d 4 (none) xE_202 (xE_202.drop 120) [.ref 213, .int a1, .int a2, .int a3, .null, .null] [] s P := by
  unfold w_202_120 at h
  refine g_ld rfl rfl rfl ?_
  refine g_ld rfl rfl rfl ?_
  refine g_get rfl rfl ?_
  change Go _ _ _ _ _ _ [.ref 248, .int a3] _ _
  refine g_ld rfl rfl rfl ?_
  refine g_ial rfl rfl (i_in (x := a2) rfl h.1) ?_
  change Go _ _ _ _ _ _ [.int (s.2.1 248 a2.toInt.toNat), .int a3] _ _
  replace h := h.2
  refine g_brP rfl rfl ⟨fun hc => ?_, fun hc => ?_⟩
  · replace h := h.1 ((i_le (x := s.2.1 248 a2.toInt.toNat) (y := a3) rfl rfl).mp hc)
    exact g_ret0 rfl h
  · replace h := h.2 (fun q => hc ((i_le (x := s.2.1 248 a2.toInt.toNat) (y := a3) rfl rfl).mpr q))
    refine g_ld rfl rfl rfl ?_
    refine g_get rfl rfl ?_
    change Go _ _ _ _ _ _ [.ref 217] _ _
    refine g_ld rfl rfl rfl ?_
    refine g_get rfl rfl ?_
    change Go _ _ _ _ _ _ [.ref 249, .ref 217] _ _
    refine g_c [.int 6, .ref 249, .ref 217] (xo_push (.int 6)) rfl rfl ?_
    refine g_ld rfl rfl rfl ?_
    have ex1 := i_mul (x := 6) (y := a2) (show (6 : Int32).toInt = 6 by decide) rfl h.1
    have cx1 := ck_mul (x := 6) (y := a2) (show (6 : Int32).toInt = 6 by decide) rfl h.1
    replace h := h.2 _ ex1
    refine g_ca [.int (6 * a2), .ref 249, .ref 217] xo_imul rfl rfl (fun _ => cx1) ?_
    refine g_ld rfl rfl rfl ?_
    have ex2 := i_add (x := (6 * a2)) (y := a3) rfl rfl h.1
    have cx2 := ck_add (x := (6 * a2)) (y := a3) rfl rfl h.1
    replace h := h.2 _ ex2
    refine g_ca [.int ((6 * a2) + a3), .ref 249, .ref 217] xo_iadd rfl rfl (fun _ => cx2) ?_
    refine g_ial rfl rfl (i_in (x := ((6 * a2) + a3)) rfl h.1) ?_
    change Go _ _ _ _ _ _ [.int (s.2.1 249 ((6 * a2) + a3).toInt.toNat), .ref 217] _ _
    replace h := h.2
    refine g_ial rfl rfl (i_in (x := s.2.1 249 ((6 * a2) + a3).toInt.toNat) rfl h.1) ?_
    change Go _ _ _ _ _ _ [.int (s.2.1 217 (s.2.1 249 ((6 * a2) + a3).toInt.toNat).toInt.toNat)] _ _
    replace h := h.2
    refine g_ld rfl rfl rfl ?_
    refine g_get rfl rfl ?_
    change Go _ _ _ _ _ _ [.ref 217, .int (s.2.1 217 (s.2.1 249 ((6 * a2) + a3).toInt.toNat).toInt.toNat)] _ _
    refine g_ld rfl rfl rfl ?_
    refine g_get rfl rfl ?_
    change Go _ _ _ _ _ _ [.ref 253, .ref 217, .int (s.2.1 217 (s.2.1 249 ((6 * a2) + a3).toInt.toNat).toInt.toNat)] _ _
    refine g_ld rfl rfl rfl ?_
    refine g_ial rfl rfl (i_in (x := a1) rfl h.1) ?_
    change Go _ _ _ _ _ _ [.int (s.2.1 253 a1.toInt.toNat), .ref 217, .int (s.2.1 217 (s.2.1 249 ((6 * a2) + a3).toInt.toNat).toInt.toNat)] _ _
    replace h := h.2
    refine g_ial rfl rfl (i_in (x := s.2.1 253 a1.toInt.toNat) rfl h.1) ?_
    change Go _ _ _ _ _ _ [.int (s.2.1 217 (s.2.1 253 a1.toInt.toNat).toInt.toNat), .int (s.2.1 217 (s.2.1 249 ((6 * a2) + a3).toInt.toNat).toInt.toNat)] _ _
    replace h := h.2
    refine g_brP rfl rfl ⟨fun hc => ?_, fun hc => ?_⟩
    · replace h := h.1 ((i_eq (x := s.2.1 217 (s.2.1 249 ((6 * a2) + a3).toInt.toNat).toInt.toNat) (y := s.2.1 217 (s.2.1 253 a1.toInt.toNat).toInt.toNat) rfl rfl).mp hc)
      exact k_202_162 r120 h
    · replace h := h.2 (fun q => hc ((i_eq (x := s.2.1 217 (s.2.1 249 ((6 * a2) + a3).toInt.toNat).toInt.toNat) (y := s.2.1 217 (s.2.1 253 a1.toInt.toNat).toInt.toNat) rfl rfl).mpr q))
      refine g_ld rfl rfl rfl ?_
      refine g_ld rfl rfl rfl ?_
      refine g_get rfl rfl ?_
      change Go _ _ _ _ _ _ [.ref 249, .ref 213] _ _
      refine g_c [.int 6, .ref 249, .ref 213] (xo_push (.int 6)) rfl rfl ?_
      refine g_ld rfl rfl rfl ?_
      have ex3 := i_mul (x := 6) (y := a2) (show (6 : Int32).toInt = 6 by decide) rfl h.1
      have cx3 := ck_mul (x := 6) (y := a2) (show (6 : Int32).toInt = 6 by decide) rfl h.1
      replace h := h.2 _ ex3
      refine g_ca [.int (6 * a2), .ref 249, .ref 213] xo_imul rfl rfl (fun _ => cx3) ?_
      refine g_ld rfl rfl rfl ?_
      have ex4 := i_add (x := (6 * a2)) (y := a3) rfl rfl h.1
      have cx4 := ck_add (x := (6 * a2)) (y := a3) rfl rfl h.1
      replace h := h.2 _ ex4
      refine g_ca [.int ((6 * a2) + a3), .ref 249, .ref 213] xo_iadd rfl rfl (fun _ => cx4) ?_
      refine g_ial rfl rfl (i_in (x := ((6 * a2) + a3)) rfl h.1) ?_
      change Go _ _ _ _ _ _ [.int (s.2.1 249 ((6 * a2) + a3).toInt.toNat), .ref 213] _ _
      replace h := h.2
      refine g_ld rfl rfl rfl ?_
      refine g_get rfl rfl ?_
      change Go _ _ _ _ _ _ [.ref 249, .int (s.2.1 249 ((6 * a2) + a3).toInt.toNat), .ref 213] _ _
      refine g_c [.int 6, .ref 249, .int (s.2.1 249 ((6 * a2) + a3).toInt.toNat), .ref 213] (xo_push (.int 6)) rfl rfl ?_
      refine g_ld rfl rfl rfl ?_
      have ex5 := i_mul (x := 6) (y := a2) (show (6 : Int32).toInt = 6 by decide) rfl h.1
      have cx5 := ck_mul (x := 6) (y := a2) (show (6 : Int32).toInt = 6 by decide) rfl h.1
      replace h := h.2 _ ex5
      refine g_ca [.int (6 * a2), .ref 249, .int (s.2.1 249 ((6 * a2) + a3).toInt.toNat), .ref 213] xo_imul rfl rfl (fun _ => cx5) ?_
      refine g_ld rfl rfl rfl ?_
      refine g_call [.ref 213, .int (s.2.1 249 ((6 * a2) + a3).toInt.toNat), .ref 249, .int (6 * a2), .int a3] [] rfl rfl rfl (Tot.imp h (fun v7 s6 h => ?_))
      obtain ⟨x8, rfl, h⟩ := h
      change Go _ _ _ _ _ _ [.int x8] _ _
      refine g_brP rfl rfl ⟨fun hc => ?_, fun hc => ?_⟩
      · replace h := h.1 ((i_eq (x := x8) (y := 0) rfl (show (0 : Int32).toInt = 0 by decide)).mp hc)
        exact k_202_173 r120 h
      · replace h := h.2 (fun q => hc ((i_eq (x := x8) (y := 0) rfl (show (0 : Int32).toInt = 0 by decide)).mpr q))
        exact k_202_162 r120 h
def wl_202_120 (T : Nat → List Value → yS → (Option Value → yS → Prop) → Prop)  (a1 : Int32) (a2 : Int32) (a3 : Int32) (s : yS) (P : Option Value → yS → Prop) : Prop :=
  ∃ (I : Int32 → Int32 → Int32 → yS → Prop) (μ : Int32 → Int32 → Int32 → yS → Nat), I a1 a2 a3 s ∧ ∀ (a1 : Int32) (a2 : Int32) (a3 : Int32) (s : yS), I a1 a2 a3 s → w_202_120 T (fun a1' a2' a3' s' => I a1' a2' a3' s' ∧ μ a1' a2' a3' s' < μ a1 a2 a3 s) a1 a2 a3 s P
theorem kl_202_120 {d : Nat}  {a1 : Int32} {a2 : Int32} {a3 : Int32} {s : yS} {P : Option Value → yS → Prop}  (h : wl_202_120 (Tot d)  a1 a2 a3 s P) : Go d 4 (none) xE_202 (xE_202.drop 120) [.ref 213, .int a1, .int a2, .int a3, .null, .null] [] s P := by
  obtain ⟨I, μ, h0, h1⟩ := h
  have key : ∀ (n : Nat) (a1 : Int32) (a2 : Int32) (a3 : Int32) (s : yS), μ a1 a2 a3 s = n → I a1 a2 a3 s → Go d 4 (none) xE_202 (xE_202.drop 120) [.ref 213, .int a1, .int a2, .int a3, .null, .null] [] s P := by
    intro n
    induction n using Nat.strongRecOn with
    | ind n ih =>
      intro a1 a2 a3 s e hI
      exact k_202_120 (fun a1' a2' a3' s' q => ih _ (by rw [← e]; exact q.2) _ _ _ _ rfl q.1) (h1 a1 a2 a3 s hI)
  exact key _ a1 a2 a3 s rfl h0
def w_202_104 (T : Nat → List Value → yS → (Option Value → yS → Prop) → Prop) (R61 : Int32 → Int32 → Int32 → yS → Prop) (a1 : Int32) (a2 : Int32) (a3 : Int32) (s : yS) (P : Option Value → yS → Prop) : Prop :=
  (-2147483648 ≤ a3.toInt + 1 ∧ a3.toInt + 1 ≤ 2147483647) ∧ (∀ x1 : Int32, x1.toInt = a3.toInt + 1 → R61 a1 a2 x1  s)
set_option maxRecDepth 20000 in
theorem k_202_104 {d : Nat} {R61 : Int32 → Int32 → Int32 → yS → Prop} {a1 : Int32} {a2 : Int32} {a3 : Int32} {s : yS} {P : Option Value → yS → Prop} (r61 : ∀ a1 a2 a3 s, R61 a1 a2 a3 s → Go d 4 (none) xE_202 (xE_202.drop 61) [.ref 213, .int a1, .int a2, .int a3, .null, .null] [] s P) (h : w_202_104 (Tot d) R61 a1 a2 a3 s P) : Go d 4 (none) xE_202 (xE_202.drop 104) [.ref 213, .int a1, .int a2, .int a3, .null, .null] [] s P := by
  unfold w_202_104 at h
  have ex1 := i_add (x := a3) (y := 1) rfl (show (1 : Int32).toInt = 1 by decide) h.1
  have cx1 := ck_inc (x := a3) (n := 1) rfl h.1
  replace h := h.2 _ ex1
  refine g_inc [.ref 213, .int a1, .int a2, .int (a3 + 1), .null, .null] rfl rfl rfl rfl cx1 ?_
  refine g_go rfl ?_
  exact r61 a1 a2 (a3 + 1)  s h
def w_202_61 (T : Nat → List Value → yS → (Option Value → yS → Prop) → Prop) (R61 : Int32 → Int32 → Int32 → yS → Prop) (a1 : Int32) (a2 : Int32) (a3 : Int32) (s : yS) (P : Option Value → yS → Prop) : Prop :=
  (a1.toInt ≤ a3.toInt → (-2147483648 ≤ 6 * a2.toInt ∧ 6 * a2.toInt ≤ 2147483647) ∧ (∀ x1 : Int32, x1.toInt = 6 * a2.toInt → (0 ≤ a2.toInt ∧ a2.toInt < 408) ∧ (T 199 [.ref 213, .ref 246, .int x1, .int (s.2.1 245 a2.toInt.toNat), .int a1] s (fun v3 s2 => v3 = none ∧ (wl_202_120 T  a1 a2 0  s2 P))))) ∧ (¬ (a1.toInt ≤ a3.toInt) → (0 ≤ a3.toInt ∧ a3.toInt < 120) ∧ ((0 ≤ (s.2.1 254 a3.toInt.toNat).toInt ∧ (s.2.1 254 a3.toInt.toNat).toInt < 12006) ∧ ((0 ≤ a1.toInt ∧ a1.toInt < 120) ∧ ((0 ≤ (s.2.1 254 a1.toInt.toNat).toInt ∧ (s.2.1 254 a1.toInt.toNat).toInt < 12006) ∧ ((¬ ((s.2.1 217 (s.2.1 254 a3.toInt.toNat).toInt.toNat).toInt = (s.2.1 217 (s.2.1 254 a1.toInt.toNat).toInt.toNat).toInt) → w_202_104 T R61 a1 a2 a3  s P) ∧ ((s.2.1 217 (s.2.1 254 a3.toInt.toNat).toInt.toNat).toInt = (s.2.1 217 (s.2.1 254 a1.toInt.toNat).toInt.toNat).toInt → (0 ≤ a3.toInt ∧ a3.toInt < 120) ∧ ((0 ≤ (s.2.1 257 a3.toInt.toNat).toInt ∧ (s.2.1 257 a3.toInt.toNat).toInt < 408) ∧ ((0 ≤ (s.2.1 244 (s.2.1 257 a3.toInt.toNat).toInt.toNat).toInt ∧ (s.2.1 244 (s.2.1 257 a3.toInt.toNat).toInt.toNat).toInt < 12006) ∧ ((0 ≤ a2.toInt ∧ a2.toInt < 408) ∧ ((0 ≤ (s.2.1 244 a2.toInt.toNat).toInt ∧ (s.2.1 244 a2.toInt.toNat).toInt < 12006) ∧ ((¬ ((s.2.1 217 (s.2.1 244 (s.2.1 257 a3.toInt.toNat).toInt.toNat).toInt.toNat).toInt = (s.2.1 217 (s.2.1 244 a2.toInt.toNat).toInt.toNat).toInt) → w_202_104 T R61 a1 a2 a3  s P) ∧ ((s.2.1 217 (s.2.1 244 (s.2.1 257 a3.toInt.toNat).toInt.toNat).toInt.toNat).toInt = (s.2.1 217 (s.2.1 244 a2.toInt.toNat).toInt.toNat).toInt → (0 ≤ a2.toInt ∧ a2.toInt < 408) ∧ (T 163 [.ref 213, .int 3, .int (s.2.1 244 a2.toInt.toNat)] s (fun v5 s4 => v5 = none ∧ (w_202_104 T R61 a1 a2 a3  s4 P)))))))))))))))
set_option maxRecDepth 20000 in
theorem k_202_61 {d : Nat} {R61 : Int32 → Int32 → Int32 → yS → Prop} {a1 : Int32} {a2 : Int32} {a3 : Int32} {s : yS} {P : Option Value → yS → Prop} (r61 : ∀ a1 a2 a3 s, R61 a1 a2 a3 s → Go d 4 (none) xE_202 (xE_202.drop 61) [.ref 213, .int a1, .int a2, .int a3, .null, .null] [] s P) (h : w_202_61 (Tot d) R61 a1 a2 a3 s P) : Go d 4 (none) xE_202 (xE_202.drop 61) [.ref 213, .int a1, .int a2, .int a3, .null, .null] [] s P := by
  unfold w_202_61 at h
  refine g_ld rfl rfl rfl ?_
  refine g_ld rfl rfl rfl ?_
  refine g_brP rfl rfl ⟨fun hc => ?_, fun hc => ?_⟩
  · replace h := h.1 ((i_le (x := a1) (y := a3) rfl rfl).mp hc)
    refine g_ld rfl rfl rfl ?_
    refine g_ld rfl rfl rfl ?_
    refine g_get rfl rfl ?_
    change Go _ _ _ _ _ _ [.ref 246, .ref 213] _ _
    refine g_c [.int 6, .ref 246, .ref 213] (xo_push (.int 6)) rfl rfl ?_
    refine g_ld rfl rfl rfl ?_
    have ex1 := i_mul (x := 6) (y := a2) (show (6 : Int32).toInt = 6 by decide) rfl h.1
    have cx1 := ck_mul (x := 6) (y := a2) (show (6 : Int32).toInt = 6 by decide) rfl h.1
    replace h := h.2 _ ex1
    refine g_ca [.int (6 * a2), .ref 246, .ref 213] xo_imul rfl rfl (fun _ => cx1) ?_
    refine g_ld rfl rfl rfl ?_
    refine g_get rfl rfl ?_
    change Go _ _ _ _ _ _ [.ref 245, .int (6 * a2), .ref 246, .ref 213] _ _
    refine g_ld rfl rfl rfl ?_
    refine g_ial rfl rfl (i_in (x := a2) rfl h.1) ?_
    change Go _ _ _ _ _ _ [.int (s.2.1 245 a2.toInt.toNat), .int (6 * a2), .ref 246, .ref 213] _ _
    replace h := h.2
    refine g_ld rfl rfl rfl ?_
    refine g_call [.ref 213, .ref 246, .int (6 * a2), .int (s.2.1 245 a2.toInt.toNat), .int a1] [] rfl rfl rfl (Tot.imp h (fun v3 s2 h => ?_))
    obtain ⟨rfl, h⟩ := h
    change Go _ _ _ _ _ _ [] _ _
    refine g_c [.int 0] (xo_push (.int 0)) rfl rfl ?_
    refine g_st [.ref 213, .int a1, .int a2, .int 0, .null, .null] rfl rfl rfl ?_
    exact kl_202_120  h
  · replace h := h.2 (fun q => hc ((i_le (x := a1) (y := a3) rfl rfl).mpr q))
    refine g_ld rfl rfl rfl ?_
    refine g_get rfl rfl ?_
    change Go _ _ _ _ _ _ [.ref 217] _ _
    refine g_ld rfl rfl rfl ?_
    refine g_get rfl rfl ?_
    change Go _ _ _ _ _ _ [.ref 254, .ref 217] _ _
    refine g_ld rfl rfl rfl ?_
    refine g_ial rfl rfl (i_in (x := a3) rfl h.1) ?_
    change Go _ _ _ _ _ _ [.int (s.2.1 254 a3.toInt.toNat), .ref 217] _ _
    replace h := h.2
    refine g_ial rfl rfl (i_in (x := s.2.1 254 a3.toInt.toNat) rfl h.1) ?_
    change Go _ _ _ _ _ _ [.int (s.2.1 217 (s.2.1 254 a3.toInt.toNat).toInt.toNat)] _ _
    replace h := h.2
    refine g_ld rfl rfl rfl ?_
    refine g_get rfl rfl ?_
    change Go _ _ _ _ _ _ [.ref 217, .int (s.2.1 217 (s.2.1 254 a3.toInt.toNat).toInt.toNat)] _ _
    refine g_ld rfl rfl rfl ?_
    refine g_get rfl rfl ?_
    change Go _ _ _ _ _ _ [.ref 254, .ref 217, .int (s.2.1 217 (s.2.1 254 a3.toInt.toNat).toInt.toNat)] _ _
    refine g_ld rfl rfl rfl ?_
    refine g_ial rfl rfl (i_in (x := a1) rfl h.1) ?_
    change Go _ _ _ _ _ _ [.int (s.2.1 254 a1.toInt.toNat), .ref 217, .int (s.2.1 217 (s.2.1 254 a3.toInt.toNat).toInt.toNat)] _ _
    replace h := h.2
    refine g_ial rfl rfl (i_in (x := s.2.1 254 a1.toInt.toNat) rfl h.1) ?_
    change Go _ _ _ _ _ _ [.int (s.2.1 217 (s.2.1 254 a1.toInt.toNat).toInt.toNat), .int (s.2.1 217 (s.2.1 254 a3.toInt.toNat).toInt.toNat)] _ _
    replace h := h.2
    refine g_brN rfl rfl ⟨fun hc => ?_, fun hc => ?_⟩
    · replace h := h.1 (fun q => hc ((i_eq (x := s.2.1 217 (s.2.1 254 a3.toInt.toNat).toInt.toNat) (y := s.2.1 217 (s.2.1 254 a1.toInt.toNat).toInt.toNat) rfl rfl).mpr q))
      exact k_202_104 r61 h
    · replace h := h.2 ((i_eq (x := s.2.1 217 (s.2.1 254 a3.toInt.toNat).toInt.toNat) (y := s.2.1 217 (s.2.1 254 a1.toInt.toNat).toInt.toNat) rfl rfl).mp hc)
      refine g_ld rfl rfl rfl ?_
      refine g_get rfl rfl ?_
      change Go _ _ _ _ _ _ [.ref 217] _ _
      refine g_ld rfl rfl rfl ?_
      refine g_get rfl rfl ?_
      change Go _ _ _ _ _ _ [.ref 244, .ref 217] _ _
      refine g_ld rfl rfl rfl ?_
      refine g_get rfl rfl ?_
      change Go _ _ _ _ _ _ [.ref 257, .ref 244, .ref 217] _ _
      refine g_ld rfl rfl rfl ?_
      refine g_ial rfl rfl (i_in (x := a3) rfl h.1) ?_
      change Go _ _ _ _ _ _ [.int (s.2.1 257 a3.toInt.toNat), .ref 244, .ref 217] _ _
      replace h := h.2
      refine g_ial rfl rfl (i_in (x := s.2.1 257 a3.toInt.toNat) rfl h.1) ?_
      change Go _ _ _ _ _ _ [.int (s.2.1 244 (s.2.1 257 a3.toInt.toNat).toInt.toNat), .ref 217] _ _
      replace h := h.2
      refine g_ial rfl rfl (i_in (x := s.2.1 244 (s.2.1 257 a3.toInt.toNat).toInt.toNat) rfl h.1) ?_
      change Go _ _ _ _ _ _ [.int (s.2.1 217 (s.2.1 244 (s.2.1 257 a3.toInt.toNat).toInt.toNat).toInt.toNat)] _ _
      replace h := h.2
      refine g_ld rfl rfl rfl ?_
      refine g_get rfl rfl ?_
      change Go _ _ _ _ _ _ [.ref 217, .int (s.2.1 217 (s.2.1 244 (s.2.1 257 a3.toInt.toNat).toInt.toNat).toInt.toNat)] _ _
      refine g_ld rfl rfl rfl ?_
      refine g_get rfl rfl ?_
      change Go _ _ _ _ _ _ [.ref 244, .ref 217, .int (s.2.1 217 (s.2.1 244 (s.2.1 257 a3.toInt.toNat).toInt.toNat).toInt.toNat)] _ _
      refine g_ld rfl rfl rfl ?_
      refine g_ial rfl rfl (i_in (x := a2) rfl h.1) ?_
      change Go _ _ _ _ _ _ [.int (s.2.1 244 a2.toInt.toNat), .ref 217, .int (s.2.1 217 (s.2.1 244 (s.2.1 257 a3.toInt.toNat).toInt.toNat).toInt.toNat)] _ _
      replace h := h.2
      refine g_ial rfl rfl (i_in (x := s.2.1 244 a2.toInt.toNat) rfl h.1) ?_
      change Go _ _ _ _ _ _ [.int (s.2.1 217 (s.2.1 244 a2.toInt.toNat).toInt.toNat), .int (s.2.1 217 (s.2.1 244 (s.2.1 257 a3.toInt.toNat).toInt.toNat).toInt.toNat)] _ _
      replace h := h.2
      refine g_brN rfl rfl ⟨fun hc => ?_, fun hc => ?_⟩
      · replace h := h.1 (fun q => hc ((i_eq (x := s.2.1 217 (s.2.1 244 (s.2.1 257 a3.toInt.toNat).toInt.toNat).toInt.toNat) (y := s.2.1 217 (s.2.1 244 a2.toInt.toNat).toInt.toNat) rfl rfl).mpr q))
        exact k_202_104 r61 h
      · replace h := h.2 ((i_eq (x := s.2.1 217 (s.2.1 244 (s.2.1 257 a3.toInt.toNat).toInt.toNat).toInt.toNat) (y := s.2.1 217 (s.2.1 244 a2.toInt.toNat).toInt.toNat) rfl rfl).mp hc)
        refine g_ld rfl rfl rfl ?_
        refine g_c [.int 3, .ref 213] (xo_push (.int 3)) rfl rfl ?_
        refine g_ld rfl rfl rfl ?_
        refine g_get rfl rfl ?_
        change Go _ _ _ _ _ _ [.ref 244, .int 3, .ref 213] _ _
        refine g_ld rfl rfl rfl ?_
        refine g_ial rfl rfl (i_in (x := a2) rfl h.1) ?_
        change Go _ _ _ _ _ _ [.int (s.2.1 244 a2.toInt.toNat), .int 3, .ref 213] _ _
        replace h := h.2
        refine g_call [.ref 213, .int 3, .int (s.2.1 244 a2.toInt.toNat)] [] rfl rfl rfl (Tot.imp h (fun v5 s4 h => ?_))
        obtain ⟨rfl, h⟩ := h
        change Go _ _ _ _ _ _ [] _ _
        exact k_202_104 r61 h
def wl_202_61 (T : Nat → List Value → yS → (Option Value → yS → Prop) → Prop)  (a1 : Int32) (a2 : Int32) (a3 : Int32) (s : yS) (P : Option Value → yS → Prop) : Prop :=
  ∃ (I : Int32 → Int32 → Int32 → yS → Prop) (μ : Int32 → Int32 → Int32 → yS → Nat), I a1 a2 a3 s ∧ ∀ (a1 : Int32) (a2 : Int32) (a3 : Int32) (s : yS), I a1 a2 a3 s → w_202_61 T (fun a1' a2' a3' s' => I a1' a2' a3' s' ∧ μ a1' a2' a3' s' < μ a1 a2 a3 s) a1 a2 a3 s P
theorem kl_202_61 {d : Nat}  {a1 : Int32} {a2 : Int32} {a3 : Int32} {s : yS} {P : Option Value → yS → Prop}  (h : wl_202_61 (Tot d)  a1 a2 a3 s P) : Go d 4 (none) xE_202 (xE_202.drop 61) [.ref 213, .int a1, .int a2, .int a3, .null, .null] [] s P := by
  obtain ⟨I, μ, h0, h1⟩ := h
  have key : ∀ (n : Nat) (a1 : Int32) (a2 : Int32) (a3 : Int32) (s : yS), μ a1 a2 a3 s = n → I a1 a2 a3 s → Go d 4 (none) xE_202 (xE_202.drop 61) [.ref 213, .int a1, .int a2, .int a3, .null, .null] [] s P := by
    intro n
    induction n using Nat.strongRecOn with
    | ind n ih =>
      intro a1 a2 a3 s e hI
      exact k_202_61 (fun a1' a2' a3' s' q => ih _ (by rw [← e]; exact q.2) _ _ _ _ rfl q.1) (h1 a1 a2 a3 s hI)
  exact key _ a1 a2 a3 s rfl h0
def w_202_47 (T : Nat → List Value → yS → (Option Value → yS → Prop) → Prop) (R2 : Int32 → Int32 → yS → Prop) (R10 : Int32 → Int32 → Int32 → yS → Prop) (a1 : Int32) (a2 : Int32) (a3 : Int32) (s : yS) (P : Option Value → yS → Prop) : Prop :=
  (-2147483648 ≤ a3.toInt + 1 ∧ a3.toInt + 1 ≤ 2147483647) ∧ (∀ x1 : Int32, x1.toInt = a3.toInt + 1 → R10 a1 a2 x1  s)
set_option maxRecDepth 20000 in
theorem k_202_47 {d : Nat} {R2 : Int32 → Int32 → yS → Prop} {R10 : Int32 → Int32 → Int32 → yS → Prop} {a1 : Int32} {a2 : Int32} {a3 : Int32} {s : yS} {P : Option Value → yS → Prop} (r2 : ∀ a1 a2 s, R2 a1 a2 s → Go d 4 (none) xE_202 (xE_202.drop 2) [.ref 213, .int a1, .int a2, .null, .null, .null] [] s P) (r10 : ∀ a1 a2 a3 s, R10 a1 a2 a3 s → Go d 4 (none) xE_202 (xE_202.drop 10) [.ref 213, .int a1, .int a2, .int a3, .null, .null] [] s P) (h : w_202_47 (Tot d) R2 R10 a1 a2 a3 s P) : Go d 4 (none) xE_202 (xE_202.drop 47) [.ref 213, .int a1, .int a2, .int a3, .null, .null] [] s P := by
  unfold w_202_47 at h
  have ex1 := i_add (x := a3) (y := 1) rfl (show (1 : Int32).toInt = 1 by decide) h.1
  have cx1 := ck_inc (x := a3) (n := 1) rfl h.1
  replace h := h.2 _ ex1
  refine g_inc [.ref 213, .int a1, .int a2, .int (a3 + 1), .null, .null] rfl rfl rfl rfl cx1 ?_
  refine g_go rfl ?_
  exact r10 a1 a2 (a3 + 1)  s h
def w_202_10 (T : Nat → List Value → yS → (Option Value → yS → Prop) → Prop) (R2 : Int32 → Int32 → yS → Prop) (R10 : Int32 → Int32 → Int32 → yS → Prop) (a1 : Int32) (a2 : Int32) (a3 : Int32) (s : yS) (P : Option Value → yS → Prop) : Prop :=
  (a2.toInt ≤ a3.toInt → (-2147483648 ≤ a2.toInt + 1 ∧ a2.toInt + 1 ≤ 2147483647) ∧ (∀ x1 : Int32, x1.toInt = a2.toInt + 1 → R2 a1 x1  s)) ∧ (¬ (a2.toInt ≤ a3.toInt) → (0 ≤ a1.toInt ∧ a1.toInt < 120) ∧ ((-2147483648 ≤ 2 * a3.toInt ∧ 2 * a3.toInt ≤ 2147483647) ∧ (∀ x2 : Int32, x2.toInt = 2 * a3.toInt → (-2147483648 ≤ (s.2.1 256 a1.toInt.toNat).toInt + x2.toInt ∧ (s.2.1 256 a1.toInt.toNat).toInt + x2.toInt ≤ 2147483647) ∧ (∀ x3 : Int32, x3.toInt = (s.2.1 256 a1.toInt.toNat).toInt + x2.toInt → (0 ≤ x3.toInt ∧ x3.toInt < 12006) ∧ ((0 ≤ a1.toInt ∧ a1.toInt < 120) ∧ ((-2147483648 ≤ 2 * a2.toInt ∧ 2 * a2.toInt ≤ 2147483647) ∧ (∀ x4 : Int32, x4.toInt = 2 * a2.toInt → (-2147483648 ≤ (s.2.1 256 a1.toInt.toNat).toInt + x4.toInt ∧ (s.2.1 256 a1.toInt.toNat).toInt + x4.toInt ≤ 2147483647) ∧ (∀ x5 : Int32, x5.toInt = (s.2.1 256 a1.toInt.toNat).toInt + x4.toInt → (0 ≤ x5.toInt ∧ x5.toInt < 12006) ∧ ((¬ ((s.2.1 217 x3.toInt.toNat).toInt = (s.2.1 217 x5.toInt.toNat).toInt) → w_202_47 T R2 R10 a1 a2 a3  s P) ∧ ((s.2.1 217 x3.toInt.toNat).toInt = (s.2.1 217 x5.toInt.toNat).toInt → (0 ≤ a1.toInt ∧ a1.toInt < 120) ∧ ((-2147483648 ≤ 2 * a2.toInt ∧ 2 * a2.toInt ≤ 2147483647) ∧ (∀ x6 : Int32, x6.toInt = 2 * a2.toInt → (-2147483648 ≤ (s.2.1 256 a1.toInt.toNat).toInt + x6.toInt ∧ (s.2.1 256 a1.toInt.toNat).toInt + x6.toInt ≤ 2147483647) ∧ (∀ x7 : Int32, x7.toInt = (s.2.1 256 a1.toInt.toNat).toInt + x6.toInt → T 163 [.ref 213, .int 3, .int x7] s (fun v9 s8 => v9 = none ∧ (w_202_47 T R2 R10 a1 a2 a3  s8 P)))))))))))))))
set_option maxRecDepth 20000 in
theorem k_202_10 {d : Nat} {R2 : Int32 → Int32 → yS → Prop} {R10 : Int32 → Int32 → Int32 → yS → Prop} {a1 : Int32} {a2 : Int32} {a3 : Int32} {s : yS} {P : Option Value → yS → Prop} (r2 : ∀ a1 a2 s, R2 a1 a2 s → Go d 4 (none) xE_202 (xE_202.drop 2) [.ref 213, .int a1, .int a2, .null, .null, .null] [] s P) (r10 : ∀ a1 a2 a3 s, R10 a1 a2 a3 s → Go d 4 (none) xE_202 (xE_202.drop 10) [.ref 213, .int a1, .int a2, .int a3, .null, .null] [] s P) (h : w_202_10 (Tot d) R2 R10 a1 a2 a3 s P) : Go d 4 (none) xE_202 (xE_202.drop 10) [.ref 213, .int a1, .int a2, .int a3, .null, .null] [] s P := by
  unfold w_202_10 at h
  refine g_ld rfl rfl rfl ?_
  refine g_ld rfl rfl rfl ?_
  refine g_brP rfl rfl ⟨fun hc => ?_, fun hc => ?_⟩
  · replace h := h.1 ((i_le (x := a2) (y := a3) rfl rfl).mp hc)
    have ex1 := i_add (x := a2) (y := 1) rfl (show (1 : Int32).toInt = 1 by decide) h.1
    have cx1 := ck_inc (x := a2) (n := 1) rfl h.1
    replace h := h.2 _ ex1
    refine g_inc [.ref 213, .int a1, .int (a2 + 1), .int a3, .null, .null] rfl rfl rfl rfl cx1 ?_
    refine g_go rfl ?_
    refine g_fg 3 ?_
    exact r2 a1 (a2 + 1)  s h
  · replace h := h.2 (fun q => hc ((i_le (x := a2) (y := a3) rfl rfl).mpr q))
    refine g_ld rfl rfl rfl ?_
    refine g_get rfl rfl ?_
    change Go _ _ _ _ _ _ [.ref 217] _ _
    refine g_ld rfl rfl rfl ?_
    refine g_get rfl rfl ?_
    change Go _ _ _ _ _ _ [.ref 256, .ref 217] _ _
    refine g_ld rfl rfl rfl ?_
    refine g_ial rfl rfl (i_in (x := a1) rfl h.1) ?_
    change Go _ _ _ _ _ _ [.int (s.2.1 256 a1.toInt.toNat), .ref 217] _ _
    replace h := h.2
    refine g_c [.int 2, .int (s.2.1 256 a1.toInt.toNat), .ref 217] (xo_push (.int 2)) rfl rfl ?_
    refine g_ld rfl rfl rfl ?_
    have ex2 := i_mul (x := 2) (y := a3) (show (2 : Int32).toInt = 2 by decide) rfl h.1
    have cx2 := ck_mul (x := 2) (y := a3) (show (2 : Int32).toInt = 2 by decide) rfl h.1
    replace h := h.2 _ ex2
    refine g_ca [.int (2 * a3), .int (s.2.1 256 a1.toInt.toNat), .ref 217] xo_imul rfl rfl (fun _ => cx2) ?_
    have ex3 := i_add (x := s.2.1 256 a1.toInt.toNat) (y := (2 * a3)) rfl rfl h.1
    have cx3 := ck_add (x := s.2.1 256 a1.toInt.toNat) (y := (2 * a3)) rfl rfl h.1
    replace h := h.2 _ ex3
    refine g_ca [.int ((s.2.1 256 a1.toInt.toNat) + (2 * a3)), .ref 217] xo_iadd rfl rfl (fun _ => cx3) ?_
    refine g_ial rfl rfl (i_in (x := ((s.2.1 256 a1.toInt.toNat) + (2 * a3))) rfl h.1) ?_
    change Go _ _ _ _ _ _ [.int (s.2.1 217 ((s.2.1 256 a1.toInt.toNat) + (2 * a3)).toInt.toNat)] _ _
    replace h := h.2
    refine g_ld rfl rfl rfl ?_
    refine g_get rfl rfl ?_
    change Go _ _ _ _ _ _ [.ref 217, .int (s.2.1 217 ((s.2.1 256 a1.toInt.toNat) + (2 * a3)).toInt.toNat)] _ _
    refine g_ld rfl rfl rfl ?_
    refine g_get rfl rfl ?_
    change Go _ _ _ _ _ _ [.ref 256, .ref 217, .int (s.2.1 217 ((s.2.1 256 a1.toInt.toNat) + (2 * a3)).toInt.toNat)] _ _
    refine g_ld rfl rfl rfl ?_
    refine g_ial rfl rfl (i_in (x := a1) rfl h.1) ?_
    change Go _ _ _ _ _ _ [.int (s.2.1 256 a1.toInt.toNat), .ref 217, .int (s.2.1 217 ((s.2.1 256 a1.toInt.toNat) + (2 * a3)).toInt.toNat)] _ _
    replace h := h.2
    refine g_c [.int 2, .int (s.2.1 256 a1.toInt.toNat), .ref 217, .int (s.2.1 217 ((s.2.1 256 a1.toInt.toNat) + (2 * a3)).toInt.toNat)] (xo_push (.int 2)) rfl rfl ?_
    refine g_ld rfl rfl rfl ?_
    have ex4 := i_mul (x := 2) (y := a2) (show (2 : Int32).toInt = 2 by decide) rfl h.1
    have cx4 := ck_mul (x := 2) (y := a2) (show (2 : Int32).toInt = 2 by decide) rfl h.1
    replace h := h.2 _ ex4
    refine g_ca [.int (2 * a2), .int (s.2.1 256 a1.toInt.toNat), .ref 217, .int (s.2.1 217 ((s.2.1 256 a1.toInt.toNat) + (2 * a3)).toInt.toNat)] xo_imul rfl rfl (fun _ => cx4) ?_
    have ex5 := i_add (x := s.2.1 256 a1.toInt.toNat) (y := (2 * a2)) rfl rfl h.1
    have cx5 := ck_add (x := s.2.1 256 a1.toInt.toNat) (y := (2 * a2)) rfl rfl h.1
    replace h := h.2 _ ex5
    refine g_ca [.int ((s.2.1 256 a1.toInt.toNat) + (2 * a2)), .ref 217, .int (s.2.1 217 ((s.2.1 256 a1.toInt.toNat) + (2 * a3)).toInt.toNat)] xo_iadd rfl rfl (fun _ => cx5) ?_
    refine g_ial rfl rfl (i_in (x := ((s.2.1 256 a1.toInt.toNat) + (2 * a2))) rfl h.1) ?_
    change Go _ _ _ _ _ _ [.int (s.2.1 217 ((s.2.1 256 a1.toInt.toNat) + (2 * a2)).toInt.toNat), .int (s.2.1 217 ((s.2.1 256 a1.toInt.toNat) + (2 * a3)).toInt.toNat)] _ _
    replace h := h.2
    refine g_brN rfl rfl ⟨fun hc => ?_, fun hc => ?_⟩
    · replace h := h.1 (fun q => hc ((i_eq (x := s.2.1 217 ((s.2.1 256 a1.toInt.toNat) + (2 * a3)).toInt.toNat) (y := s.2.1 217 ((s.2.1 256 a1.toInt.toNat) + (2 * a2)).toInt.toNat) rfl rfl).mpr q))
      exact k_202_47 r2 r10 h
    · replace h := h.2 ((i_eq (x := s.2.1 217 ((s.2.1 256 a1.toInt.toNat) + (2 * a3)).toInt.toNat) (y := s.2.1 217 ((s.2.1 256 a1.toInt.toNat) + (2 * a2)).toInt.toNat) rfl rfl).mp hc)
      refine g_ld rfl rfl rfl ?_
      refine g_c [.int 3, .ref 213] (xo_push (.int 3)) rfl rfl ?_
      refine g_ld rfl rfl rfl ?_
      refine g_get rfl rfl ?_
      change Go _ _ _ _ _ _ [.ref 256, .int 3, .ref 213] _ _
      refine g_ld rfl rfl rfl ?_
      refine g_ial rfl rfl (i_in (x := a1) rfl h.1) ?_
      change Go _ _ _ _ _ _ [.int (s.2.1 256 a1.toInt.toNat), .int 3, .ref 213] _ _
      replace h := h.2
      refine g_c [.int 2, .int (s.2.1 256 a1.toInt.toNat), .int 3, .ref 213] (xo_push (.int 2)) rfl rfl ?_
      refine g_ld rfl rfl rfl ?_
      have ex6 := i_mul (x := 2) (y := a2) (show (2 : Int32).toInt = 2 by decide) rfl h.1
      have cx6 := ck_mul (x := 2) (y := a2) (show (2 : Int32).toInt = 2 by decide) rfl h.1
      replace h := h.2 _ ex6
      refine g_ca [.int (2 * a2), .int (s.2.1 256 a1.toInt.toNat), .int 3, .ref 213] xo_imul rfl rfl (fun _ => cx6) ?_
      have ex7 := i_add (x := s.2.1 256 a1.toInt.toNat) (y := (2 * a2)) rfl rfl h.1
      have cx7 := ck_add (x := s.2.1 256 a1.toInt.toNat) (y := (2 * a2)) rfl rfl h.1
      replace h := h.2 _ ex7
      refine g_ca [.int ((s.2.1 256 a1.toInt.toNat) + (2 * a2)), .int 3, .ref 213] xo_iadd rfl rfl (fun _ => cx7) ?_
      refine g_call [.ref 213, .int 3, .int ((s.2.1 256 a1.toInt.toNat) + (2 * a2))] [] rfl rfl rfl (Tot.imp h (fun v9 s8 h => ?_))
      obtain ⟨rfl, h⟩ := h
      change Go _ _ _ _ _ _ [] _ _
      exact k_202_47 r2 r10 h
def wl_202_10 (T : Nat → List Value → yS → (Option Value → yS → Prop) → Prop) (R2 : Int32 → Int32 → yS → Prop) (a1 : Int32) (a2 : Int32) (a3 : Int32) (s : yS) (P : Option Value → yS → Prop) : Prop :=
  ∃ (I : Int32 → Int32 → Int32 → yS → Prop) (μ : Int32 → Int32 → Int32 → yS → Nat), I a1 a2 a3 s ∧ ∀ (a1 : Int32) (a2 : Int32) (a3 : Int32) (s : yS), I a1 a2 a3 s → w_202_10 T R2 (fun a1' a2' a3' s' => I a1' a2' a3' s' ∧ μ a1' a2' a3' s' < μ a1 a2 a3 s) a1 a2 a3 s P
theorem kl_202_10 {d : Nat} {R2 : Int32 → Int32 → yS → Prop} {a1 : Int32} {a2 : Int32} {a3 : Int32} {s : yS} {P : Option Value → yS → Prop} (r2 : ∀ a1 a2 s, R2 a1 a2 s → Go d 4 (none) xE_202 (xE_202.drop 2) [.ref 213, .int a1, .int a2, .null, .null, .null] [] s P) (h : wl_202_10 (Tot d) R2 a1 a2 a3 s P) : Go d 4 (none) xE_202 (xE_202.drop 10) [.ref 213, .int a1, .int a2, .int a3, .null, .null] [] s P := by
  obtain ⟨I, μ, h0, h1⟩ := h
  have key : ∀ (n : Nat) (a1 : Int32) (a2 : Int32) (a3 : Int32) (s : yS), μ a1 a2 a3 s = n → I a1 a2 a3 s → Go d 4 (none) xE_202 (xE_202.drop 10) [.ref 213, .int a1, .int a2, .int a3, .null, .null] [] s P := by
    intro n
    induction n using Nat.strongRecOn with
    | ind n ih =>
      intro a1 a2 a3 s e hI
      exact k_202_10 r2 (fun a1' a2' a3' s' q => ih _ (by rw [← e]; exact q.2) _ _ _ _ rfl q.1) (h1 a1 a2 a3 s hI)
  exact key _ a1 a2 a3 s rfl h0
def w_202_2 (T : Nat → List Value → yS → (Option Value → yS → Prop) → Prop) (R2 : Int32 → Int32 → yS → Prop) (a1 : Int32) (a2 : Int32) (s : yS) (P : Option Value → yS → Prop) : Prop :=
  (0 ≤ a1.toInt ∧ a1.toInt < 120) ∧ (((s.2.1 255 a1.toInt.toNat).toInt ≤ a2.toInt → (0 ≤ a1.toInt ∧ a1.toInt < 120) ∧ ((-2147483648 ≤ 60 * (s.1 30).toInt ∧ 60 * (s.1 30).toInt ≤ 2147483647) ∧ (∀ x1 : Int32, x1.toInt = 60 * (s.1 30).toInt → wl_202_61 T  a1 (s.2.1 257 a1.toInt.toNat) x1  s P))) ∧ (¬ ((s.2.1 255 a1.toInt.toNat).toInt ≤ a2.toInt) → wl_202_10 T R2 a1 a2 0  s P))
set_option maxRecDepth 20000 in
theorem k_202_2 {d : Nat} {R2 : Int32 → Int32 → yS → Prop} {a1 : Int32} {a2 : Int32} {s : yS} {P : Option Value → yS → Prop} (r2 : ∀ a1 a2 s, R2 a1 a2 s → Go d 4 (none) xE_202 (xE_202.drop 2) [.ref 213, .int a1, .int a2, .null, .null, .null] [] s P) (h : w_202_2 (Tot d) R2 a1 a2 s P) : Go d 4 (none) xE_202 (xE_202.drop 2) [.ref 213, .int a1, .int a2, .null, .null, .null] [] s P := by
  unfold w_202_2 at h
  refine g_ld rfl rfl rfl ?_
  refine g_ld rfl rfl rfl ?_
  refine g_get rfl rfl ?_
  change Go _ _ _ _ _ _ [.ref 255, .int a2] _ _
  refine g_ld rfl rfl rfl ?_
  refine g_ial rfl rfl (i_in (x := a1) rfl h.1) ?_
  change Go _ _ _ _ _ _ [.int (s.2.1 255 a1.toInt.toNat), .int a2] _ _
  replace h := h.2
  refine g_brP rfl rfl ⟨fun hc => ?_, fun hc => ?_⟩
  · replace h := h.1 ((i_le (x := s.2.1 255 a1.toInt.toNat) (y := a2) rfl rfl).mp hc)
    refine g_ld rfl rfl rfl ?_
    refine g_get rfl rfl ?_
    change Go _ _ _ _ _ _ [.ref 257] _ _
    refine g_ld rfl rfl rfl ?_
    refine g_ial rfl rfl (i_in (x := a1) rfl h.1) ?_
    change Go _ _ _ _ _ _ [.int (s.2.1 257 a1.toInt.toNat)] _ _
    replace h := h.2
    refine g_st [.ref 213, .int a1, .int (s.2.1 257 a1.toInt.toNat), .null, .null, .null] rfl rfl rfl ?_
    refine g_c [.int 60] (xo_push (.int 60)) rfl rfl ?_
    refine g_ld rfl rfl rfl ?_
    refine g_get rfl rfl ?_
    change Go _ _ _ _ _ _ [.int (s.1 30), .int 60] _ _
    have ex1 := i_mul (x := 60) (y := s.1 30) (show (60 : Int32).toInt = 60 by decide) rfl h.1
    have cx1 := ck_mul (x := 60) (y := s.1 30) (show (60 : Int32).toInt = 60 by decide) rfl h.1
    replace h := h.2 _ ex1
    refine g_ca [.int (60 * (s.1 30))] xo_imul rfl rfl (fun _ => cx1) ?_
    refine g_st [.ref 213, .int a1, .int (s.2.1 257 a1.toInt.toNat), .int (60 * (s.1 30)), .null, .null] rfl rfl rfl ?_
    exact kl_202_61  h
  · replace h := h.2 (fun q => hc ((i_le (x := s.2.1 255 a1.toInt.toNat) (y := a2) rfl rfl).mpr q))
    refine g_c [.int 0] (xo_push (.int 0)) rfl rfl ?_
    refine g_st [.ref 213, .int a1, .int a2, .int 0, .null, .null] rfl rfl rfl ?_
    exact kl_202_10 r2 h
def wl_202_2 (T : Nat → List Value → yS → (Option Value → yS → Prop) → Prop)  (a1 : Int32) (a2 : Int32) (s : yS) (P : Option Value → yS → Prop) : Prop :=
  ∃ (I : Int32 → Int32 → yS → Prop) (μ : Int32 → Int32 → yS → Nat), I a1 a2 s ∧ ∀ (a1 : Int32) (a2 : Int32) (s : yS), I a1 a2 s → w_202_2 T (fun a1' a2' s' => I a1' a2' s' ∧ μ a1' a2' s' < μ a1 a2 s) a1 a2 s P
theorem kl_202_2 {d : Nat}  {a1 : Int32} {a2 : Int32} {s : yS} {P : Option Value → yS → Prop}  (h : wl_202_2 (Tot d)  a1 a2 s P) : Go d 4 (none) xE_202 (xE_202.drop 2) [.ref 213, .int a1, .int a2, .null, .null, .null] [] s P := by
  obtain ⟨I, μ, h0, h1⟩ := h
  have key : ∀ (n : Nat) (a1 : Int32) (a2 : Int32) (s : yS), μ a1 a2 s = n → I a1 a2 s → Go d 4 (none) xE_202 (xE_202.drop 2) [.ref 213, .int a1, .int a2, .null, .null, .null] [] s P := by
    intro n
    induction n using Nat.strongRecOn with
    | ind n ih =>
      intro a1 a2 s e hI
      exact k_202_2 (fun a1' a2' s' q => ih _ (by rw [← e]; exact q.2) _ _ _ rfl q.1) (h1 a1 a2 s hI)
  exact key _ a1 a2 s rfl h0
def w_202_0 (T : Nat → List Value → yS → (Option Value → yS → Prop) → Prop)  (a1 : Int32) (s : yS) (P : Option Value → yS → Prop) : Prop :=
  wl_202_2 T  a1 1  s P
set_option maxRecDepth 20000 in
theorem k_202_0 {d : Nat}  {a1 : Int32} {s : yS} {P : Option Value → yS → Prop}  (h : w_202_0 (Tot d)  a1 s P) : Go d 4 (none) xE_202 (xE_202.drop 0) [.ref 213, .int a1, .null, .null, .null, .null] [] s P := by
  unfold w_202_0 at h
  refine g_c [.int 1] (xo_push (.int 1)) rfl rfl ?_
  refine g_st [.ref 213, .int a1, .int 1, .null, .null, .null] rfl rfl rfl ?_
  exact kl_202_2  h
theorem t_202 {d : Nat} {a1 : Int32} {s : yS} {P : Option Value → yS → Prop} (h : w_202_0 (Tot d) a1 s P) : Tot (d + 1) 202 [.ref 213, .int a1] s P := tot_of (E := xE_202) (ml := 4) (ret := none) rfl rfl rfl (k_202_0 h)
/-! codeOfWord -/
def w_203_113 (T : Nat → List Value → yS → (Option Value → yS → Prop) → Prop) (R113 : Int32 → Int32 → yS → Prop) (a1 : Int32) (a2 : Int32) (s : yS) (P : Option Value → yS → Prop) : Prop :=
  (0 ≤ (s.1 75).toInt ∧ (s.1 75).toInt < 2) ∧ (((s.2.1 233 (s.1 75).toInt.toNat).toInt ≤ a2.toInt → P (some (.int (-1))) s) ∧ (¬ ((s.2.1 233 (s.1 75).toInt.toNat).toInt ≤ a2.toInt) → (-2147483648 ≤ 24 * (s.1 75).toInt ∧ 24 * (s.1 75).toInt ≤ 2147483647) ∧ (∀ x1 : Int32, x1.toInt = 24 * (s.1 75).toInt → (-2147483648 ≤ x1.toInt + a2.toInt ∧ x1.toInt + a2.toInt ≤ 2147483647) ∧ (∀ x2 : Int32, x2.toInt = x1.toInt + a2.toInt → (0 ≤ x2.toInt ∧ x2.toInt < 48) ∧ ((0 ≤ (s.2.1 234 x2.toInt.toNat).toInt ∧ (s.2.1 234 x2.toInt.toNat).toInt < 12006) ∧ ((¬ ((s.2.1 217 (s.2.1 234 x2.toInt.toNat).toInt.toNat).toInt = a1.toInt) → (-2147483648 ≤ a2.toInt + 1 ∧ a2.toInt + 1 ≤ 2147483647) ∧ (∀ x3 : Int32, x3.toInt = a2.toInt + 1 → R113 a1 x3  s)) ∧ ((s.2.1 217 (s.2.1 234 x2.toInt.toNat).toInt.toNat).toInt = a1.toInt → P (some (.int a2)) s)))))))
set_option maxRecDepth 20000 in
theorem k_203_113 {d : Nat} {R113 : Int32 → Int32 → yS → Prop} {a1 : Int32} {a2 : Int32} {s : yS} {P : Option Value → yS → Prop} (r113 : ∀ a1 a2 s, R113 a1 a2 s → Go d 3 (some .int) xE_203 (xE_203.drop 113) [.ref 213, .int a1, .int a2, .null, .null] [] s P) (h : w_203_113 (Tot d) R113 a1 a2 s P) : Go d 3 (some .int) xE_203 (xE_203.drop 113) [.ref 213, .int a1, .int a2, .null, .null] [] s P := by
  unfold w_203_113 at h
  refine g_ld rfl rfl rfl ?_
  refine g_ld rfl rfl rfl ?_
  refine g_get rfl rfl ?_
  change Go _ _ _ _ _ _ [.ref 233, .int a2] _ _
  refine g_ld rfl rfl rfl ?_
  refine g_get rfl rfl ?_
  change Go _ _ _ _ _ _ [.int (s.1 75), .ref 233, .int a2] _ _
  refine g_ial rfl rfl (i_in (x := s.1 75) rfl h.1) ?_
  change Go _ _ _ _ _ _ [.int (s.2.1 233 (s.1 75).toInt.toNat), .int a2] _ _
  replace h := h.2
  refine g_brP rfl rfl ⟨fun hc => ?_, fun hc => ?_⟩
  · replace h := h.1 ((i_le (x := s.2.1 233 (s.1 75).toInt.toNat) (y := a2) rfl rfl).mp hc)
    refine g_c [.int (-1)] (xo_push (.int (-1))) rfl rfl ?_
    exact g_retI rfl h
  · replace h := h.2 (fun q => hc ((i_le (x := s.2.1 233 (s.1 75).toInt.toNat) (y := a2) rfl rfl).mpr q))
    refine g_ld rfl rfl rfl ?_
    refine g_get rfl rfl ?_
    change Go _ _ _ _ _ _ [.ref 217] _ _
    refine g_ld rfl rfl rfl ?_
    refine g_get rfl rfl ?_
    change Go _ _ _ _ _ _ [.ref 234, .ref 217] _ _
    refine g_c [.int 24, .ref 234, .ref 217] (xo_push (.int 24)) rfl rfl ?_
    refine g_ld rfl rfl rfl ?_
    refine g_get rfl rfl ?_
    change Go _ _ _ _ _ _ [.int (s.1 75), .int 24, .ref 234, .ref 217] _ _
    have ex1 := i_mul (x := 24) (y := s.1 75) (show (24 : Int32).toInt = 24 by decide) rfl h.1
    have cx1 := ck_mul (x := 24) (y := s.1 75) (show (24 : Int32).toInt = 24 by decide) rfl h.1
    replace h := h.2 _ ex1
    refine g_ca [.int (24 * (s.1 75)), .ref 234, .ref 217] xo_imul rfl rfl (fun _ => cx1) ?_
    refine g_ld rfl rfl rfl ?_
    have ex2 := i_add (x := (24 * (s.1 75))) (y := a2) rfl rfl h.1
    have cx2 := ck_add (x := (24 * (s.1 75))) (y := a2) rfl rfl h.1
    replace h := h.2 _ ex2
    refine g_ca [.int ((24 * (s.1 75)) + a2), .ref 234, .ref 217] xo_iadd rfl rfl (fun _ => cx2) ?_
    refine g_ial rfl rfl (i_in (x := ((24 * (s.1 75)) + a2)) rfl h.1) ?_
    change Go _ _ _ _ _ _ [.int (s.2.1 234 ((24 * (s.1 75)) + a2).toInt.toNat), .ref 217] _ _
    replace h := h.2
    refine g_ial rfl rfl (i_in (x := s.2.1 234 ((24 * (s.1 75)) + a2).toInt.toNat) rfl h.1) ?_
    change Go _ _ _ _ _ _ [.int (s.2.1 217 (s.2.1 234 ((24 * (s.1 75)) + a2).toInt.toNat).toInt.toNat)] _ _
    replace h := h.2
    refine g_ld rfl rfl rfl ?_
    refine g_brN rfl rfl ⟨fun hc => ?_, fun hc => ?_⟩
    · replace h := h.1 (fun q => hc ((i_eq (x := s.2.1 217 (s.2.1 234 ((24 * (s.1 75)) + a2).toInt.toNat).toInt.toNat) (y := a1) rfl rfl).mpr q))
      have ex3 := i_add (x := a2) (y := 1) rfl (show (1 : Int32).toInt = 1 by decide) h.1
      have cx3 := ck_inc (x := a2) (n := 1) rfl h.1
      replace h := h.2 _ ex3
      refine g_inc [.ref 213, .int a1, .int (a2 + 1), .null, .null] rfl rfl rfl rfl cx3 ?_
      refine g_go rfl ?_
      exact r113 a1 (a2 + 1)  s h
    · replace h := h.2 ((i_eq (x := s.2.1 217 (s.2.1 234 ((24 * (s.1 75)) + a2).toInt.toNat).toInt.toNat) (y := a1) rfl rfl).mp hc)
      refine g_ld rfl rfl rfl ?_
      exact g_retI rfl h
def wl_203_113 (T : Nat → List Value → yS → (Option Value → yS → Prop) → Prop)  (a1 : Int32) (a2 : Int32) (s : yS) (P : Option Value → yS → Prop) : Prop :=
  ∃ (I : Int32 → Int32 → yS → Prop) (μ : Int32 → Int32 → yS → Nat), I a1 a2 s ∧ ∀ (a1 : Int32) (a2 : Int32) (s : yS), I a1 a2 s → w_203_113 T (fun a1' a2' s' => I a1' a2' s' ∧ μ a1' a2' s' < μ a1 a2 s) a1 a2 s P
theorem kl_203_113 {d : Nat}  {a1 : Int32} {a2 : Int32} {s : yS} {P : Option Value → yS → Prop}  (h : wl_203_113 (Tot d)  a1 a2 s P) : Go d 3 (some .int) xE_203 (xE_203.drop 113) [.ref 213, .int a1, .int a2, .null, .null] [] s P := by
  obtain ⟨I, μ, h0, h1⟩ := h
  have key : ∀ (n : Nat) (a1 : Int32) (a2 : Int32) (s : yS), μ a1 a2 s = n → I a1 a2 s → Go d 3 (some .int) xE_203 (xE_203.drop 113) [.ref 213, .int a1, .int a2, .null, .null] [] s P := by
    intro n
    induction n using Nat.strongRecOn with
    | ind n ih =>
      intro a1 a2 s e hI
      exact k_203_113 (fun a1' a2' s' q => ih _ (by rw [← e]; exact q.2) _ _ _ rfl q.1) (h1 a1 a2 s hI)
  exact key _ a1 a2 s rfl h0
def w_203_111 (T : Nat → List Value → yS → (Option Value → yS → Prop) → Prop)  (a1 : Int32) (a2 : Int32) (s : yS) (P : Option Value → yS → Prop) : Prop :=
  wl_203_113 T  a1 0  s P
set_option maxRecDepth 20000 in
theorem k_203_111 {d : Nat}  {a1 : Int32} {a2 : Int32} {s : yS} {P : Option Value → yS → Prop}  (h : w_203_111 (Tot d)  a1 a2 s P) : Go d 3 (some .int) xE_203 (xE_203.drop 111) [.ref 213, .int a1, .int a2, .null, .null] [] s P := by
  unfold w_203_111 at h
  refine g_c [.int 0] (xo_push (.int 0)) rfl rfl ?_
  refine g_st [.ref 213, .int a1, .int 0, .null, .null] rfl rfl rfl ?_
  exact kl_203_113  h
def w_203_84 (T : Nat → List Value → yS → (Option Value → yS → Prop) → Prop)  (a1 : Int32) (a2 : Int32) (s : yS) (P : Option Value → yS → Prop) : Prop :=
  ((s.1 78).toInt < 0 → w_203_111 T  a1 a2  s P) ∧ (¬ ((s.1 78).toInt < 0) → T 200 [.ref 213, .int (s.1 78), .int a1] s (fun v2 s1 => ∃ x3, v2 = some (.int x3) ∧ ((x3.toInt < 0 → w_203_111 T  a1 a2  s1 P) ∧ (¬ (x3.toInt < 0) → (-2147483648 ≤ 60 * (s1.1 75).toInt ∧ 60 * (s1.1 75).toInt ≤ 2147483647) ∧ (∀ x4 : Int32, x4.toInt = 60 * (s1.1 75).toInt → (-2147483648 ≤ (s1.1 78).toInt - x4.toInt ∧ (s1.1 78).toInt - x4.toInt ≤ 2147483647) ∧ (∀ x5 : Int32, x5.toInt = (s1.1 78).toInt - x4.toInt → (-2147483648 ≤ 6 * x5.toInt ∧ 6 * x5.toInt ≤ 2147483647) ∧ (∀ x6 : Int32, x6.toInt = 6 * x5.toInt → (-2147483648 ≤ 4000 + x6.toInt ∧ 4000 + x6.toInt ≤ 2147483647) ∧ (∀ x7 : Int32, x7.toInt = 4000 + x6.toInt → T 200 [.ref 213, .int (s1.1 78), .int a1] s1 (fun v9 s8 => ∃ x10, v9 = some (.int x10) ∧ ((-2147483648 ≤ x7.toInt + x10.toInt ∧ x7.toInt + x10.toInt ≤ 2147483647) ∧ (∀ x11 : Int32, x11.toInt = x7.toInt + x10.toInt → P (some (.int x11)) s8)))))))))))
set_option maxRecDepth 20000 in
theorem k_203_84 {d : Nat}  {a1 : Int32} {a2 : Int32} {s : yS} {P : Option Value → yS → Prop}  (h : w_203_84 (Tot d)  a1 a2 s P) : Go d 3 (some .int) xE_203 (xE_203.drop 84) [.ref 213, .int a1, .int a2, .null, .null] [] s P := by
  unfold w_203_84 at h
  refine g_ld rfl rfl rfl ?_
  refine g_get rfl rfl ?_
  change Go _ _ _ _ _ _ [.int (s.1 78)] _ _
  refine g_brP rfl rfl ⟨fun hc => ?_, fun hc => ?_⟩
  · replace h := h.1 ((i_lt (x := s.1 78) (y := 0) rfl (show (0 : Int32).toInt = 0 by decide)).mp hc)
    exact k_203_111  h
  · replace h := h.2 (fun q => hc ((i_lt (x := s.1 78) (y := 0) rfl (show (0 : Int32).toInt = 0 by decide)).mpr q))
    refine g_ld rfl rfl rfl ?_
    refine g_ld rfl rfl rfl ?_
    refine g_get rfl rfl ?_
    change Go _ _ _ _ _ _ [.int (s.1 78), .ref 213] _ _
    refine g_ld rfl rfl rfl ?_
    refine g_call [.ref 213, .int (s.1 78), .int a1] [] rfl rfl rfl (Tot.imp h (fun v2 s1 h => ?_))
    obtain ⟨x3, rfl, h⟩ := h
    change Go _ _ _ _ _ _ [.int x3] _ _
    refine g_brP rfl rfl ⟨fun hc => ?_, fun hc => ?_⟩
    · replace h := h.1 ((i_lt (x := x3) (y := 0) rfl (show (0 : Int32).toInt = 0 by decide)).mp hc)
      exact k_203_111  h
    · replace h := h.2 (fun q => hc ((i_lt (x := x3) (y := 0) rfl (show (0 : Int32).toInt = 0 by decide)).mpr q))
      refine g_c [.int 4000] (xo_push (.int 4000)) rfl rfl ?_
      refine g_c [.int 6, .int 4000] (xo_push (.int 6)) rfl rfl ?_
      refine g_ld rfl rfl rfl ?_
      refine g_get rfl rfl ?_
      change Go _ _ _ _ _ _ [.int (s1.1 78), .int 6, .int 4000] _ _
      refine g_c [.int 60, .int (s1.1 78), .int 6, .int 4000] (xo_push (.int 60)) rfl rfl ?_
      refine g_ld rfl rfl rfl ?_
      refine g_get rfl rfl ?_
      change Go _ _ _ _ _ _ [.int (s1.1 75), .int 60, .int (s1.1 78), .int 6, .int 4000] _ _
      have ex4 := i_mul (x := 60) (y := s1.1 75) (show (60 : Int32).toInt = 60 by decide) rfl h.1
      have cx4 := ck_mul (x := 60) (y := s1.1 75) (show (60 : Int32).toInt = 60 by decide) rfl h.1
      replace h := h.2 _ ex4
      refine g_ca [.int (60 * (s1.1 75)), .int (s1.1 78), .int 6, .int 4000] xo_imul rfl rfl (fun _ => cx4) ?_
      have ex5 := i_sub (x := s1.1 78) (y := (60 * (s1.1 75))) rfl rfl h.1
      have cx5 := ck_sub (x := s1.1 78) (y := (60 * (s1.1 75))) rfl rfl h.1
      replace h := h.2 _ ex5
      refine g_ca [.int ((s1.1 78) - (60 * (s1.1 75))), .int 6, .int 4000] xo_isub rfl rfl (fun _ => cx5) ?_
      have ex6 := i_mul (x := 6) (y := ((s1.1 78) - (60 * (s1.1 75)))) (show (6 : Int32).toInt = 6 by decide) rfl h.1
      have cx6 := ck_mul (x := 6) (y := ((s1.1 78) - (60 * (s1.1 75)))) (show (6 : Int32).toInt = 6 by decide) rfl h.1
      replace h := h.2 _ ex6
      refine g_ca [.int (6 * ((s1.1 78) - (60 * (s1.1 75)))), .int 4000] xo_imul rfl rfl (fun _ => cx6) ?_
      have ex7 := i_add (x := 4000) (y := (6 * ((s1.1 78) - (60 * (s1.1 75))))) (show (4000 : Int32).toInt = 4000 by decide) rfl h.1
      have cx7 := ck_add (x := 4000) (y := (6 * ((s1.1 78) - (60 * (s1.1 75))))) (show (4000 : Int32).toInt = 4000 by decide) rfl h.1
      replace h := h.2 _ ex7
      refine g_ca [.int (4000 + (6 * ((s1.1 78) - (60 * (s1.1 75)))))] xo_iadd rfl rfl (fun _ => cx7) ?_
      refine g_ld rfl rfl rfl ?_
      refine g_ld rfl rfl rfl ?_
      refine g_get rfl rfl ?_
      change Go _ _ _ _ _ _ [.int (s1.1 78), .ref 213, .int (4000 + (6 * ((s1.1 78) - (60 * (s1.1 75)))))] _ _
      refine g_ld rfl rfl rfl ?_
      refine g_call [.ref 213, .int (s1.1 78), .int a1] [.int (4000 + (6 * ((s1.1 78) - (60 * (s1.1 75)))))] rfl rfl rfl (Tot.imp h (fun v9 s8 h => ?_))
      obtain ⟨x10, rfl, h⟩ := h
      change Go _ _ _ _ _ _ [.int x10, .int (4000 + (6 * ((s1.1 78) - (60 * (s1.1 75)))))] _ _
      have ex11 := i_add (x := (4000 + (6 * ((s1.1 78) - (60 * (s1.1 75)))))) (y := x10) rfl rfl h.1
      have cx11 := ck_add (x := (4000 + (6 * ((s1.1 78) - (60 * (s1.1 75)))))) (y := x10) rfl rfl h.1
      replace h := h.2 _ ex11
      refine g_ca [.int ((4000 + (6 * ((s1.1 78) - (60 * (s1.1 75))))) + x10)] xo_iadd rfl rfl (fun _ => cx11) ?_
      exact g_retI rfl h
def w_203_44 (T : Nat → List Value → yS → (Option Value → yS → Prop) → Prop) (R44 : Int32 → Int32 → yS → Prop) (a1 : Int32) (a2 : Int32) (s : yS) (P : Option Value → yS → Prop) : Prop :=
  ((s.1 76).toInt < 0 → w_203_84 T  a1 a2  s P) ∧ (¬ ((s.1 76).toInt < 0) → (0 ≤ (s.1 76).toInt ∧ (s.1 76).toInt < 48) ∧ (((s.2.1 236 (s.1 76).toInt.toNat).toInt ≤ a2.toInt → w_203_84 T  a1 a2  s P) ∧ (¬ ((s.2.1 236 (s.1 76).toInt.toNat).toInt ≤ a2.toInt) → (-2147483648 ≤ 6 * (s.1 76).toInt ∧ 6 * (s.1 76).toInt ≤ 2147483647) ∧ (∀ x1 : Int32, x1.toInt = 6 * (s.1 76).toInt → (-2147483648 ≤ x1.toInt + a2.toInt ∧ x1.toInt + a2.toInt ≤ 2147483647) ∧ (∀ x2 : Int32, x2.toInt = x1.toInt + a2.toInt → (0 ≤ x2.toInt ∧ x2.toInt < 288) ∧ ((0 ≤ (s.2.1 237 x2.toInt.toNat).toInt ∧ (s.2.1 237 x2.toInt.toNat).toInt < 12006) ∧ ((¬ ((s.2.1 217 (s.2.1 237 x2.toInt.toNat).toInt.toNat).toInt = a1.toInt) → (-2147483648 ≤ a2.toInt + 1 ∧ a2.toInt + 1 ≤ 2147483647) ∧ (∀ x3 : Int32, x3.toInt = a2.toInt + 1 → R44 a1 x3  s)) ∧ ((s.2.1 217 (s.2.1 237 x2.toInt.toNat).toInt.toNat).toInt = a1.toInt → (-2147483648 ≤ 24 * (s.1 75).toInt ∧ 24 * (s.1 75).toInt ≤ 2147483647) ∧ (∀ x4 : Int32, x4.toInt = 24 * (s.1 75).toInt → (-2147483648 ≤ (s.1 76).toInt - x4.toInt ∧ (s.1 76).toInt - x4.toInt ≤ 2147483647) ∧ (∀ x5 : Int32, x5.toInt = (s.1 76).toInt - x4.toInt → (-2147483648 ≤ 6 * x5.toInt ∧ 6 * x5.toInt ≤ 2147483647) ∧ (∀ x6 : Int32, x6.toInt = 6 * x5.toInt → (-2147483648 ≤ 1000 + x6.toInt ∧ 1000 + x6.toInt ≤ 2147483647) ∧ (∀ x7 : Int32, x7.toInt = 1000 + x6.toInt → (-2147483648 ≤ x7.toInt + a2.toInt ∧ x7.toInt + a2.toInt ≤ 2147483647) ∧ (∀ x8 : Int32, x8.toInt = x7.toInt + a2.toInt → P (some (.int x8)) s)))))))))))))
set_option maxRecDepth 20000 in
theorem k_203_44 {d : Nat} {R44 : Int32 → Int32 → yS → Prop} {a1 : Int32} {a2 : Int32} {s : yS} {P : Option Value → yS → Prop} (r44 : ∀ a1 a2 s, R44 a1 a2 s → Go d 3 (some .int) xE_203 (xE_203.drop 44) [.ref 213, .int a1, .int a2, .null, .null] [] s P) (h : w_203_44 (Tot d) R44 a1 a2 s P) : Go d 3 (some .int) xE_203 (xE_203.drop 44) [.ref 213, .int a1, .int a2, .null, .null] [] s P := by
  unfold w_203_44 at h
  refine g_ld rfl rfl rfl ?_
  refine g_get rfl rfl ?_
  change Go _ _ _ _ _ _ [.int (s.1 76)] _ _
  refine g_brP rfl rfl ⟨fun hc => ?_, fun hc => ?_⟩
  · replace h := h.1 ((i_lt (x := s.1 76) (y := 0) rfl (show (0 : Int32).toInt = 0 by decide)).mp hc)
    exact k_203_84  h
  · replace h := h.2 (fun q => hc ((i_lt (x := s.1 76) (y := 0) rfl (show (0 : Int32).toInt = 0 by decide)).mpr q))
    refine g_ld rfl rfl rfl ?_
    refine g_ld rfl rfl rfl ?_
    refine g_get rfl rfl ?_
    change Go _ _ _ _ _ _ [.ref 236, .int a2] _ _
    refine g_ld rfl rfl rfl ?_
    refine g_get rfl rfl ?_
    change Go _ _ _ _ _ _ [.int (s.1 76), .ref 236, .int a2] _ _
    refine g_ial rfl rfl (i_in (x := s.1 76) rfl h.1) ?_
    change Go _ _ _ _ _ _ [.int (s.2.1 236 (s.1 76).toInt.toNat), .int a2] _ _
    replace h := h.2
    refine g_brP rfl rfl ⟨fun hc => ?_, fun hc => ?_⟩
    · replace h := h.1 ((i_le (x := s.2.1 236 (s.1 76).toInt.toNat) (y := a2) rfl rfl).mp hc)
      exact k_203_84  h
    · replace h := h.2 (fun q => hc ((i_le (x := s.2.1 236 (s.1 76).toInt.toNat) (y := a2) rfl rfl).mpr q))
      refine g_ld rfl rfl rfl ?_
      refine g_get rfl rfl ?_
      change Go _ _ _ _ _ _ [.ref 217] _ _
      refine g_ld rfl rfl rfl ?_
      refine g_get rfl rfl ?_
      change Go _ _ _ _ _ _ [.ref 237, .ref 217] _ _
      refine g_c [.int 6, .ref 237, .ref 217] (xo_push (.int 6)) rfl rfl ?_
      refine g_ld rfl rfl rfl ?_
      refine g_get rfl rfl ?_
      change Go _ _ _ _ _ _ [.int (s.1 76), .int 6, .ref 237, .ref 217] _ _
      have ex1 := i_mul (x := 6) (y := s.1 76) (show (6 : Int32).toInt = 6 by decide) rfl h.1
      have cx1 := ck_mul (x := 6) (y := s.1 76) (show (6 : Int32).toInt = 6 by decide) rfl h.1
      replace h := h.2 _ ex1
      refine g_ca [.int (6 * (s.1 76)), .ref 237, .ref 217] xo_imul rfl rfl (fun _ => cx1) ?_
      refine g_ld rfl rfl rfl ?_
      have ex2 := i_add (x := (6 * (s.1 76))) (y := a2) rfl rfl h.1
      have cx2 := ck_add (x := (6 * (s.1 76))) (y := a2) rfl rfl h.1
      replace h := h.2 _ ex2
      refine g_ca [.int ((6 * (s.1 76)) + a2), .ref 237, .ref 217] xo_iadd rfl rfl (fun _ => cx2) ?_
      refine g_ial rfl rfl (i_in (x := ((6 * (s.1 76)) + a2)) rfl h.1) ?_
      change Go _ _ _ _ _ _ [.int (s.2.1 237 ((6 * (s.1 76)) + a2).toInt.toNat), .ref 217] _ _
      replace h := h.2
      refine g_ial rfl rfl (i_in (x := s.2.1 237 ((6 * (s.1 76)) + a2).toInt.toNat) rfl h.1) ?_
      change Go _ _ _ _ _ _ [.int (s.2.1 217 (s.2.1 237 ((6 * (s.1 76)) + a2).toInt.toNat).toInt.toNat)] _ _
      replace h := h.2
      refine g_ld rfl rfl rfl ?_
      refine g_brN rfl rfl ⟨fun hc => ?_, fun hc => ?_⟩
      · replace h := h.1 (fun q => hc ((i_eq (x := s.2.1 217 (s.2.1 237 ((6 * (s.1 76)) + a2).toInt.toNat).toInt.toNat) (y := a1) rfl rfl).mpr q))
        have ex3 := i_add (x := a2) (y := 1) rfl (show (1 : Int32).toInt = 1 by decide) h.1
        have cx3 := ck_inc (x := a2) (n := 1) rfl h.1
        replace h := h.2 _ ex3
        refine g_inc [.ref 213, .int a1, .int (a2 + 1), .null, .null] rfl rfl rfl rfl cx3 ?_
        refine g_go rfl ?_
        exact r44 a1 (a2 + 1)  s h
      · replace h := h.2 ((i_eq (x := s.2.1 217 (s.2.1 237 ((6 * (s.1 76)) + a2).toInt.toNat).toInt.toNat) (y := a1) rfl rfl).mp hc)
        refine g_c [.int 1000] (xo_push (.int 1000)) rfl rfl ?_
        refine g_c [.int 6, .int 1000] (xo_push (.int 6)) rfl rfl ?_
        refine g_ld rfl rfl rfl ?_
        refine g_get rfl rfl ?_
        change Go _ _ _ _ _ _ [.int (s.1 76), .int 6, .int 1000] _ _
        refine g_c [.int 24, .int (s.1 76), .int 6, .int 1000] (xo_push (.int 24)) rfl rfl ?_
        refine g_ld rfl rfl rfl ?_
        refine g_get rfl rfl ?_
        change Go _ _ _ _ _ _ [.int (s.1 75), .int 24, .int (s.1 76), .int 6, .int 1000] _ _
        have ex4 := i_mul (x := 24) (y := s.1 75) (show (24 : Int32).toInt = 24 by decide) rfl h.1
        have cx4 := ck_mul (x := 24) (y := s.1 75) (show (24 : Int32).toInt = 24 by decide) rfl h.1
        replace h := h.2 _ ex4
        refine g_ca [.int (24 * (s.1 75)), .int (s.1 76), .int 6, .int 1000] xo_imul rfl rfl (fun _ => cx4) ?_
        have ex5 := i_sub (x := s.1 76) (y := (24 * (s.1 75))) rfl rfl h.1
        have cx5 := ck_sub (x := s.1 76) (y := (24 * (s.1 75))) rfl rfl h.1
        replace h := h.2 _ ex5
        refine g_ca [.int ((s.1 76) - (24 * (s.1 75))), .int 6, .int 1000] xo_isub rfl rfl (fun _ => cx5) ?_
        have ex6 := i_mul (x := 6) (y := ((s.1 76) - (24 * (s.1 75)))) (show (6 : Int32).toInt = 6 by decide) rfl h.1
        have cx6 := ck_mul (x := 6) (y := ((s.1 76) - (24 * (s.1 75)))) (show (6 : Int32).toInt = 6 by decide) rfl h.1
        replace h := h.2 _ ex6
        refine g_ca [.int (6 * ((s.1 76) - (24 * (s.1 75)))), .int 1000] xo_imul rfl rfl (fun _ => cx6) ?_
        have ex7 := i_add (x := 1000) (y := (6 * ((s.1 76) - (24 * (s.1 75))))) (show (1000 : Int32).toInt = 1000 by decide) rfl h.1
        have cx7 := ck_add (x := 1000) (y := (6 * ((s.1 76) - (24 * (s.1 75))))) (show (1000 : Int32).toInt = 1000 by decide) rfl h.1
        replace h := h.2 _ ex7
        refine g_ca [.int (1000 + (6 * ((s.1 76) - (24 * (s.1 75)))))] xo_iadd rfl rfl (fun _ => cx7) ?_
        refine g_ld rfl rfl rfl ?_
        have ex8 := i_add (x := (1000 + (6 * ((s.1 76) - (24 * (s.1 75)))))) (y := a2) rfl rfl h.1
        have cx8 := ck_add (x := (1000 + (6 * ((s.1 76) - (24 * (s.1 75)))))) (y := a2) rfl rfl h.1
        replace h := h.2 _ ex8
        refine g_ca [.int ((1000 + (6 * ((s.1 76) - (24 * (s.1 75))))) + a2)] xo_iadd rfl rfl (fun _ => cx8) ?_
        exact g_retI rfl h
def wl_203_44 (T : Nat → List Value → yS → (Option Value → yS → Prop) → Prop)  (a1 : Int32) (a2 : Int32) (s : yS) (P : Option Value → yS → Prop) : Prop :=
  ∃ (I : Int32 → Int32 → yS → Prop) (μ : Int32 → Int32 → yS → Nat), I a1 a2 s ∧ ∀ (a1 : Int32) (a2 : Int32) (s : yS), I a1 a2 s → w_203_44 T (fun a1' a2' s' => I a1' a2' s' ∧ μ a1' a2' s' < μ a1 a2 s) a1 a2 s P
theorem kl_203_44 {d : Nat}  {a1 : Int32} {a2 : Int32} {s : yS} {P : Option Value → yS → Prop}  (h : wl_203_44 (Tot d)  a1 a2 s P) : Go d 3 (some .int) xE_203 (xE_203.drop 44) [.ref 213, .int a1, .int a2, .null, .null] [] s P := by
  obtain ⟨I, μ, h0, h1⟩ := h
  have key : ∀ (n : Nat) (a1 : Int32) (a2 : Int32) (s : yS), μ a1 a2 s = n → I a1 a2 s → Go d 3 (some .int) xE_203 (xE_203.drop 44) [.ref 213, .int a1, .int a2, .null, .null] [] s P := by
    intro n
    induction n using Nat.strongRecOn with
    | ind n ih =>
      intro a1 a2 s e hI
      exact k_203_44 (fun a1' a2' s' q => ih _ (by rw [← e]; exact q.2) _ _ _ rfl q.1) (h1 a1 a2 s hI)
  exact key _ a1 a2 s rfl h0
def w_203_42 (T : Nat → List Value → yS → (Option Value → yS → Prop) → Prop)  (a1 : Int32) (a2 : Int32) (s : yS) (P : Option Value → yS → Prop) : Prop :=
  wl_203_44 T  a1 0  s P
set_option maxRecDepth 20000 in
theorem k_203_42 {d : Nat}  {a1 : Int32} {a2 : Int32} {s : yS} {P : Option Value → yS → Prop}  (h : w_203_42 (Tot d)  a1 a2 s P) : Go d 3 (some .int) xE_203 (xE_203.drop 42) [.ref 213, .int a1, .int a2, .null, .null] [] s P := by
  unfold w_203_42 at h
  refine g_c [.int 0] (xo_push (.int 0)) rfl rfl ?_
  refine g_st [.ref 213, .int a1, .int 0, .null, .null] rfl rfl rfl ?_
  exact kl_203_44  h
def w_203_2 (T : Nat → List Value → yS → (Option Value → yS → Prop) → Prop) (R2 : Int32 → Int32 → yS → Prop) (a1 : Int32) (a2 : Int32) (s : yS) (P : Option Value → yS → Prop) : Prop :=
  ((s.1 77).toInt < 0 → w_203_42 T  a1 a2  s P) ∧ (¬ ((s.1 77).toInt < 0) → (0 ≤ (s.1 77).toInt ∧ (s.1 77).toInt < 408) ∧ (((s.2.1 245 (s.1 77).toInt.toNat).toInt ≤ a2.toInt → w_203_42 T  a1 a2  s P) ∧ (¬ ((s.2.1 245 (s.1 77).toInt.toNat).toInt ≤ a2.toInt) → (-2147483648 ≤ 6 * (s.1 77).toInt ∧ 6 * (s.1 77).toInt ≤ 2147483647) ∧ (∀ x1 : Int32, x1.toInt = 6 * (s.1 77).toInt → (-2147483648 ≤ x1.toInt + a2.toInt ∧ x1.toInt + a2.toInt ≤ 2147483647) ∧ (∀ x2 : Int32, x2.toInt = x1.toInt + a2.toInt → (0 ≤ x2.toInt ∧ x2.toInt < 2448) ∧ ((0 ≤ (s.2.1 246 x2.toInt.toNat).toInt ∧ (s.2.1 246 x2.toInt.toNat).toInt < 12006) ∧ ((¬ ((s.2.1 217 (s.2.1 246 x2.toInt.toNat).toInt.toNat).toInt = a1.toInt) → (-2147483648 ≤ a2.toInt + 1 ∧ a2.toInt + 1 ≤ 2147483647) ∧ (∀ x3 : Int32, x3.toInt = a2.toInt + 1 → R2 a1 x3  s)) ∧ ((s.2.1 217 (s.2.1 246 x2.toInt.toNat).toInt.toNat).toInt = a1.toInt → (-2147483648 ≤ 204 * (s.1 75).toInt ∧ 204 * (s.1 75).toInt ≤ 2147483647) ∧ (∀ x4 : Int32, x4.toInt = 204 * (s.1 75).toInt → (-2147483648 ≤ (s.1 77).toInt - x4.toInt ∧ (s.1 77).toInt - x4.toInt ≤ 2147483647) ∧ (∀ x5 : Int32, x5.toInt = (s.1 77).toInt - x4.toInt → (-2147483648 ≤ 6 * x5.toInt ∧ 6 * x5.toInt ≤ 2147483647) ∧ (∀ x6 : Int32, x6.toInt = 6 * x5.toInt → (-2147483648 ≤ 2000 + x6.toInt ∧ 2000 + x6.toInt ≤ 2147483647) ∧ (∀ x7 : Int32, x7.toInt = 2000 + x6.toInt → (-2147483648 ≤ x7.toInt + a2.toInt ∧ x7.toInt + a2.toInt ≤ 2147483647) ∧ (∀ x8 : Int32, x8.toInt = x7.toInt + a2.toInt → P (some (.int x8)) s)))))))))))))
set_option maxRecDepth 20000 in
theorem k_203_2 {d : Nat} {R2 : Int32 → Int32 → yS → Prop} {a1 : Int32} {a2 : Int32} {s : yS} {P : Option Value → yS → Prop} (r2 : ∀ a1 a2 s, R2 a1 a2 s → Go d 3 (some .int) xE_203 (xE_203.drop 2) [.ref 213, .int a1, .int a2, .null, .null] [] s P) (h : w_203_2 (Tot d) R2 a1 a2 s P) : Go d 3 (some .int) xE_203 (xE_203.drop 2) [.ref 213, .int a1, .int a2, .null, .null] [] s P := by
  unfold w_203_2 at h
  refine g_ld rfl rfl rfl ?_
  refine g_get rfl rfl ?_
  change Go _ _ _ _ _ _ [.int (s.1 77)] _ _
  refine g_brP rfl rfl ⟨fun hc => ?_, fun hc => ?_⟩
  · replace h := h.1 ((i_lt (x := s.1 77) (y := 0) rfl (show (0 : Int32).toInt = 0 by decide)).mp hc)
    exact k_203_42  h
  · replace h := h.2 (fun q => hc ((i_lt (x := s.1 77) (y := 0) rfl (show (0 : Int32).toInt = 0 by decide)).mpr q))
    refine g_ld rfl rfl rfl ?_
    refine g_ld rfl rfl rfl ?_
    refine g_get rfl rfl ?_
    change Go _ _ _ _ _ _ [.ref 245, .int a2] _ _
    refine g_ld rfl rfl rfl ?_
    refine g_get rfl rfl ?_
    change Go _ _ _ _ _ _ [.int (s.1 77), .ref 245, .int a2] _ _
    refine g_ial rfl rfl (i_in (x := s.1 77) rfl h.1) ?_
    change Go _ _ _ _ _ _ [.int (s.2.1 245 (s.1 77).toInt.toNat), .int a2] _ _
    replace h := h.2
    refine g_brP rfl rfl ⟨fun hc => ?_, fun hc => ?_⟩
    · replace h := h.1 ((i_le (x := s.2.1 245 (s.1 77).toInt.toNat) (y := a2) rfl rfl).mp hc)
      exact k_203_42  h
    · replace h := h.2 (fun q => hc ((i_le (x := s.2.1 245 (s.1 77).toInt.toNat) (y := a2) rfl rfl).mpr q))
      refine g_ld rfl rfl rfl ?_
      refine g_get rfl rfl ?_
      change Go _ _ _ _ _ _ [.ref 217] _ _
      refine g_ld rfl rfl rfl ?_
      refine g_get rfl rfl ?_
      change Go _ _ _ _ _ _ [.ref 246, .ref 217] _ _
      refine g_c [.int 6, .ref 246, .ref 217] (xo_push (.int 6)) rfl rfl ?_
      refine g_ld rfl rfl rfl ?_
      refine g_get rfl rfl ?_
      change Go _ _ _ _ _ _ [.int (s.1 77), .int 6, .ref 246, .ref 217] _ _
      have ex1 := i_mul (x := 6) (y := s.1 77) (show (6 : Int32).toInt = 6 by decide) rfl h.1
      have cx1 := ck_mul (x := 6) (y := s.1 77) (show (6 : Int32).toInt = 6 by decide) rfl h.1
      replace h := h.2 _ ex1
      refine g_ca [.int (6 * (s.1 77)), .ref 246, .ref 217] xo_imul rfl rfl (fun _ => cx1) ?_
      refine g_ld rfl rfl rfl ?_
      have ex2 := i_add (x := (6 * (s.1 77))) (y := a2) rfl rfl h.1
      have cx2 := ck_add (x := (6 * (s.1 77))) (y := a2) rfl rfl h.1
      replace h := h.2 _ ex2
      refine g_ca [.int ((6 * (s.1 77)) + a2), .ref 246, .ref 217] xo_iadd rfl rfl (fun _ => cx2) ?_
      refine g_ial rfl rfl (i_in (x := ((6 * (s.1 77)) + a2)) rfl h.1) ?_
      change Go _ _ _ _ _ _ [.int (s.2.1 246 ((6 * (s.1 77)) + a2).toInt.toNat), .ref 217] _ _
      replace h := h.2
      refine g_ial rfl rfl (i_in (x := s.2.1 246 ((6 * (s.1 77)) + a2).toInt.toNat) rfl h.1) ?_
      change Go _ _ _ _ _ _ [.int (s.2.1 217 (s.2.1 246 ((6 * (s.1 77)) + a2).toInt.toNat).toInt.toNat)] _ _
      replace h := h.2
      refine g_ld rfl rfl rfl ?_
      refine g_brN rfl rfl ⟨fun hc => ?_, fun hc => ?_⟩
      · replace h := h.1 (fun q => hc ((i_eq (x := s.2.1 217 (s.2.1 246 ((6 * (s.1 77)) + a2).toInt.toNat).toInt.toNat) (y := a1) rfl rfl).mpr q))
        have ex3 := i_add (x := a2) (y := 1) rfl (show (1 : Int32).toInt = 1 by decide) h.1
        have cx3 := ck_inc (x := a2) (n := 1) rfl h.1
        replace h := h.2 _ ex3
        refine g_inc [.ref 213, .int a1, .int (a2 + 1), .null, .null] rfl rfl rfl rfl cx3 ?_
        refine g_go rfl ?_
        exact r2 a1 (a2 + 1)  s h
      · replace h := h.2 ((i_eq (x := s.2.1 217 (s.2.1 246 ((6 * (s.1 77)) + a2).toInt.toNat).toInt.toNat) (y := a1) rfl rfl).mp hc)
        refine g_c [.int 2000] (xo_push (.int 2000)) rfl rfl ?_
        refine g_c [.int 6, .int 2000] (xo_push (.int 6)) rfl rfl ?_
        refine g_ld rfl rfl rfl ?_
        refine g_get rfl rfl ?_
        change Go _ _ _ _ _ _ [.int (s.1 77), .int 6, .int 2000] _ _
        refine g_c [.int 204, .int (s.1 77), .int 6, .int 2000] (xo_push (.int 204)) rfl rfl ?_
        refine g_ld rfl rfl rfl ?_
        refine g_get rfl rfl ?_
        change Go _ _ _ _ _ _ [.int (s.1 75), .int 204, .int (s.1 77), .int 6, .int 2000] _ _
        have ex4 := i_mul (x := 204) (y := s.1 75) (show (204 : Int32).toInt = 204 by decide) rfl h.1
        have cx4 := ck_mul (x := 204) (y := s.1 75) (show (204 : Int32).toInt = 204 by decide) rfl h.1
        replace h := h.2 _ ex4
        refine g_ca [.int (204 * (s.1 75)), .int (s.1 77), .int 6, .int 2000] xo_imul rfl rfl (fun _ => cx4) ?_
        have ex5 := i_sub (x := s.1 77) (y := (204 * (s.1 75))) rfl rfl h.1
        have cx5 := ck_sub (x := s.1 77) (y := (204 * (s.1 75))) rfl rfl h.1
        replace h := h.2 _ ex5
        refine g_ca [.int ((s.1 77) - (204 * (s.1 75))), .int 6, .int 2000] xo_isub rfl rfl (fun _ => cx5) ?_
        have ex6 := i_mul (x := 6) (y := ((s.1 77) - (204 * (s.1 75)))) (show (6 : Int32).toInt = 6 by decide) rfl h.1
        have cx6 := ck_mul (x := 6) (y := ((s.1 77) - (204 * (s.1 75)))) (show (6 : Int32).toInt = 6 by decide) rfl h.1
        replace h := h.2 _ ex6
        refine g_ca [.int (6 * ((s.1 77) - (204 * (s.1 75)))), .int 2000] xo_imul rfl rfl (fun _ => cx6) ?_
        have ex7 := i_add (x := 2000) (y := (6 * ((s.1 77) - (204 * (s.1 75))))) (show (2000 : Int32).toInt = 2000 by decide) rfl h.1
        have cx7 := ck_add (x := 2000) (y := (6 * ((s.1 77) - (204 * (s.1 75))))) (show (2000 : Int32).toInt = 2000 by decide) rfl h.1
        replace h := h.2 _ ex7
        refine g_ca [.int (2000 + (6 * ((s.1 77) - (204 * (s.1 75)))))] xo_iadd rfl rfl (fun _ => cx7) ?_
        refine g_ld rfl rfl rfl ?_
        have ex8 := i_add (x := (2000 + (6 * ((s.1 77) - (204 * (s.1 75)))))) (y := a2) rfl rfl h.1
        have cx8 := ck_add (x := (2000 + (6 * ((s.1 77) - (204 * (s.1 75)))))) (y := a2) rfl rfl h.1
        replace h := h.2 _ ex8
        refine g_ca [.int ((2000 + (6 * ((s.1 77) - (204 * (s.1 75))))) + a2)] xo_iadd rfl rfl (fun _ => cx8) ?_
        exact g_retI rfl h
def wl_203_2 (T : Nat → List Value → yS → (Option Value → yS → Prop) → Prop)  (a1 : Int32) (a2 : Int32) (s : yS) (P : Option Value → yS → Prop) : Prop :=
  ∃ (I : Int32 → Int32 → yS → Prop) (μ : Int32 → Int32 → yS → Nat), I a1 a2 s ∧ ∀ (a1 : Int32) (a2 : Int32) (s : yS), I a1 a2 s → w_203_2 T (fun a1' a2' s' => I a1' a2' s' ∧ μ a1' a2' s' < μ a1 a2 s) a1 a2 s P
theorem kl_203_2 {d : Nat}  {a1 : Int32} {a2 : Int32} {s : yS} {P : Option Value → yS → Prop}  (h : wl_203_2 (Tot d)  a1 a2 s P) : Go d 3 (some .int) xE_203 (xE_203.drop 2) [.ref 213, .int a1, .int a2, .null, .null] [] s P := by
  obtain ⟨I, μ, h0, h1⟩ := h
  have key : ∀ (n : Nat) (a1 : Int32) (a2 : Int32) (s : yS), μ a1 a2 s = n → I a1 a2 s → Go d 3 (some .int) xE_203 (xE_203.drop 2) [.ref 213, .int a1, .int a2, .null, .null] [] s P := by
    intro n
    induction n using Nat.strongRecOn with
    | ind n ih =>
      intro a1 a2 s e hI
      exact k_203_2 (fun a1' a2' s' q => ih _ (by rw [← e]; exact q.2) _ _ _ rfl q.1) (h1 a1 a2 s hI)
  exact key _ a1 a2 s rfl h0
def w_203_0 (T : Nat → List Value → yS → (Option Value → yS → Prop) → Prop)  (a1 : Int32) (s : yS) (P : Option Value → yS → Prop) : Prop :=
  wl_203_2 T  a1 0  s P
set_option maxRecDepth 20000 in
theorem k_203_0 {d : Nat}  {a1 : Int32} {s : yS} {P : Option Value → yS → Prop}  (h : w_203_0 (Tot d)  a1 s P) : Go d 3 (some .int) xE_203 (xE_203.drop 0) [.ref 213, .int a1, .null, .null, .null] [] s P := by
  unfold w_203_0 at h
  refine g_c [.int 0] (xo_push (.int 0)) rfl rfl ?_
  refine g_st [.ref 213, .int a1, .int 0, .null, .null] rfl rfl rfl ?_
  exact kl_203_2  h
theorem t_203 {d : Nat} {a1 : Int32} {s : yS} {P : Option Value → yS → Prop} (h : w_203_0 (Tot d) a1 s P) : Tot (d + 1) 203 [.ref 213, .int a1] s P := tot_of (E := xE_203) (ml := 3) (ret := some .int) rfl rfl rfl (k_203_0 h)
/-! resolve -/
def w_204_141 (T : Nat → List Value → yS → (Option Value → yS → Prop) → Prop)  (a1 : Int32) (a2 : Int32) (a3 : Int32) (a4 : Int32) (a5 : Int32) (s : yS) (P : Option Value → yS → Prop) : Prop :=
  P none s
set_option maxRecDepth 20000 in
theorem k_204_141 {d : Nat}  {a1 : Int32} {a2 : Int32} {a3 : Int32} {a4 : Int32} {a5 : Int32} {s : yS} {P : Option Value → yS → Prop}  (h : w_204_141 (Tot d)  a1 a2 a3 a4 a5 s P) : Go d 6 (none) xE_204 (xE_204.drop 141) [.ref 213, .int a1, .int a2, .int a3, .int a4, .int a5, .null, .null, .null] [] s P := by
  unfold w_204_141 at h
  exact g_ret0 rfl h
def w_204_117 (T : Nat → List Value → yS → (Option Value → yS → Prop) → Prop)  (a1 : Int32) (a2 : Int32) (a3 : Int32) (a4 : Int32) (a5 : Int32) (s : yS) (P : Option Value → yS → Prop) : Prop :=
  (0 ≤ a1.toInt ∧ a1.toInt < 12006) ∧ ((-2147483648 ≤ (s.1 65).toInt - (s.2.1 231 a1.toInt.toNat).toInt ∧ (s.1 65).toInt - (s.2.1 231 a1.toInt.toNat).toInt ≤ 2147483647) ∧ (∀ x1 : Int32, x1.toInt = (s.1 65).toInt - (s.2.1 231 a1.toInt.toNat).toInt → (0 ≤ a1.toInt ∧ a1.toInt < 12006) ∧ (∀ s2, s2 = sa s 232 a1.toInt.toNat x1 → (0 ≤ a1.toInt ∧ a1.toInt < 12006) ∧ (((s2.2.1 232 a1.toInt.toNat).toInt ≤ 60 → w_204_141 T  a1 a2 a3 a4 a5  s2 P) ∧ (¬ ((s2.2.1 232 a1.toInt.toNat).toInt ≤ 60) → (0 ≤ a1.toInt ∧ a1.toInt < 12006) ∧ (T 163 [.ref 213, .int 9, .int (s2.2.1 222 a1.toInt.toNat)] s2 (fun v4 s3 => v4 = none ∧ (w_204_141 T  a1 a2 a3 a4 a5  s3 P))))))))
set_option maxRecDepth 20000 in
theorem k_204_117 {d : Nat}  {a1 : Int32} {a2 : Int32} {a3 : Int32} {a4 : Int32} {a5 : Int32} {s : yS} {P : Option Value → yS → Prop}  (h : w_204_117 (Tot d)  a1 a2 a3 a4 a5 s P) : Go d 6 (none) xE_204 (xE_204.drop 117) [.ref 213, .int a1, .int a2, .int a3, .int a4, .int a5, .null, .null, .null] [] s P := by
  unfold w_204_117 at h
  refine g_ld rfl rfl rfl ?_
  refine g_get rfl rfl ?_
  change Go _ _ _ _ _ _ [.ref 232] _ _
  refine g_ld rfl rfl rfl ?_
  refine g_ld rfl rfl rfl ?_
  refine g_get rfl rfl ?_
  change Go _ _ _ _ _ _ [.int (s.1 65), .int a1, .ref 232] _ _
  refine g_ld rfl rfl rfl ?_
  refine g_get rfl rfl ?_
  change Go _ _ _ _ _ _ [.ref 231, .int (s.1 65), .int a1, .ref 232] _ _
  refine g_ld rfl rfl rfl ?_
  refine g_ial rfl rfl (i_in (x := a1) rfl h.1) ?_
  change Go _ _ _ _ _ _ [.int (s.2.1 231 a1.toInt.toNat), .int (s.1 65), .int a1, .ref 232] _ _
  replace h := h.2
  have ex1 := i_sub (x := s.1 65) (y := s.2.1 231 a1.toInt.toNat) rfl rfl h.1
  have cx1 := ck_sub (x := s.1 65) (y := s.2.1 231 a1.toInt.toNat) rfl rfl h.1
  replace h := h.2 _ ex1
  refine g_ca [.int ((s.1 65) - (s.2.1 231 a1.toInt.toNat)), .int a1, .ref 232] xo_isub rfl rfl (fun _ => cx1) ?_
  refine g_ias rfl rfl (i_in (x := a1) rfl h.1) ?_
  replace h := h.2
  replace h := h _ rfl
  refine g_ld rfl rfl rfl ?_
  refine g_get rfl rfl ?_
  change Go _ _ _ _ _ _ [.ref 232] _ _
  refine g_ld rfl rfl rfl ?_
  refine g_ial rfl rfl (i_in (x := a1) rfl h.1) ?_
  change Go _ _ _ _ _ _ [.int ((sa s 232 a1.toInt.toNat ((s.1 65) - (s.2.1 231 a1.toInt.toNat))).2.1 232 a1.toInt.toNat)] _ _
  replace h := h.2
  refine g_c [.int 60, .int ((sa s 232 a1.toInt.toNat ((s.1 65) - (s.2.1 231 a1.toInt.toNat))).2.1 232 a1.toInt.toNat)] (xo_push (.int 60)) rfl rfl ?_
  refine g_brP rfl rfl ⟨fun hc => ?_, fun hc => ?_⟩
  · replace h := h.1 ((i_le (x := (sa s 232 a1.toInt.toNat ((s.1 65) - (s.2.1 231 a1.toInt.toNat))).2.1 232 a1.toInt.toNat) (y := 60) rfl (show (60 : Int32).toInt = 60 by decide)).mp hc)
    exact k_204_141  h
  · replace h := h.2 (fun q => hc ((i_le (x := (sa s 232 a1.toInt.toNat ((s.1 65) - (s.2.1 231 a1.toInt.toNat))).2.1 232 a1.toInt.toNat) (y := 60) rfl (show (60 : Int32).toInt = 60 by decide)).mpr q))
    refine g_ld rfl rfl rfl ?_
    refine g_c [.int 9, .ref 213] (xo_push (.int 9)) rfl rfl ?_
    refine g_ld rfl rfl rfl ?_
    refine g_get rfl rfl ?_
    change Go _ _ _ _ _ _ [.ref 222, .int 9, .ref 213] _ _
    refine g_ld rfl rfl rfl ?_
    refine g_ial rfl rfl (i_in (x := a1) rfl h.1) ?_
    change Go _ _ _ _ _ _ [.int ((sa s 232 a1.toInt.toNat ((s.1 65) - (s.2.1 231 a1.toInt.toNat))).2.1 222 a1.toInt.toNat), .int 9, .ref 213] _ _
    replace h := h.2
    refine g_call [.ref 213, .int 9, .int ((sa s 232 a1.toInt.toNat ((s.1 65) - (s.2.1 231 a1.toInt.toNat))).2.1 222 a1.toInt.toNat)] [] rfl rfl rfl (Tot.imp h (fun v4 s3 h => ?_))
    obtain ⟨rfl, h⟩ := h
    change Go _ _ _ _ _ _ [] _ _
    exact k_204_141  h
def w_204_102 (T : Nat → List Value → yS → (Option Value → yS → Prop) → Prop) (R102 : Int32 → Int32 → Int32 → Int32 → Int32 → yS → Prop) (a1 : Int32) (a2 : Int32) (a3 : Int32) (a4 : Int32) (a5 : Int32) (s : yS) (P : Option Value → yS → Prop) : Prop :=
  (a5.toInt < 0 → w_204_117 T  a1 a2 a3 a4 a5  s P) ∧ (¬ (a5.toInt < 0) → (¬ ((s.1 8).toInt = 0) → w_204_117 T  a1 a2 a3 a4 a5  s P) ∧ ((s.1 8).toInt = 0 → T 204 [.ref 213, .int a5, .int a2] s (fun v2 s1 => v2 = none ∧ ((0 ≤ a5.toInt ∧ a5.toInt < 12006) ∧ (R102 a1 a2 a3 a4 (s1.2.1 225 a5.toInt.toNat)  s1)))))
set_option maxRecDepth 20000 in
theorem k_204_102 {d : Nat} {R102 : Int32 → Int32 → Int32 → Int32 → Int32 → yS → Prop} {a1 : Int32} {a2 : Int32} {a3 : Int32} {a4 : Int32} {a5 : Int32} {s : yS} {P : Option Value → yS → Prop} (r102 : ∀ a1 a2 a3 a4 a5 s, R102 a1 a2 a3 a4 a5 s → Go d 6 (none) xE_204 (xE_204.drop 102) [.ref 213, .int a1, .int a2, .int a3, .int a4, .int a5, .null, .null, .null] [] s P) (h : w_204_102 (Tot d) R102 a1 a2 a3 a4 a5 s P) : Go d 6 (none) xE_204 (xE_204.drop 102) [.ref 213, .int a1, .int a2, .int a3, .int a4, .int a5, .null, .null, .null] [] s P := by
  unfold w_204_102 at h
  refine g_ld rfl rfl rfl ?_
  refine g_brP rfl rfl ⟨fun hc => ?_, fun hc => ?_⟩
  · replace h := h.1 ((i_lt (x := a5) (y := 0) rfl (show (0 : Int32).toInt = 0 by decide)).mp hc)
    exact k_204_117  h
  · replace h := h.2 (fun q => hc ((i_lt (x := a5) (y := 0) rfl (show (0 : Int32).toInt = 0 by decide)).mpr q))
    refine g_ld rfl rfl rfl ?_
    refine g_get rfl rfl ?_
    change Go _ _ _ _ _ _ [.int (s.1 8)] _ _
    refine g_brN rfl rfl ⟨fun hc => ?_, fun hc => ?_⟩
    · replace h := h.1 (fun q => hc ((i_eq (x := s.1 8) (y := 0) rfl (show (0 : Int32).toInt = 0 by decide)).mpr q))
      exact k_204_117  h
    · replace h := h.2 ((i_eq (x := s.1 8) (y := 0) rfl (show (0 : Int32).toInt = 0 by decide)).mp hc)
      refine g_ld rfl rfl rfl ?_
      refine g_ld rfl rfl rfl ?_
      refine g_ld rfl rfl rfl ?_
      refine g_call [.ref 213, .int a5, .int a2] [] rfl rfl rfl (Tot.imp h (fun v2 s1 h => ?_))
      obtain ⟨rfl, h⟩ := h
      change Go _ _ _ _ _ _ [] _ _
      refine g_ld rfl rfl rfl ?_
      refine g_get rfl rfl ?_
      change Go _ _ _ _ _ _ [.ref 225] _ _
      refine g_ld rfl rfl rfl ?_
      refine g_ial rfl rfl (i_in (x := a5) rfl h.1) ?_
      change Go _ _ _ _ _ _ [.int (s1.2.1 225 a5.toInt.toNat)] _ _
      replace h := h.2
      refine g_st [.ref 213, .int a1, .int a2, .int a3, .int a4, .int (s1.2.1 225 a5.toInt.toNat), .null, .null, .null] rfl rfl rfl ?_
      refine g_go rfl ?_
      exact r102 a1 a2 a3 a4 (s1.2.1 225 a5.toInt.toNat)  s1 h
def wl_204_102 (T : Nat → List Value → yS → (Option Value → yS → Prop) → Prop)  (a1 : Int32) (a2 : Int32) (a3 : Int32) (a4 : Int32) (a5 : Int32) (s : yS) (P : Option Value → yS → Prop) : Prop :=
  ∃ (I : Int32 → Int32 → Int32 → Int32 → Int32 → yS → Prop) (μ : Int32 → Int32 → Int32 → Int32 → Int32 → yS → Nat), I a1 a2 a3 a4 a5 s ∧ ∀ (a1 : Int32) (a2 : Int32) (a3 : Int32) (a4 : Int32) (a5 : Int32) (s : yS), I a1 a2 a3 a4 a5 s → w_204_102 T (fun a1' a2' a3' a4' a5' s' => I a1' a2' a3' a4' a5' s' ∧ μ a1' a2' a3' a4' a5' s' < μ a1 a2 a3 a4 a5 s) a1 a2 a3 a4 a5 s P
theorem kl_204_102 {d : Nat}  {a1 : Int32} {a2 : Int32} {a3 : Int32} {a4 : Int32} {a5 : Int32} {s : yS} {P : Option Value → yS → Prop}  (h : wl_204_102 (Tot d)  a1 a2 a3 a4 a5 s P) : Go d 6 (none) xE_204 (xE_204.drop 102) [.ref 213, .int a1, .int a2, .int a3, .int a4, .int a5, .null, .null, .null] [] s P := by
  obtain ⟨I, μ, h0, h1⟩ := h
  have key : ∀ (n : Nat) (a1 : Int32) (a2 : Int32) (a3 : Int32) (a4 : Int32) (a5 : Int32) (s : yS), μ a1 a2 a3 a4 a5 s = n → I a1 a2 a3 a4 a5 s → Go d 6 (none) xE_204 (xE_204.drop 102) [.ref 213, .int a1, .int a2, .int a3, .int a4, .int a5, .null, .null, .null] [] s P := by
    intro n
    induction n using Nat.strongRecOn with
    | ind n ih =>
      intro a1 a2 a3 a4 a5 s e hI
      exact k_204_102 (fun a1' a2' a3' a4' a5' s' q => ih _ (by rw [← e]; exact q.2) _ _ _ _ _ _ rfl q.1) (h1 a1 a2 a3 a4 a5 s hI)
  exact key _ a1 a2 a3 a4 a5 s rfl h0
def w_204_68 (T : Nat → List Value → yS → (Option Value → yS → Prop) → Prop)  (a1 : Int32) (a2 : Int32) (a3 : Int32) (a4 : Int32) (s : yS) (P : Option Value → yS → Prop) : Prop :=
  ((s.1 8).toInt ≤ 0 → (0 ≤ a1.toInt ∧ a1.toInt < 12006) ∧ (∀ s1, s1 = sa s 231 a1.toInt.toNat (s.1 65) → (-2147483648 ≤ 8 * a4.toInt ∧ 8 * a4.toInt ≤ 2147483647) ∧ (∀ x2 : Int32, x2.toInt = 8 * a4.toInt → (0 ≤ a1.toInt ∧ a1.toInt < 12006) ∧ ((-2147483648 ≤ x2.toInt + (s1.2.1 226 a1.toInt.toNat).toInt ∧ x2.toInt + (s1.2.1 226 a1.toInt.toNat).toInt ≤ 2147483647) ∧ (∀ x3 : Int32, x3.toInt = x2.toInt + (s1.2.1 226 a1.toInt.toNat).toInt → (0 ≤ (s1.1 65).toInt ∧ (s1.1 65).toInt < 200000) ∧ (∀ s4, s4 = sa s1 264 (s1.1 65).toInt.toNat x3 → (-2147483648 ≤ (s4.1 65).toInt + 1 ∧ (s4.1 65).toInt + 1 ≤ 2147483647) ∧ (∀ x5 : Int32, x5.toInt = (s4.1 65).toInt + 1 → ∀ s6, s6 = sf s4 65 x5 → (0 ≤ a1.toInt ∧ a1.toInt < 12006) ∧ (wl_204_102 T  a1 a2 a3 a4 (s6.2.1 224 a1.toInt.toNat)  s6 P)))))))) ∧ (¬ ((s.1 8).toInt ≤ 0) → P none s)
set_option maxRecDepth 20000 in
theorem k_204_68 {d : Nat}  {a1 : Int32} {a2 : Int32} {a3 : Int32} {a4 : Int32} {s : yS} {P : Option Value → yS → Prop}  (h : w_204_68 (Tot d)  a1 a2 a3 a4 s P) : Go d 6 (none) xE_204 (xE_204.drop 68) [.ref 213, .int a1, .int a2, .int a3, .int a4, .null, .null, .null, .null] [] s P := by
  unfold w_204_68 at h
  refine g_ld rfl rfl rfl ?_
  refine g_get rfl rfl ?_
  change Go _ _ _ _ _ _ [.int (s.1 8)] _ _
  refine g_brP rfl rfl ⟨fun hc => ?_, fun hc => ?_⟩
  · replace h := h.1 ((i_le (x := s.1 8) (y := 0) rfl (show (0 : Int32).toInt = 0 by decide)).mp hc)
    refine g_ld rfl rfl rfl ?_
    refine g_get rfl rfl ?_
    change Go _ _ _ _ _ _ [.ref 231] _ _
    refine g_ld rfl rfl rfl ?_
    refine g_ld rfl rfl rfl ?_
    refine g_get rfl rfl ?_
    change Go _ _ _ _ _ _ [.int (s.1 65), .int a1, .ref 231] _ _
    refine g_ias rfl rfl (i_in (x := a1) rfl h.1) ?_
    replace h := h.2
    replace h := h _ rfl
    refine g_ld rfl rfl rfl ?_
    refine g_get rfl rfl ?_
    change Go _ _ _ _ _ _ [.ref 264] _ _
    refine g_ld rfl rfl rfl ?_
    refine g_get rfl rfl ?_
    change Go _ _ _ _ _ _ [.int ((sa s 231 a1.toInt.toNat (s.1 65)).1 65), .ref 264] _ _
    refine g_c [.int 8, .int ((sa s 231 a1.toInt.toNat (s.1 65)).1 65), .ref 264] (xo_push (.int 8)) rfl rfl ?_
    refine g_ld rfl rfl rfl ?_
    have ex2 := i_mul (x := 8) (y := a4) (show (8 : Int32).toInt = 8 by decide) rfl h.1
    have cx2 := ck_mul (x := 8) (y := a4) (show (8 : Int32).toInt = 8 by decide) rfl h.1
    replace h := h.2 _ ex2
    refine g_ca [.int (8 * a4), .int ((sa s 231 a1.toInt.toNat (s.1 65)).1 65), .ref 264] xo_imul rfl rfl (fun _ => cx2) ?_
    refine g_ld rfl rfl rfl ?_
    refine g_get rfl rfl ?_
    change Go _ _ _ _ _ _ [.ref 226, .int (8 * a4), .int ((sa s 231 a1.toInt.toNat (s.1 65)).1 65), .ref 264] _ _
    refine g_ld rfl rfl rfl ?_
    refine g_ial rfl rfl (i_in (x := a1) rfl h.1) ?_
    change Go _ _ _ _ _ _ [.int ((sa s 231 a1.toInt.toNat (s.1 65)).2.1 226 a1.toInt.toNat), .int (8 * a4), .int ((sa s 231 a1.toInt.toNat (s.1 65)).1 65), .ref 264] _ _
    replace h := h.2
    have ex3 := i_add (x := (8 * a4)) (y := (sa s 231 a1.toInt.toNat (s.1 65)).2.1 226 a1.toInt.toNat) rfl rfl h.1
    have cx3 := ck_add (x := (8 * a4)) (y := (sa s 231 a1.toInt.toNat (s.1 65)).2.1 226 a1.toInt.toNat) rfl rfl h.1
    replace h := h.2 _ ex3
    refine g_ca [.int ((8 * a4) + ((sa s 231 a1.toInt.toNat (s.1 65)).2.1 226 a1.toInt.toNat)), .int ((sa s 231 a1.toInt.toNat (s.1 65)).1 65), .ref 264] xo_iadd rfl rfl (fun _ => cx3) ?_
    refine g_ias rfl rfl (i_in (x := (sa s 231 a1.toInt.toNat (s.1 65)).1 65) rfl h.1) ?_
    replace h := h.2
    replace h := h _ rfl
    refine g_ld rfl rfl rfl ?_
    refine g_c [.ref 213, .ref 213] xo_dup rfl rfl ?_
    refine g_get rfl rfl ?_
    change Go _ _ _ _ _ _ [.int ((sa (sa s 231 a1.toInt.toNat (s.1 65)) 264 ((sa s 231 a1.toInt.toNat (s.1 65)).1 65).toInt.toNat ((8 * a4) + ((sa s 231 a1.toInt.toNat (s.1 65)).2.1 226 a1.toInt.toNat))).1 65), .ref 213] _ _
    refine g_c [.int 1, .int ((sa (sa s 231 a1.toInt.toNat (s.1 65)) 264 ((sa s 231 a1.toInt.toNat (s.1 65)).1 65).toInt.toNat ((8 * a4) + ((sa s 231 a1.toInt.toNat (s.1 65)).2.1 226 a1.toInt.toNat))).1 65), .ref 213] (xo_push (.int 1)) rfl rfl ?_
    have ex5 := i_add (x := (sa (sa s 231 a1.toInt.toNat (s.1 65)) 264 ((sa s 231 a1.toInt.toNat (s.1 65)).1 65).toInt.toNat ((8 * a4) + ((sa s 231 a1.toInt.toNat (s.1 65)).2.1 226 a1.toInt.toNat))).1 65) (y := 1) rfl (show (1 : Int32).toInt = 1 by decide) h.1
    have cx5 := ck_add (x := (sa (sa s 231 a1.toInt.toNat (s.1 65)) 264 ((sa s 231 a1.toInt.toNat (s.1 65)).1 65).toInt.toNat ((8 * a4) + ((sa s 231 a1.toInt.toNat (s.1 65)).2.1 226 a1.toInt.toNat))).1 65) (y := 1) rfl (show (1 : Int32).toInt = 1 by decide) h.1
    replace h := h.2 _ ex5
    refine g_ca [.int (((sa (sa s 231 a1.toInt.toNat (s.1 65)) 264 ((sa s 231 a1.toInt.toNat (s.1 65)).1 65).toInt.toNat ((8 * a4) + ((sa s 231 a1.toInt.toNat (s.1 65)).2.1 226 a1.toInt.toNat))).1 65) + 1), .ref 213] xo_iadd rfl rfl (fun _ => cx5) ?_
    refine g_put rfl rfl rfl ?_
    replace h := h _ rfl
    refine g_ld rfl rfl rfl ?_
    refine g_get rfl rfl ?_
    change Go _ _ _ _ _ _ [.ref 224] _ _
    refine g_ld rfl rfl rfl ?_
    refine g_ial rfl rfl (i_in (x := a1) rfl h.1) ?_
    change Go _ _ _ _ _ _ [.int ((sf (sa (sa s 231 a1.toInt.toNat (s.1 65)) 264 ((sa s 231 a1.toInt.toNat (s.1 65)).1 65).toInt.toNat ((8 * a4) + ((sa s 231 a1.toInt.toNat (s.1 65)).2.1 226 a1.toInt.toNat))) 65 (((sa (sa s 231 a1.toInt.toNat (s.1 65)) 264 ((sa s 231 a1.toInt.toNat (s.1 65)).1 65).toInt.toNat ((8 * a4) + ((sa s 231 a1.toInt.toNat (s.1 65)).2.1 226 a1.toInt.toNat))).1 65) + 1)).2.1 224 a1.toInt.toNat)] _ _
    replace h := h.2
    refine g_st [.ref 213, .int a1, .int a2, .int a3, .int a4, .int ((sf (sa (sa s 231 a1.toInt.toNat (s.1 65)) 264 ((sa s 231 a1.toInt.toNat (s.1 65)).1 65).toInt.toNat ((8 * a4) + ((sa s 231 a1.toInt.toNat (s.1 65)).2.1 226 a1.toInt.toNat))) 65 (((sa (sa s 231 a1.toInt.toNat (s.1 65)) 264 ((sa s 231 a1.toInt.toNat (s.1 65)).1 65).toInt.toNat ((8 * a4) + ((sa s 231 a1.toInt.toNat (s.1 65)).2.1 226 a1.toInt.toNat))).1 65) + 1)).2.1 224 a1.toInt.toNat), .null, .null, .null] rfl rfl rfl ?_
    exact kl_204_102  h
  · replace h := h.2 (fun q => hc ((i_le (x := s.1 8) (y := 0) rfl (show (0 : Int32).toInt = 0 by decide)).mpr q))
    exact g_ret0 rfl h
def w_204_60 (T : Nat → List Value → yS → (Option Value → yS → Prop) → Prop)  (a1 : Int32) (a2 : Int32) (a3 : Int32) (a4 : Int32) (t0 : Int32) (t1 : Int32) (s : yS) (P : Option Value → yS → Prop) : Prop :=
  (t0.toInt = t1.toInt → w_204_68 T  a1 a2 a3 a4  s P) ∧ (¬ (t0.toInt = t1.toInt) → (0 ≤ a1.toInt ∧ a1.toInt < 12006) ∧ (T 163 [.ref 213, .int 4, .int (s.2.1 222 a1.toInt.toNat)] s (fun v2 s1 => v2 = none ∧ (w_204_68 T  a1 a2 a3 a4  s1 P))))
set_option maxRecDepth 20000 in
theorem k_204_60 {d : Nat}  {a1 : Int32} {a2 : Int32} {a3 : Int32} {a4 : Int32} {t0 : Int32} {t1 : Int32} {s : yS} {P : Option Value → yS → Prop}  (h : w_204_60 (Tot d)  a1 a2 a3 a4 t0 t1 s P) : Go d 6 (none) xE_204 (xE_204.drop 60) [.ref 213, .int a1, .int a2, .int a3, .int a4, .null, .null, .null, .null] [.int t1, .int t0] s P := by
  unfold w_204_60 at h
  refine g_brP rfl rfl ⟨fun hc => ?_, fun hc => ?_⟩
  · replace h := h.1 ((i_eq (x := t0) (y := t1) rfl rfl).mp hc)
    exact k_204_68  h
  · replace h := h.2 (fun q => hc ((i_eq (x := t0) (y := t1) rfl rfl).mpr q))
    refine g_ld rfl rfl rfl ?_
    refine g_c [.int 4, .ref 213] (xo_push (.int 4)) rfl rfl ?_
    refine g_ld rfl rfl rfl ?_
    refine g_get rfl rfl ?_
    change Go _ _ _ _ _ _ [.ref 222, .int 4, .ref 213] _ _
    refine g_ld rfl rfl rfl ?_
    refine g_ial rfl rfl (i_in (x := a1) rfl h.1) ?_
    change Go _ _ _ _ _ _ [.int (s.2.1 222 a1.toInt.toNat), .int 4, .ref 213] _ _
    replace h := h.2
    refine g_call [.ref 213, .int 4, .int (s.2.1 222 a1.toInt.toNat)] [] rfl rfl rfl (Tot.imp h (fun v2 s1 h => ?_))
    obtain ⟨rfl, h⟩ := h
    change Go _ _ _ _ _ _ [] _ _
    exact k_204_68  h
def w_204_31 (T : Nat → List Value → yS → (Option Value → yS → Prop) → Prop)  (a1 : Int32) (a2 : Int32) (a3 : Int32) (t0 : Int32) (s : yS) (P : Option Value → yS → Prop) : Prop :=
  (0 ≤ t0.toInt → (0 ≤ a1.toInt ∧ a1.toInt < 12006) ∧ ((t0.toInt < 1000 → (-2147483648 ≤ 24 * (s.1 75).toInt ∧ 24 * (s.1 75).toInt ≤ 2147483647) ∧ (∀ x1 : Int32, x1.toInt = 24 * (s.1 75).toInt → (-2147483648 ≤ x1.toInt + t0.toInt ∧ x1.toInt + t0.toInt ≤ 2147483647) ∧ (∀ x2 : Int32, x2.toInt = x1.toInt + t0.toInt → (0 ≤ x2.toInt ∧ x2.toInt < 48) ∧ (w_204_60 T  a1 a2 a3 t0 (s.2.1 226 a1.toInt.toNat) (s.2.1 236 x2.toInt.toNat) s P)))) ∧ (¬ (t0.toInt < 1000) → w_204_60 T  a1 a2 a3 t0 (s.2.1 226 a1.toInt.toNat) 0 s P))) ∧ (¬ (0 ≤ t0.toInt) → (0 ≤ a1.toInt ∧ a1.toInt < 12006) ∧ (T 163 [.ref 213, .int 2, .int (s.2.1 222 a1.toInt.toNat)] s (fun v4 s3 => v4 = none ∧ (w_204_68 T  a1 a2 a3 t0  s3 P))))
set_option maxRecDepth 20000 in
theorem k_204_31 {d : Nat}  {a1 : Int32} {a2 : Int32} {a3 : Int32} {t0 : Int32} {s : yS} {P : Option Value → yS → Prop}  (h : w_204_31 (Tot d)  a1 a2 a3 t0 s P) : Go d 6 (none) xE_204 (xE_204.drop 31) [.ref 213, .int a1, .int a2, .int a3, .null, .null, .null, .null, .null] [.int t0] s P := by
  unfold w_204_31 at h
  refine g_st [.ref 213, .int a1, .int a2, .int a3, .int t0, .null, .null, .null, .null] rfl rfl rfl ?_
  refine g_ld rfl rfl rfl ?_
  refine g_brP rfl rfl ⟨fun hc => ?_, fun hc => ?_⟩
  · replace h := h.1 ((i_le (x := 0) (y := t0) (show (0 : Int32).toInt = 0 by decide) rfl).mp hc)
    refine g_ld rfl rfl rfl ?_
    refine g_get rfl rfl ?_
    change Go _ _ _ _ _ _ [.ref 226] _ _
    refine g_ld rfl rfl rfl ?_
    refine g_ial rfl rfl (i_in (x := a1) rfl h.1) ?_
    change Go _ _ _ _ _ _ [.int (s.2.1 226 a1.toInt.toNat)] _ _
    replace h := h.2
    refine g_ld rfl rfl rfl ?_
    refine g_c [.int 1000, .int t0, .int (s.2.1 226 a1.toInt.toNat)] (xo_push (.int 1000)) rfl rfl ?_
    refine g_brP rfl rfl ⟨fun hc => ?_, fun hc => ?_⟩
    · replace h := h.1 ((i_lt (x := t0) (y := 1000) rfl (show (1000 : Int32).toInt = 1000 by decide)).mp hc)
      refine g_ld rfl rfl rfl ?_
      refine g_get rfl rfl ?_
      change Go _ _ _ _ _ _ [.ref 236, .int (s.2.1 226 a1.toInt.toNat)] _ _
      refine g_c [.int 24, .ref 236, .int (s.2.1 226 a1.toInt.toNat)] (xo_push (.int 24)) rfl rfl ?_
      refine g_ld rfl rfl rfl ?_
      refine g_get rfl rfl ?_
      change Go _ _ _ _ _ _ [.int (s.1 75), .int 24, .ref 236, .int (s.2.1 226 a1.toInt.toNat)] _ _
      have ex1 := i_mul (x := 24) (y := s.1 75) (show (24 : Int32).toInt = 24 by decide) rfl h.1
      have cx1 := ck_mul (x := 24) (y := s.1 75) (show (24 : Int32).toInt = 24 by decide) rfl h.1
      replace h := h.2 _ ex1
      refine g_ca [.int (24 * (s.1 75)), .ref 236, .int (s.2.1 226 a1.toInt.toNat)] xo_imul rfl rfl (fun _ => cx1) ?_
      refine g_ld rfl rfl rfl ?_
      have ex2 := i_add (x := (24 * (s.1 75))) (y := t0) rfl rfl h.1
      have cx2 := ck_add (x := (24 * (s.1 75))) (y := t0) rfl rfl h.1
      replace h := h.2 _ ex2
      refine g_ca [.int ((24 * (s.1 75)) + t0), .ref 236, .int (s.2.1 226 a1.toInt.toNat)] xo_iadd rfl rfl (fun _ => cx2) ?_
      refine g_ial rfl rfl (i_in (x := ((24 * (s.1 75)) + t0)) rfl h.1) ?_
      change Go _ _ _ _ _ _ [.int (s.2.1 236 ((24 * (s.1 75)) + t0).toInt.toNat), .int (s.2.1 226 a1.toInt.toNat)] _ _
      replace h := h.2
      exact k_204_60  h
    · replace h := h.2 (fun q => hc ((i_lt (x := t0) (y := 1000) rfl (show (1000 : Int32).toInt = 1000 by decide)).mpr q))
      refine g_c [.int 0, .int (s.2.1 226 a1.toInt.toNat)] (xo_push (.int 0)) rfl rfl ?_
      refine g_go rfl ?_
      exact k_204_60  h
  · replace h := h.2 (fun q => hc ((i_le (x := 0) (y := t0) (show (0 : Int32).toInt = 0 by decide) rfl).mpr q))
    refine g_ld rfl rfl rfl ?_
    refine g_c [.int 2, .ref 213] (xo_push (.int 2)) rfl rfl ?_
    refine g_ld rfl rfl rfl ?_
    refine g_get rfl rfl ?_
    change Go _ _ _ _ _ _ [.ref 222, .int 2, .ref 213] _ _
    refine g_ld rfl rfl rfl ?_
    refine g_ial rfl rfl (i_in (x := a1) rfl h.1) ?_
    change Go _ _ _ _ _ _ [.int (s.2.1 222 a1.toInt.toNat), .int 2, .ref 213] _ _
    replace h := h.2
    refine g_call [.ref 213, .int 2, .int (s.2.1 222 a1.toInt.toNat)] [] rfl rfl rfl (Tot.imp h (fun v4 s3 h => ?_))
    obtain ⟨rfl, h⟩ := h
    change Go _ _ _ _ _ _ [] _ _
    refine g_go rfl ?_
    exact k_204_68  h
def w_204_23 (T : Nat → List Value → yS → (Option Value → yS → Prop) → Prop)  (a1 : Int32) (a2 : Int32) (t0 : Int32) (s : yS) (P : Option Value → yS → Prop) : Prop :=
  (0 ≤ t0.toInt → T 203 [.ref 213, .int t0] s (fun v2 s1 => ∃ x3, v2 = some (.int x3) ∧ (w_204_31 T  a1 a2 t0 x3 s1 P))) ∧ (¬ (0 ≤ t0.toInt) → w_204_31 T  a1 a2 t0 (-1) s P)
set_option maxRecDepth 20000 in
theorem k_204_23 {d : Nat}  {a1 : Int32} {a2 : Int32} {t0 : Int32} {s : yS} {P : Option Value → yS → Prop}  (h : w_204_23 (Tot d)  a1 a2 t0 s P) : Go d 6 (none) xE_204 (xE_204.drop 23) [.ref 213, .int a1, .int a2, .null, .null, .null, .null, .null, .null] [.int t0] s P := by
  unfold w_204_23 at h
  refine g_st [.ref 213, .int a1, .int a2, .int t0, .null, .null, .null, .null, .null] rfl rfl rfl ?_
  refine g_ld rfl rfl rfl ?_
  refine g_brP rfl rfl ⟨fun hc => ?_, fun hc => ?_⟩
  · replace h := h.1 ((i_le (x := 0) (y := t0) (show (0 : Int32).toInt = 0 by decide) rfl).mp hc)
    refine g_ld rfl rfl rfl ?_
    refine g_ld rfl rfl rfl ?_
    refine g_call [.ref 213, .int t0] [] rfl rfl rfl (Tot.imp h (fun v2 s1 h => ?_))
    obtain ⟨x3, rfl, h⟩ := h
    change Go _ _ _ _ _ _ [.int x3] _ _
    exact k_204_31  h
  · replace h := h.2 (fun q => hc ((i_le (x := 0) (y := t0) (show (0 : Int32).toInt = 0 by decide) rfl).mpr q))
    refine g_c [.int (-1)] (xo_push (.int (-1))) rfl rfl ?_
    refine g_go rfl ?_
    exact k_204_31  h
def w_204_0 (T : Nat → List Value → yS → (Option Value → yS → Prop) → Prop)  (a1 : Int32) (a2 : Int32) (s : yS) (P : Option Value → yS → Prop) : Prop :=
  ((s.1 8).toInt ≤ 0 → (a2.toInt = 0 → (0 ≤ a1.toInt ∧ a1.toInt < 12006) ∧ ((0 ≤ (s.2.1 222 a1.toInt.toNat).toInt ∧ (s.2.1 222 a1.toInt.toNat).toInt < 12006) ∧ (w_204_23 T  a1 a2 (s.2.1 217 (s.2.1 222 a1.toInt.toNat).toInt.toNat) s P))) ∧ (¬ (a2.toInt = 0) → (0 ≤ a1.toInt ∧ a1.toInt < 12006) ∧ ((0 ≤ (s.2.1 222 a1.toInt.toNat).toInt ∧ (s.2.1 222 a1.toInt.toNat).toInt < 12006) ∧ (T 205 [.ref 213, .int (s.2.1 217 (s.2.1 222 a1.toInt.toNat).toInt.toNat)] s (fun v2 s1 => ∃ x3, v2 = some (.int x3) ∧ (w_204_23 T  a1 a2 x3 s1 P)))))) ∧ (¬ ((s.1 8).toInt ≤ 0) → P none s)
set_option maxRecDepth 20000 in
theorem k_204_0 {d : Nat}  {a1 : Int32} {a2 : Int32} {s : yS} {P : Option Value → yS → Prop}  (h : w_204_0 (Tot d)  a1 a2 s P) : Go d 6 (none) xE_204 (xE_204.drop 0) [.ref 213, .int a1, .int a2, .null, .null, .null, .null, .null, .null] [] s P := by
  unfold w_204_0 at h
  refine g_ld rfl rfl rfl ?_
  refine g_get rfl rfl ?_
  change Go _ _ _ _ _ _ [.int (s.1 8)] _ _
  refine g_brP rfl rfl ⟨fun hc => ?_, fun hc => ?_⟩
  · replace h := h.1 ((i_le (x := s.1 8) (y := 0) rfl (show (0 : Int32).toInt = 0 by decide)).mp hc)
    refine g_ld rfl rfl rfl ?_
    refine g_brP rfl rfl ⟨fun hc => ?_, fun hc => ?_⟩
    · replace h := h.1 ((i_eq (x := a2) (y := 0) rfl (show (0 : Int32).toInt = 0 by decide)).mp hc)
      refine g_ld rfl rfl rfl ?_
      refine g_get rfl rfl ?_
      change Go _ _ _ _ _ _ [.ref 217] _ _
      refine g_ld rfl rfl rfl ?_
      refine g_get rfl rfl ?_
      change Go _ _ _ _ _ _ [.ref 222, .ref 217] _ _
      refine g_ld rfl rfl rfl ?_
      refine g_ial rfl rfl (i_in (x := a1) rfl h.1) ?_
      change Go _ _ _ _ _ _ [.int (s.2.1 222 a1.toInt.toNat), .ref 217] _ _
      replace h := h.2
      refine g_ial rfl rfl (i_in (x := s.2.1 222 a1.toInt.toNat) rfl h.1) ?_
      change Go _ _ _ _ _ _ [.int (s.2.1 217 (s.2.1 222 a1.toInt.toNat).toInt.toNat)] _ _
      replace h := h.2
      exact k_204_23  h
    · replace h := h.2 (fun q => hc ((i_eq (x := a2) (y := 0) rfl (show (0 : Int32).toInt = 0 by decide)).mpr q))
      refine g_ld rfl rfl rfl ?_
      refine g_ld rfl rfl rfl ?_
      refine g_get rfl rfl ?_
      change Go _ _ _ _ _ _ [.ref 217, .ref 213] _ _
      refine g_ld rfl rfl rfl ?_
      refine g_get rfl rfl ?_
      change Go _ _ _ _ _ _ [.ref 222, .ref 217, .ref 213] _ _
      refine g_ld rfl rfl rfl ?_
      refine g_ial rfl rfl (i_in (x := a1) rfl h.1) ?_
      change Go _ _ _ _ _ _ [.int (s.2.1 222 a1.toInt.toNat), .ref 217, .ref 213] _ _
      replace h := h.2
      refine g_ial rfl rfl (i_in (x := s.2.1 222 a1.toInt.toNat) rfl h.1) ?_
      change Go _ _ _ _ _ _ [.int (s.2.1 217 (s.2.1 222 a1.toInt.toNat).toInt.toNat), .ref 213] _ _
      replace h := h.2
      refine g_call [.ref 213, .int (s.2.1 217 (s.2.1 222 a1.toInt.toNat).toInt.toNat)] [] rfl rfl rfl (Tot.imp h (fun v2 s1 h => ?_))
      obtain ⟨x3, rfl, h⟩ := h
      change Go _ _ _ _ _ _ [.int x3] _ _
      refine g_go rfl ?_
      exact k_204_23  h
  · replace h := h.2 (fun q => hc ((i_le (x := s.1 8) (y := 0) rfl (show (0 : Int32).toInt = 0 by decide)).mpr q))
    exact g_ret0 rfl h
theorem t_204 {d : Nat} {a1 : Int32} {a2 : Int32} {s : yS} {P : Option Value → yS → Prop} (h : w_204_0 (Tot d) a1 a2 s P) : Tot (d + 1) 204 [.ref 213, .int a1, .int a2] s P := tot_of (E := xE_204) (ml := 6) (ret := none) rfl rfl rfl (k_204_0 h)
/-! wordNow -/
def w_205_48 (T : Nat → List Value → yS → (Option Value → yS → Prop) → Prop) (R4 : Int32 → Int32 → Int32 → yS → Prop) (a1 : Int32) (a2 : Int32) (a3 : Int32) (t0 : Int32) (s : yS) (P : Option Value → yS → Prop) : Prop :=
  (-2147483648 ≤ a3.toInt + 1 ∧ a3.toInt + 1 ≤ 2147483647) ∧ (∀ x1 : Int32, x1.toInt = a3.toInt + 1 → R4 a1 t0 x1  s)
set_option maxRecDepth 20000 in
theorem k_205_48 {d : Nat} {R4 : Int32 → Int32 → Int32 → yS → Prop} {a1 : Int32} {a2 : Int32} {a3 : Int32} {t0 : Int32} {s : yS} {P : Option Value → yS → Prop} (r4 : ∀ a1 a2 a3 s, R4 a1 a2 a3 s → Go d 4 (some .int) xE_205 (xE_205.drop 4) [.ref 213, .int a1, .int a2, .int a3, .null, .null] [] s P) (h : w_205_48 (Tot d) R4 a1 a2 a3 t0 s P) : Go d 4 (some .int) xE_205 (xE_205.drop 48) [.ref 213, .int a1, .int a2, .int a3, .null, .null] [.int t0] s P := by
  unfold w_205_48 at h
  refine g_st [.ref 213, .int a1, .int t0, .int a3, .null, .null] rfl rfl rfl ?_
  have ex1 := i_add (x := a3) (y := 1) rfl (show (1 : Int32).toInt = 1 by decide) h.1
  have cx1 := ck_inc (x := a3) (n := 1) rfl h.1
  replace h := h.2 _ ex1
  refine g_inc [.ref 213, .int a1, .int t0, .int (a3 + 1), .null, .null] rfl rfl rfl rfl cx1 ?_
  refine g_go rfl ?_
  exact r4 a1 t0 (a3 + 1)  s h
def w_205_47 (T : Nat → List Value → yS → (Option Value → yS → Prop) → Prop) (R4 : Int32 → Int32 → Int32 → yS → Prop) (a1 : Int32) (a2 : Int32) (a3 : Int32) (s : yS) (P : Option Value → yS → Prop) : Prop :=
  w_205_48 T R4 a1 a2 a3 a2 s P
set_option maxRecDepth 20000 in
theorem k_205_47 {d : Nat} {R4 : Int32 → Int32 → Int32 → yS → Prop} {a1 : Int32} {a2 : Int32} {a3 : Int32} {s : yS} {P : Option Value → yS → Prop} (r4 : ∀ a1 a2 a3 s, R4 a1 a2 a3 s → Go d 4 (some .int) xE_205 (xE_205.drop 4) [.ref 213, .int a1, .int a2, .int a3, .null, .null] [] s P) (h : w_205_47 (Tot d) R4 a1 a2 a3 s P) : Go d 4 (some .int) xE_205 (xE_205.drop 47) [.ref 213, .int a1, .int a2, .int a3, .null, .null] [] s P := by
  unfold w_205_47 at h
  refine g_ld rfl rfl rfl ?_
  exact k_205_48 r4 h
def w_205_4 (T : Nat → List Value → yS → (Option Value → yS → Prop) → Prop) (R4 : Int32 → Int32 → Int32 → yS → Prop) (a1 : Int32) (a2 : Int32) (a3 : Int32) (s : yS) (P : Option Value → yS → Prop) : Prop :=
  (0 ≤ (s.1 29).toInt ∧ (s.1 29).toInt < 3) ∧ (((s.2.1 220 (s.1 29).toInt.toNat).toInt ≤ a3.toInt → P (some (.int a2)) s) ∧ (¬ ((s.2.1 220 (s.1 29).toInt.toNat).toInt ≤ a3.toInt) → (-2147483648 ≤ 2100 * (s.1 29).toInt ∧ 2100 * (s.1 29).toInt ≤ 2147483647) ∧ (∀ x1 : Int32, x1.toInt = 2100 * (s.1 29).toInt → (-2147483648 ≤ x1.toInt + a3.toInt ∧ x1.toInt + a3.toInt ≤ 2147483647) ∧ (∀ x2 : Int32, x2.toInt = x1.toInt + a3.toInt → (0 ≤ x2.toInt ∧ x2.toInt < 6300) ∧ ((-2147483648 ≤ 4200 + a1.toInt ∧ 4200 + a1.toInt ≤ 2147483647) ∧ (∀ x3 : Int32, x3.toInt = 4200 + a1.toInt → (0 ≤ x3.toInt ∧ x3.toInt < 6300) ∧ ((¬ ((lg_cmp (s.2.2 218 x2.toInt.toNat) (s.2.2 218 x3.toInt.toNat)).toInt = 0) → w_205_47 T R4 a1 a2 a3  s P) ∧ ((lg_cmp (s.2.2 218 x2.toInt.toNat) (s.2.2 218 x3.toInt.toNat)).toInt = 0 → (-2147483648 ≤ 2100 * (s.1 29).toInt ∧ 2100 * (s.1 29).toInt ≤ 2147483647) ∧ (∀ x4 : Int32, x4.toInt = 2100 * (s.1 29).toInt → (-2147483648 ≤ x4.toInt + a3.toInt ∧ x4.toInt + a3.toInt ≤ 2147483647) ∧ (∀ x5 : Int32, x5.toInt = x4.toInt + a3.toInt → (0 ≤ x5.toInt ∧ x5.toInt < 6300) ∧ ((-2147483648 ≤ 4200 + a1.toInt ∧ 4200 + a1.toInt ≤ 2147483647) ∧ (∀ x6 : Int32, x6.toInt = 4200 + a1.toInt → (0 ≤ x6.toInt ∧ x6.toInt < 6300) ∧ ((¬ ((lg_cmp (s.2.2 219 x5.toInt.toNat) (s.2.2 219 x6.toInt.toNat)).toInt = 0) → w_205_47 T R4 a1 a2 a3  s P) ∧ ((lg_cmp (s.2.2 219 x5.toInt.toNat) (s.2.2 219 x6.toInt.toNat)).toInt = 0 → w_205_48 T R4 a1 a2 a3 a3 s P))))))))))))))
set_option maxRecDepth 20000 in
theorem k_205_4 {d : Nat} {R4 : Int32 → Int32 → Int32 → yS → Prop} {a1 : Int32} {a2 : Int32} {a3 : Int32} {s : yS} {P : Option Value → yS → Prop} (r4 : ∀ a1 a2 a3 s, R4 a1 a2 a3 s → Go d 4 (some .int) xE_205 (xE_205.drop 4) [.ref 213, .int a1, .int a2, .int a3, .null, .null] [] s P) (h : w_205_4 (Tot d) R4 a1 a2 a3 s P) : Go d 4 (some .int) xE_205 (xE_205.drop 4) [.ref 213, .int a1, .int a2, .int a3, .null, .null] [] s P := by
  unfold w_205_4 at h
  refine g_ld rfl rfl rfl ?_
  refine g_ld rfl rfl rfl ?_
  refine g_get rfl rfl ?_
  change Go _ _ _ _ _ _ [.ref 220, .int a3] _ _
  refine g_ld rfl rfl rfl ?_
  refine g_get rfl rfl ?_
  change Go _ _ _ _ _ _ [.int (s.1 29), .ref 220, .int a3] _ _
  refine g_ial rfl rfl (i_in (x := s.1 29) rfl h.1) ?_
  change Go _ _ _ _ _ _ [.int (s.2.1 220 (s.1 29).toInt.toNat), .int a3] _ _
  replace h := h.2
  refine g_brP rfl rfl ⟨fun hc => ?_, fun hc => ?_⟩
  · replace h := h.1 ((i_le (x := s.2.1 220 (s.1 29).toInt.toNat) (y := a3) rfl rfl).mp hc)
    refine g_ld rfl rfl rfl ?_
    exact g_retI rfl h
  · replace h := h.2 (fun q => hc ((i_le (x := s.2.1 220 (s.1 29).toInt.toNat) (y := a3) rfl rfl).mpr q))
    refine g_ld rfl rfl rfl ?_
    refine g_get rfl rfl ?_
    change Go _ _ _ _ _ _ [.ref 218] _ _
    refine g_c [.int 2100, .ref 218] (xo_push (.int 2100)) rfl rfl ?_
    refine g_ld rfl rfl rfl ?_
    refine g_get rfl rfl ?_
    change Go _ _ _ _ _ _ [.int (s.1 29), .int 2100, .ref 218] _ _
    have ex1 := i_mul (x := 2100) (y := s.1 29) (show (2100 : Int32).toInt = 2100 by decide) rfl h.1
    have cx1 := ck_mul (x := 2100) (y := s.1 29) (show (2100 : Int32).toInt = 2100 by decide) rfl h.1
    replace h := h.2 _ ex1
    refine g_ca [.int (2100 * (s.1 29)), .ref 218] xo_imul rfl rfl (fun _ => cx1) ?_
    refine g_ld rfl rfl rfl ?_
    have ex2 := i_add (x := (2100 * (s.1 29))) (y := a3) rfl rfl h.1
    have cx2 := ck_add (x := (2100 * (s.1 29))) (y := a3) rfl rfl h.1
    replace h := h.2 _ ex2
    refine g_ca [.int ((2100 * (s.1 29)) + a3), .ref 218] xo_iadd rfl rfl (fun _ => cx2) ?_
    refine g_lal rfl rfl (i_in (x := ((2100 * (s.1 29)) + a3)) rfl h.1) ?_
    change Go _ _ _ _ _ _ [.long (s.2.2 218 ((2100 * (s.1 29)) + a3).toInt.toNat)] _ _
    replace h := h.2
    refine g_ld rfl rfl rfl ?_
    refine g_get rfl rfl ?_
    change Go _ _ _ _ _ _ [.ref 218, .long (s.2.2 218 ((2100 * (s.1 29)) + a3).toInt.toNat)] _ _
    refine g_c [.int 4200, .ref 218, .long (s.2.2 218 ((2100 * (s.1 29)) + a3).toInt.toNat)] (xo_push (.int 4200)) rfl rfl ?_
    refine g_ld rfl rfl rfl ?_
    have ex3 := i_add (x := 4200) (y := a1) (show (4200 : Int32).toInt = 4200 by decide) rfl h.1
    have cx3 := ck_add (x := 4200) (y := a1) (show (4200 : Int32).toInt = 4200 by decide) rfl h.1
    replace h := h.2 _ ex3
    refine g_ca [.int (4200 + a1), .ref 218, .long (s.2.2 218 ((2100 * (s.1 29)) + a3).toInt.toNat)] xo_iadd rfl rfl (fun _ => cx3) ?_
    refine g_lal rfl rfl (i_in (x := (4200 + a1)) rfl h.1) ?_
    change Go _ _ _ _ _ _ [.long (s.2.2 218 (4200 + a1).toInt.toNat), .long (s.2.2 218 ((2100 * (s.1 29)) + a3).toInt.toNat)] _ _
    replace h := h.2
    refine g_c [.int (lg_cmp (s.2.2 218 ((2100 * (s.1 29)) + a3).toInt.toNat) (s.2.2 218 (4200 + a1).toInt.toNat))] xo_lcmp rfl rfl ?_
    refine g_brN rfl rfl ⟨fun hc => ?_, fun hc => ?_⟩
    · replace h := h.1 (fun q => hc ((i_eq (x := lg_cmp (s.2.2 218 ((2100 * (s.1 29)) + a3).toInt.toNat) (s.2.2 218 (4200 + a1).toInt.toNat)) (y := 0) rfl (show (0 : Int32).toInt = 0 by decide)).mpr q))
      exact k_205_47 r4 h
    · replace h := h.2 ((i_eq (x := lg_cmp (s.2.2 218 ((2100 * (s.1 29)) + a3).toInt.toNat) (s.2.2 218 (4200 + a1).toInt.toNat)) (y := 0) rfl (show (0 : Int32).toInt = 0 by decide)).mp hc)
      refine g_ld rfl rfl rfl ?_
      refine g_get rfl rfl ?_
      change Go _ _ _ _ _ _ [.ref 219] _ _
      refine g_c [.int 2100, .ref 219] (xo_push (.int 2100)) rfl rfl ?_
      refine g_ld rfl rfl rfl ?_
      refine g_get rfl rfl ?_
      change Go _ _ _ _ _ _ [.int (s.1 29), .int 2100, .ref 219] _ _
      have ex4 := i_mul (x := 2100) (y := s.1 29) (show (2100 : Int32).toInt = 2100 by decide) rfl h.1
      have cx4 := ck_mul (x := 2100) (y := s.1 29) (show (2100 : Int32).toInt = 2100 by decide) rfl h.1
      replace h := h.2 _ ex4
      refine g_ca [.int (2100 * (s.1 29)), .ref 219] xo_imul rfl rfl (fun _ => cx4) ?_
      refine g_ld rfl rfl rfl ?_
      have ex5 := i_add (x := (2100 * (s.1 29))) (y := a3) rfl rfl h.1
      have cx5 := ck_add (x := (2100 * (s.1 29))) (y := a3) rfl rfl h.1
      replace h := h.2 _ ex5
      refine g_ca [.int ((2100 * (s.1 29)) + a3), .ref 219] xo_iadd rfl rfl (fun _ => cx5) ?_
      refine g_lal rfl rfl (i_in (x := ((2100 * (s.1 29)) + a3)) rfl h.1) ?_
      change Go _ _ _ _ _ _ [.long (s.2.2 219 ((2100 * (s.1 29)) + a3).toInt.toNat)] _ _
      replace h := h.2
      refine g_ld rfl rfl rfl ?_
      refine g_get rfl rfl ?_
      change Go _ _ _ _ _ _ [.ref 219, .long (s.2.2 219 ((2100 * (s.1 29)) + a3).toInt.toNat)] _ _
      refine g_c [.int 4200, .ref 219, .long (s.2.2 219 ((2100 * (s.1 29)) + a3).toInt.toNat)] (xo_push (.int 4200)) rfl rfl ?_
      refine g_ld rfl rfl rfl ?_
      have ex6 := i_add (x := 4200) (y := a1) (show (4200 : Int32).toInt = 4200 by decide) rfl h.1
      have cx6 := ck_add (x := 4200) (y := a1) (show (4200 : Int32).toInt = 4200 by decide) rfl h.1
      replace h := h.2 _ ex6
      refine g_ca [.int (4200 + a1), .ref 219, .long (s.2.2 219 ((2100 * (s.1 29)) + a3).toInt.toNat)] xo_iadd rfl rfl (fun _ => cx6) ?_
      refine g_lal rfl rfl (i_in (x := (4200 + a1)) rfl h.1) ?_
      change Go _ _ _ _ _ _ [.long (s.2.2 219 (4200 + a1).toInt.toNat), .long (s.2.2 219 ((2100 * (s.1 29)) + a3).toInt.toNat)] _ _
      replace h := h.2
      refine g_c [.int (lg_cmp (s.2.2 219 ((2100 * (s.1 29)) + a3).toInt.toNat) (s.2.2 219 (4200 + a1).toInt.toNat))] xo_lcmp rfl rfl ?_
      refine g_brN rfl rfl ⟨fun hc => ?_, fun hc => ?_⟩
      · replace h := h.1 (fun q => hc ((i_eq (x := lg_cmp (s.2.2 219 ((2100 * (s.1 29)) + a3).toInt.toNat) (s.2.2 219 (4200 + a1).toInt.toNat)) (y := 0) rfl (show (0 : Int32).toInt = 0 by decide)).mpr q))
        exact k_205_47 r4 h
      · replace h := h.2 ((i_eq (x := lg_cmp (s.2.2 219 ((2100 * (s.1 29)) + a3).toInt.toNat) (s.2.2 219 (4200 + a1).toInt.toNat)) (y := 0) rfl (show (0 : Int32).toInt = 0 by decide)).mp hc)
        refine g_ld rfl rfl rfl ?_
        refine g_go rfl ?_
        exact k_205_48 r4 h
def wl_205_4 (T : Nat → List Value → yS → (Option Value → yS → Prop) → Prop)  (a1 : Int32) (a2 : Int32) (a3 : Int32) (s : yS) (P : Option Value → yS → Prop) : Prop :=
  ∃ (I : Int32 → Int32 → Int32 → yS → Prop) (μ : Int32 → Int32 → Int32 → yS → Nat), I a1 a2 a3 s ∧ ∀ (a1 : Int32) (a2 : Int32) (a3 : Int32) (s : yS), I a1 a2 a3 s → w_205_4 T (fun a1' a2' a3' s' => I a1' a2' a3' s' ∧ μ a1' a2' a3' s' < μ a1 a2 a3 s) a1 a2 a3 s P
theorem kl_205_4 {d : Nat}  {a1 : Int32} {a2 : Int32} {a3 : Int32} {s : yS} {P : Option Value → yS → Prop}  (h : wl_205_4 (Tot d)  a1 a2 a3 s P) : Go d 4 (some .int) xE_205 (xE_205.drop 4) [.ref 213, .int a1, .int a2, .int a3, .null, .null] [] s P := by
  obtain ⟨I, μ, h0, h1⟩ := h
  have key : ∀ (n : Nat) (a1 : Int32) (a2 : Int32) (a3 : Int32) (s : yS), μ a1 a2 a3 s = n → I a1 a2 a3 s → Go d 4 (some .int) xE_205 (xE_205.drop 4) [.ref 213, .int a1, .int a2, .int a3, .null, .null] [] s P := by
    intro n
    induction n using Nat.strongRecOn with
    | ind n ih =>
      intro a1 a2 a3 s e hI
      exact k_205_4 (fun a1' a2' a3' s' q => ih _ (by rw [← e]; exact q.2) _ _ _ _ rfl q.1) (h1 a1 a2 a3 s hI)
  exact key _ a1 a2 a3 s rfl h0
def w_205_0 (T : Nat → List Value → yS → (Option Value → yS → Prop) → Prop)  (a1 : Int32) (s : yS) (P : Option Value → yS → Prop) : Prop :=
  wl_205_4 T  a1 (-1) 0  s P
set_option maxRecDepth 20000 in
theorem k_205_0 {d : Nat}  {a1 : Int32} {s : yS} {P : Option Value → yS → Prop}  (h : w_205_0 (Tot d)  a1 s P) : Go d 4 (some .int) xE_205 (xE_205.drop 0) [.ref 213, .int a1, .null, .null, .null, .null] [] s P := by
  unfold w_205_0 at h
  refine g_c [.int (-1)] (xo_push (.int (-1))) rfl rfl ?_
  refine g_st [.ref 213, .int a1, .int (-1), .null, .null, .null] rfl rfl rfl ?_
  refine g_c [.int 0] (xo_push (.int 0)) rfl rfl ?_
  refine g_st [.ref 213, .int a1, .int (-1), .int 0, .null, .null] rfl rfl rfl ?_
  exact kl_205_4  h
theorem t_205 {d : Nat} {a1 : Int32} {s : yS} {P : Option Value → yS → Prop} (h : w_205_0 (Tot d) a1 s P) : Tot (d + 1) 205 [.ref 213, .int a1] s P := tot_of (E := xE_205) (ml := 4) (ret := some .int) rfl rfl rfl (k_205_0 h)
/-! place -/
def w_206_0 (T : Nat → List Value → yS → (Option Value → yS → Prop) → Prop)  (a1 : Int32) (a2 : Int32) (a3 : Int32) (s : yS) (P : Option Value → yS → Prop) : Prop :=
  ∀ s1, s1 = sf s 76 a1 → ∀ s2, s2 = sf s1 77 a2 → ∀ s3, s3 = sf s2 78 a3 → P none s3
set_option maxRecDepth 20000 in
theorem k_206_0 {d : Nat}  {a1 : Int32} {a2 : Int32} {a3 : Int32} {s : yS} {P : Option Value → yS → Prop}  (h : w_206_0 (Tot d)  a1 a2 a3 s P) : Go d 4 (none) xE_206 (xE_206.drop 0) [.ref 213, .int a1, .int a2, .int a3, .null, .null, .null, .null] [] s P := by
  unfold w_206_0 at h
  refine g_ld rfl rfl rfl ?_
  refine g_ld rfl rfl rfl ?_
  refine g_put rfl rfl rfl ?_
  replace h := h _ rfl
  refine g_ld rfl rfl rfl ?_
  refine g_ld rfl rfl rfl ?_
  refine g_put rfl rfl rfl ?_
  replace h := h _ rfl
  refine g_ld rfl rfl rfl ?_
  refine g_ld rfl rfl rfl ?_
  refine g_put rfl rfl rfl ?_
  replace h := h _ rfl
  exact g_ret0 rfl h
theorem t_206 {d : Nat} {a1 : Int32} {a2 : Int32} {a3 : Int32} {s : yS} {P : Option Value → yS → Prop} (h : w_206_0 (Tot d) a1 a2 a3 s P) : Tot (d + 1) 206 [.ref 213, .int a1, .int a2, .int a3] s P := tot_of (E := xE_206) (ml := 4) (ret := none) rfl rfl rfl (k_206_0 h)
/-! boundWords -/
def w_207_41 (T : Nat → List Value → yS → (Option Value → yS → Prop) → Prop)  (a1 : Int32) (s : yS) (P : Option Value → yS → Prop) : Prop :=
  P none s
set_option maxRecDepth 20000 in
theorem k_207_41 {d : Nat}  {a1 : Int32} {s : yS} {P : Option Value → yS → Prop}  (h : w_207_41 (Tot d)  a1 s P) : Go d 2 (none) xE_207 (xE_207.drop 41) [.ref 213, .int a1, .null, .null] [] s P := by
  unfold w_207_41 at h
  exact g_ret0 rfl h
def w_207_34 (T : Nat → List Value → yS → (Option Value → yS → Prop) → Prop)  (a1 : Int32) (s : yS) (P : Option Value → yS → Prop) : Prop :=
  (0 ≤ a1.toInt ∧ a1.toInt < 12006) ∧ (T 163 [.ref 213, .int 6, .int (s.2.1 222 a1.toInt.toNat)] s (fun v2 s1 => v2 = none ∧ (w_207_41 T  a1  s1 P)))
set_option maxRecDepth 20000 in
theorem k_207_34 {d : Nat}  {a1 : Int32} {s : yS} {P : Option Value → yS → Prop}  (h : w_207_34 (Tot d)  a1 s P) : Go d 2 (none) xE_207 (xE_207.drop 34) [.ref 213, .int a1, .null, .null] [] s P := by
  unfold w_207_34 at h
  refine g_ld rfl rfl rfl ?_
  refine g_c [.int 6, .ref 213] (xo_push (.int 6)) rfl rfl ?_
  refine g_ld rfl rfl rfl ?_
  refine g_get rfl rfl ?_
  change Go _ _ _ _ _ _ [.ref 222, .int 6, .ref 213] _ _
  refine g_ld rfl rfl rfl ?_
  refine g_ial rfl rfl (i_in (x := a1) rfl h.1) ?_
  change Go _ _ _ _ _ _ [.int (s.2.1 222 a1.toInt.toNat), .int 6, .ref 213] _ _
  replace h := h.2
  refine g_call [.ref 213, .int 6, .int (s.2.1 222 a1.toInt.toNat)] [] rfl rfl rfl (Tot.imp h (fun v2 s1 h => ?_))
  obtain ⟨rfl, h⟩ := h
  change Go _ _ _ _ _ _ [] _ _
  exact k_207_41  h
def w_207_0 (T : Nat → List Value → yS → (Option Value → yS → Prop) → Prop)  (a1 : Int32) (s : yS) (P : Option Value → yS → Prop) : Prop :=
  T 204 [.ref 213, .int a1, .int 0] s (fun v2 s1 => v2 = none ∧ ((¬ ((s1.1 8).toInt = 0) → w_207_41 T  a1  s1 P) ∧ ((s1.1 8).toInt = 0 → (0 ≤ a1.toInt ∧ a1.toInt < 12006) ∧ ((0 ≤ (s1.2.1 231 a1.toInt.toNat).toInt ∧ (s1.2.1 231 a1.toInt.toNat).toInt < 200000) ∧ (T 185 [.int (s1.2.1 264 (s1.2.1 231 a1.toInt.toNat).toInt.toNat)] s1 (fun v4 s3 => ∃ x5, v4 = some (.int x5) ∧ ((1000 ≤ x5.toInt → w_207_34 T  a1  s3 P) ∧ (¬ (1000 ≤ x5.toInt) → (-2147483648 ≤ 24 * (s3.1 75).toInt ∧ 24 * (s3.1 75).toInt ≤ 2147483647) ∧ (∀ x6 : Int32, x6.toInt = 24 * (s3.1 75).toInt → (0 ≤ a1.toInt ∧ a1.toInt < 12006) ∧ ((0 ≤ (s3.2.1 231 a1.toInt.toNat).toInt ∧ (s3.2.1 231 a1.toInt.toNat).toInt < 200000) ∧ (T 185 [.int (s3.2.1 264 (s3.2.1 231 a1.toInt.toNat).toInt.toNat)] s3 (fun v8 s7 => ∃ x9, v8 = some (.int x9) ∧ ((-2147483648 ≤ x6.toInt + x9.toInt ∧ x6.toInt + x9.toInt ≤ 2147483647) ∧ (∀ x10 : Int32, x10.toInt = x6.toInt + x9.toInt → (0 ≤ x10.toInt ∧ x10.toInt < 48) ∧ (((s7.2.1 235 x10.toInt.toNat).toInt = 0 → w_207_41 T  a1  s7 P) ∧ (¬ ((s7.2.1 235 x10.toInt.toNat).toInt = 0) → w_207_34 T  a1  s7 P))))))))))))))))
set_option maxRecDepth 20000 in
theorem k_207_0 {d : Nat}  {a1 : Int32} {s : yS} {P : Option Value → yS → Prop}  (h : w_207_0 (Tot d)  a1 s P) : Go d 2 (none) xE_207 (xE_207.drop 0) [.ref 213, .int a1, .null, .null] [] s P := by
  unfold w_207_0 at h
  refine g_ld rfl rfl rfl ?_
  refine g_ld rfl rfl rfl ?_
  refine g_c [.int 0, .int a1, .ref 213] (xo_push (.int 0)) rfl rfl ?_
  refine g_call [.ref 213, .int a1, .int 0] [] rfl rfl rfl (Tot.imp h (fun v2 s1 h => ?_))
  obtain ⟨rfl, h⟩ := h
  change Go _ _ _ _ _ _ [] _ _
  refine g_ld rfl rfl rfl ?_
  refine g_get rfl rfl ?_
  change Go _ _ _ _ _ _ [.int (s1.1 8)] _ _
  refine g_brN rfl rfl ⟨fun hc => ?_, fun hc => ?_⟩
  · replace h := h.1 (fun q => hc ((i_eq (x := s1.1 8) (y := 0) rfl (show (0 : Int32).toInt = 0 by decide)).mpr q))
    exact k_207_41  h
  · replace h := h.2 ((i_eq (x := s1.1 8) (y := 0) rfl (show (0 : Int32).toInt = 0 by decide)).mp hc)
    refine g_ld rfl rfl rfl ?_
    refine g_get rfl rfl ?_
    change Go _ _ _ _ _ _ [.ref 264] _ _
    refine g_ld rfl rfl rfl ?_
    refine g_get rfl rfl ?_
    change Go _ _ _ _ _ _ [.ref 231, .ref 264] _ _
    refine g_ld rfl rfl rfl ?_
    refine g_ial rfl rfl (i_in (x := a1) rfl h.1) ?_
    change Go _ _ _ _ _ _ [.int (s1.2.1 231 a1.toInt.toNat), .ref 264] _ _
    replace h := h.2
    refine g_ial rfl rfl (i_in (x := s1.2.1 231 a1.toInt.toNat) rfl h.1) ?_
    change Go _ _ _ _ _ _ [.int (s1.2.1 264 (s1.2.1 231 a1.toInt.toNat).toInt.toNat)] _ _
    replace h := h.2
    refine g_call [.int (s1.2.1 264 (s1.2.1 231 a1.toInt.toNat).toInt.toNat)] [] rfl rfl rfl (Tot.imp h (fun v4 s3 h => ?_))
    obtain ⟨x5, rfl, h⟩ := h
    change Go _ _ _ _ _ _ [.int x5] _ _
    refine g_c [.int 1000, .int x5] (xo_push (.int 1000)) rfl rfl ?_
    refine g_brP rfl rfl ⟨fun hc => ?_, fun hc => ?_⟩
    · replace h := h.1 ((i_le (x := 1000) (y := x5) (show (1000 : Int32).toInt = 1000 by decide) rfl).mp hc)
      exact k_207_34  h
    · replace h := h.2 (fun q => hc ((i_le (x := 1000) (y := x5) (show (1000 : Int32).toInt = 1000 by decide) rfl).mpr q))
      refine g_ld rfl rfl rfl ?_
      refine g_get rfl rfl ?_
      change Go _ _ _ _ _ _ [.ref 235] _ _
      refine g_c [.int 24, .ref 235] (xo_push (.int 24)) rfl rfl ?_
      refine g_ld rfl rfl rfl ?_
      refine g_get rfl rfl ?_
      change Go _ _ _ _ _ _ [.int (s3.1 75), .int 24, .ref 235] _ _
      have ex6 := i_mul (x := 24) (y := s3.1 75) (show (24 : Int32).toInt = 24 by decide) rfl h.1
      have cx6 := ck_mul (x := 24) (y := s3.1 75) (show (24 : Int32).toInt = 24 by decide) rfl h.1
      replace h := h.2 _ ex6
      refine g_ca [.int (24 * (s3.1 75)), .ref 235] xo_imul rfl rfl (fun _ => cx6) ?_
      refine g_ld rfl rfl rfl ?_
      refine g_get rfl rfl ?_
      change Go _ _ _ _ _ _ [.ref 264, .int (24 * (s3.1 75)), .ref 235] _ _
      refine g_ld rfl rfl rfl ?_
      refine g_get rfl rfl ?_
      change Go _ _ _ _ _ _ [.ref 231, .ref 264, .int (24 * (s3.1 75)), .ref 235] _ _
      refine g_ld rfl rfl rfl ?_
      refine g_ial rfl rfl (i_in (x := a1) rfl h.1) ?_
      change Go _ _ _ _ _ _ [.int (s3.2.1 231 a1.toInt.toNat), .ref 264, .int (24 * (s3.1 75)), .ref 235] _ _
      replace h := h.2
      refine g_ial rfl rfl (i_in (x := s3.2.1 231 a1.toInt.toNat) rfl h.1) ?_
      change Go _ _ _ _ _ _ [.int (s3.2.1 264 (s3.2.1 231 a1.toInt.toNat).toInt.toNat), .int (24 * (s3.1 75)), .ref 235] _ _
      replace h := h.2
      refine g_call [.int (s3.2.1 264 (s3.2.1 231 a1.toInt.toNat).toInt.toNat)] [.int (24 * (s3.1 75)), .ref 235] rfl rfl rfl (Tot.imp h (fun v8 s7 h => ?_))
      obtain ⟨x9, rfl, h⟩ := h
      change Go _ _ _ _ _ _ [.int x9, .int (24 * (s3.1 75)), .ref 235] _ _
      have ex10 := i_add (x := (24 * (s3.1 75))) (y := x9) rfl rfl h.1
      have cx10 := ck_add (x := (24 * (s3.1 75))) (y := x9) rfl rfl h.1
      replace h := h.2 _ ex10
      refine g_ca [.int ((24 * (s3.1 75)) + x9), .ref 235] xo_iadd rfl rfl (fun _ => cx10) ?_
      refine g_zal rfl rfl (i_in (x := ((24 * (s3.1 75)) + x9)) rfl h.1) ?_
      change Go _ _ _ _ _ _ [.int (s7.2.1 235 ((24 * (s3.1 75)) + x9).toInt.toNat)] _ _
      replace h := h.2
      refine g_brP rfl rfl ⟨fun hc => ?_, fun hc => ?_⟩
      · replace h := h.1 ((i_eq (x := s7.2.1 235 ((24 * (s3.1 75)) + x9).toInt.toNat) (y := 0) rfl (show (0 : Int32).toInt = 0 by decide)).mp hc)
        exact k_207_41  h
      · replace h := h.2 (fun q => hc ((i_eq (x := s7.2.1 235 ((24 * (s3.1 75)) + x9).toInt.toNat) (y := 0) rfl (show (0 : Int32).toInt = 0 by decide)).mpr q))
        exact k_207_34  h
theorem t_207 {d : Nat} {a1 : Int32} {s : yS} {P : Option Value → yS → Prop} (h : w_207_0 (Tot d) a1 s P) : Tot (d + 1) 207 [.ref 213, .int a1] s P := tot_of (E := xE_207) (ml := 2) (ret := none) rfl rfl rfl (k_207_0 h)
/-! headWords -/
def w_208_27 (T : Nat → List Value → yS → (Option Value → yS → Prop) → Prop) (R27 : Int32 → Int32 → Int32 → Int32 → yS → Prop) (a1 : Int32) (a2 : Int32) (a3 : Int32) (a4 : Int32) (s : yS) (P : Option Value → yS → Prop) : Prop :=
  (0 ≤ a1.toInt ∧ a1.toInt < 408) ∧ (((s.2.1 248 a1.toInt.toNat).toInt ≤ a4.toInt → (0 ≤ a1.toInt ∧ a1.toInt < 408) ∧ (T 204 [.ref 213, .int (s.2.1 251 a1.toInt.toNat), .int 0] s (fun v2 s1 => v2 = none ∧ (P none s1)))) ∧ (¬ ((s.2.1 248 a1.toInt.toNat).toInt ≤ a4.toInt) → (-2147483648 ≤ 6 * a1.toInt ∧ 6 * a1.toInt ≤ 2147483647) ∧ (∀ x3 : Int32, x3.toInt = 6 * a1.toInt → (-2147483648 ≤ x3.toInt + a4.toInt ∧ x3.toInt + a4.toInt ≤ 2147483647) ∧ (∀ x4 : Int32, x4.toInt = x3.toInt + a4.toInt → (0 ≤ x4.toInt ∧ x4.toInt < 2448) ∧ (T 204 [.ref 213, .int (s.2.1 250 x4.toInt.toNat), .int 0] s (fun v6 s5 => v6 = none ∧ ((-2147483648 ≤ a4.toInt + 1 ∧ a4.toInt + 1 ≤ 2147483647) ∧ (∀ x7 : Int32, x7.toInt = a4.toInt + 1 → R27 a1 a2 a3 x7  s5))))))))
set_option maxRecDepth 20000 in
theorem k_208_27 {d : Nat} {R27 : Int32 → Int32 → Int32 → Int32 → yS → Prop} {a1 : Int32} {a2 : Int32} {a3 : Int32} {a4 : Int32} {s : yS} {P : Option Value → yS → Prop} (r27 : ∀ a1 a2 a3 a4 s, R27 a1 a2 a3 a4 s → Go d 5 (none) xE_208 (xE_208.drop 27) [.ref 213, .int a1, .int a2, .int a3, .int a4, .null, .null, .null, .null] [] s P) (h : w_208_27 (Tot d) R27 a1 a2 a3 a4 s P) : Go d 5 (none) xE_208 (xE_208.drop 27) [.ref 213, .int a1, .int a2, .int a3, .int a4, .null, .null, .null, .null] [] s P := by
  unfold w_208_27 at h
  refine g_ld rfl rfl rfl ?_
  refine g_ld rfl rfl rfl ?_
  refine g_get rfl rfl ?_
  change Go _ _ _ _ _ _ [.ref 248, .int a4] _ _
  refine g_ld rfl rfl rfl ?_
  refine g_ial rfl rfl (i_in (x := a1) rfl h.1) ?_
  change Go _ _ _ _ _ _ [.int (s.2.1 248 a1.toInt.toNat), .int a4] _ _
  replace h := h.2
  refine g_brP rfl rfl ⟨fun hc => ?_, fun hc => ?_⟩
  · replace h := h.1 ((i_le (x := s.2.1 248 a1.toInt.toNat) (y := a4) rfl rfl).mp hc)
    refine g_ld rfl rfl rfl ?_
    refine g_ld rfl rfl rfl ?_
    refine g_get rfl rfl ?_
    change Go _ _ _ _ _ _ [.ref 251, .ref 213] _ _
    refine g_ld rfl rfl rfl ?_
    refine g_ial rfl rfl (i_in (x := a1) rfl h.1) ?_
    change Go _ _ _ _ _ _ [.int (s.2.1 251 a1.toInt.toNat), .ref 213] _ _
    replace h := h.2
    refine g_c [.int 0, .int (s.2.1 251 a1.toInt.toNat), .ref 213] (xo_push (.int 0)) rfl rfl ?_
    refine g_call [.ref 213, .int (s.2.1 251 a1.toInt.toNat), .int 0] [] rfl rfl rfl (Tot.imp h (fun v2 s1 h => ?_))
    obtain ⟨rfl, h⟩ := h
    change Go _ _ _ _ _ _ [] _ _
    exact g_ret0 rfl h
  · replace h := h.2 (fun q => hc ((i_le (x := s.2.1 248 a1.toInt.toNat) (y := a4) rfl rfl).mpr q))
    refine g_ld rfl rfl rfl ?_
    refine g_ld rfl rfl rfl ?_
    refine g_get rfl rfl ?_
    change Go _ _ _ _ _ _ [.ref 250, .ref 213] _ _
    refine g_c [.int 6, .ref 250, .ref 213] (xo_push (.int 6)) rfl rfl ?_
    refine g_ld rfl rfl rfl ?_
    have ex3 := i_mul (x := 6) (y := a1) (show (6 : Int32).toInt = 6 by decide) rfl h.1
    have cx3 := ck_mul (x := 6) (y := a1) (show (6 : Int32).toInt = 6 by decide) rfl h.1
    replace h := h.2 _ ex3
    refine g_ca [.int (6 * a1), .ref 250, .ref 213] xo_imul rfl rfl (fun _ => cx3) ?_
    refine g_ld rfl rfl rfl ?_
    have ex4 := i_add (x := (6 * a1)) (y := a4) rfl rfl h.1
    have cx4 := ck_add (x := (6 * a1)) (y := a4) rfl rfl h.1
    replace h := h.2 _ ex4
    refine g_ca [.int ((6 * a1) + a4), .ref 250, .ref 213] xo_iadd rfl rfl (fun _ => cx4) ?_
    refine g_ial rfl rfl (i_in (x := ((6 * a1) + a4)) rfl h.1) ?_
    change Go _ _ _ _ _ _ [.int (s.2.1 250 ((6 * a1) + a4).toInt.toNat), .ref 213] _ _
    replace h := h.2
    refine g_c [.int 0, .int (s.2.1 250 ((6 * a1) + a4).toInt.toNat), .ref 213] (xo_push (.int 0)) rfl rfl ?_
    refine g_call [.ref 213, .int (s.2.1 250 ((6 * a1) + a4).toInt.toNat), .int 0] [] rfl rfl rfl (Tot.imp h (fun v6 s5 h => ?_))
    obtain ⟨rfl, h⟩ := h
    change Go _ _ _ _ _ _ [] _ _
    have ex7 := i_add (x := a4) (y := 1) rfl (show (1 : Int32).toInt = 1 by decide) h.1
    have cx7 := ck_inc (x := a4) (n := 1) rfl h.1
    replace h := h.2 _ ex7
    refine g_inc [.ref 213, .int a1, .int a2, .int a3, .int (a4 + 1), .null, .null, .null, .null] rfl rfl rfl rfl cx7 ?_
    refine g_go rfl ?_
    exact r27 a1 a2 a3 (a4 + 1)  s5 h
def wl_208_27 (T : Nat → List Value → yS → (Option Value → yS → Prop) → Prop)  (a1 : Int32) (a2 : Int32) (a3 : Int32) (a4 : Int32) (s : yS) (P : Option Value → yS → Prop) : Prop :=
  ∃ (I : Int32 → Int32 → Int32 → Int32 → yS → Prop) (μ : Int32 → Int32 → Int32 → Int32 → yS → Nat), I a1 a2 a3 a4 s ∧ ∀ (a1 : Int32) (a2 : Int32) (a3 : Int32) (a4 : Int32) (s : yS), I a1 a2 a3 a4 s → w_208_27 T (fun a1' a2' a3' a4' s' => I a1' a2' a3' a4' s' ∧ μ a1' a2' a3' a4' s' < μ a1 a2 a3 a4 s) a1 a2 a3 a4 s P
theorem kl_208_27 {d : Nat}  {a1 : Int32} {a2 : Int32} {a3 : Int32} {a4 : Int32} {s : yS} {P : Option Value → yS → Prop}  (h : wl_208_27 (Tot d)  a1 a2 a3 a4 s P) : Go d 5 (none) xE_208 (xE_208.drop 27) [.ref 213, .int a1, .int a2, .int a3, .int a4, .null, .null, .null, .null] [] s P := by
  obtain ⟨I, μ, h0, h1⟩ := h
  have key : ∀ (n : Nat) (a1 : Int32) (a2 : Int32) (a3 : Int32) (a4 : Int32) (s : yS), μ a1 a2 a3 a4 s = n → I a1 a2 a3 a4 s → Go d 5 (none) xE_208 (xE_208.drop 27) [.ref 213, .int a1, .int a2, .int a3, .int a4, .null, .null, .null, .null] [] s P := by
    intro n
    induction n using Nat.strongRecOn with
    | ind n ih =>
      intro a1 a2 a3 a4 s e hI
      exact k_208_27 (fun a1' a2' a3' a4' s' q => ih _ (by rw [← e]; exact q.2) _ _ _ _ _ rfl q.1) (h1 a1 a2 a3 a4 s hI)
  exact key _ a1 a2 a3 a4 s rfl h0
def w_208_7 (T : Nat → List Value → yS → (Option Value → yS → Prop) → Prop) (R7 : Int32 → Int32 → Int32 → Int32 → yS → Prop) (a1 : Int32) (a2 : Int32) (a3 : Int32) (a4 : Int32) (s : yS) (P : Option Value → yS → Prop) : Prop :=
  (0 ≤ a1.toInt ∧ a1.toInt < 408) ∧ (((s.2.1 245 a1.toInt.toNat).toInt ≤ a4.toInt → wl_208_27 T  a1 a2 a3 0  s P) ∧ (¬ ((s.2.1 245 a1.toInt.toNat).toInt ≤ a4.toInt) → (-2147483648 ≤ 6 * a1.toInt ∧ 6 * a1.toInt ≤ 2147483647) ∧ (∀ x1 : Int32, x1.toInt = 6 * a1.toInt → (-2147483648 ≤ x1.toInt + a4.toInt ∧ x1.toInt + a4.toInt ≤ 2147483647) ∧ (∀ x2 : Int32, x2.toInt = x1.toInt + a4.toInt → (0 ≤ x2.toInt ∧ x2.toInt < 2448) ∧ (T 207 [.ref 213, .int (s.2.1 247 x2.toInt.toNat)] s (fun v4 s3 => v4 = none ∧ ((-2147483648 ≤ a4.toInt + 1 ∧ a4.toInt + 1 ≤ 2147483647) ∧ (∀ x5 : Int32, x5.toInt = a4.toInt + 1 → R7 a1 a2 a3 x5  s3))))))))
set_option maxRecDepth 20000 in
theorem k_208_7 {d : Nat} {R7 : Int32 → Int32 → Int32 → Int32 → yS → Prop} {a1 : Int32} {a2 : Int32} {a3 : Int32} {a4 : Int32} {s : yS} {P : Option Value → yS → Prop} (r7 : ∀ a1 a2 a3 a4 s, R7 a1 a2 a3 a4 s → Go d 5 (none) xE_208 (xE_208.drop 7) [.ref 213, .int a1, .int a2, .int a3, .int a4, .null, .null, .null, .null] [] s P) (h : w_208_7 (Tot d) R7 a1 a2 a3 a4 s P) : Go d 5 (none) xE_208 (xE_208.drop 7) [.ref 213, .int a1, .int a2, .int a3, .int a4, .null, .null, .null, .null] [] s P := by
  unfold w_208_7 at h
  refine g_ld rfl rfl rfl ?_
  refine g_ld rfl rfl rfl ?_
  refine g_get rfl rfl ?_
  change Go _ _ _ _ _ _ [.ref 245, .int a4] _ _
  refine g_ld rfl rfl rfl ?_
  refine g_ial rfl rfl (i_in (x := a1) rfl h.1) ?_
  change Go _ _ _ _ _ _ [.int (s.2.1 245 a1.toInt.toNat), .int a4] _ _
  replace h := h.2
  refine g_brP rfl rfl ⟨fun hc => ?_, fun hc => ?_⟩
  · replace h := h.1 ((i_le (x := s.2.1 245 a1.toInt.toNat) (y := a4) rfl rfl).mp hc)
    refine g_c [.int 0] (xo_push (.int 0)) rfl rfl ?_
    refine g_st [.ref 213, .int a1, .int a2, .int a3, .int 0, .null, .null, .null, .null] rfl rfl rfl ?_
    exact kl_208_27  h
  · replace h := h.2 (fun q => hc ((i_le (x := s.2.1 245 a1.toInt.toNat) (y := a4) rfl rfl).mpr q))
    refine g_ld rfl rfl rfl ?_
    refine g_ld rfl rfl rfl ?_
    refine g_get rfl rfl ?_
    change Go _ _ _ _ _ _ [.ref 247, .ref 213] _ _
    refine g_c [.int 6, .ref 247, .ref 213] (xo_push (.int 6)) rfl rfl ?_
    refine g_ld rfl rfl rfl ?_
    have ex1 := i_mul (x := 6) (y := a1) (show (6 : Int32).toInt = 6 by decide) rfl h.1
    have cx1 := ck_mul (x := 6) (y := a1) (show (6 : Int32).toInt = 6 by decide) rfl h.1
    replace h := h.2 _ ex1
    refine g_ca [.int (6 * a1), .ref 247, .ref 213] xo_imul rfl rfl (fun _ => cx1) ?_
    refine g_ld rfl rfl rfl ?_
    have ex2 := i_add (x := (6 * a1)) (y := a4) rfl rfl h.1
    have cx2 := ck_add (x := (6 * a1)) (y := a4) rfl rfl h.1
    replace h := h.2 _ ex2
    refine g_ca [.int ((6 * a1) + a4), .ref 247, .ref 213] xo_iadd rfl rfl (fun _ => cx2) ?_
    refine g_ial rfl rfl (i_in (x := ((6 * a1) + a4)) rfl h.1) ?_
    change Go _ _ _ _ _ _ [.int (s.2.1 247 ((6 * a1) + a4).toInt.toNat), .ref 213] _ _
    replace h := h.2
    refine g_call [.ref 213, .int (s.2.1 247 ((6 * a1) + a4).toInt.toNat)] [] rfl rfl rfl (Tot.imp h (fun v4 s3 h => ?_))
    obtain ⟨rfl, h⟩ := h
    change Go _ _ _ _ _ _ [] _ _
    have ex5 := i_add (x := a4) (y := 1) rfl (show (1 : Int32).toInt = 1 by decide) h.1
    have cx5 := ck_inc (x := a4) (n := 1) rfl h.1
    replace h := h.2 _ ex5
    refine g_inc [.ref 213, .int a1, .int a2, .int a3, .int (a4 + 1), .null, .null, .null, .null] rfl rfl rfl rfl cx5 ?_
    refine g_go rfl ?_
    exact r7 a1 a2 a3 (a4 + 1)  s3 h
def wl_208_7 (T : Nat → List Value → yS → (Option Value → yS → Prop) → Prop)  (a1 : Int32) (a2 : Int32) (a3 : Int32) (a4 : Int32) (s : yS) (P : Option Value → yS → Prop) : Prop :=
  ∃ (I : Int32 → Int32 → Int32 → Int32 → yS → Prop) (μ : Int32 → Int32 → Int32 → Int32 → yS → Nat), I a1 a2 a3 a4 s ∧ ∀ (a1 : Int32) (a2 : Int32) (a3 : Int32) (a4 : Int32) (s : yS), I a1 a2 a3 a4 s → w_208_7 T (fun a1' a2' a3' a4' s' => I a1' a2' a3' a4' s' ∧ μ a1' a2' a3' a4' s' < μ a1 a2 a3 a4 s) a1 a2 a3 a4 s P
theorem kl_208_7 {d : Nat}  {a1 : Int32} {a2 : Int32} {a3 : Int32} {a4 : Int32} {s : yS} {P : Option Value → yS → Prop}  (h : wl_208_7 (Tot d)  a1 a2 a3 a4 s P) : Go d 5 (none) xE_208 (xE_208.drop 7) [.ref 213, .int a1, .int a2, .int a3, .int a4, .null, .null, .null, .null] [] s P := by
  obtain ⟨I, μ, h0, h1⟩ := h
  have key : ∀ (n : Nat) (a1 : Int32) (a2 : Int32) (a3 : Int32) (a4 : Int32) (s : yS), μ a1 a2 a3 a4 s = n → I a1 a2 a3 a4 s → Go d 5 (none) xE_208 (xE_208.drop 7) [.ref 213, .int a1, .int a2, .int a3, .int a4, .null, .null, .null, .null] [] s P := by
    intro n
    induction n using Nat.strongRecOn with
    | ind n ih =>
      intro a1 a2 a3 a4 s e hI
      exact k_208_7 (fun a1' a2' a3' a4' s' q => ih _ (by rw [← e]; exact q.2) _ _ _ _ _ rfl q.1) (h1 a1 a2 a3 a4 s hI)
  exact key _ a1 a2 a3 a4 s rfl h0
def w_208_0 (T : Nat → List Value → yS → (Option Value → yS → Prop) → Prop)  (a1 : Int32) (a2 : Int32) (a3 : Int32) (s : yS) (P : Option Value → yS → Prop) : Prop :=
  T 206 [.ref 213, .int a2, .int a1, .int a3] s (fun v2 s1 => v2 = none ∧ (wl_208_7 T  a1 a2 a3 0  s1 P))
set_option maxRecDepth 20000 in
theorem k_208_0 {d : Nat}  {a1 : Int32} {a2 : Int32} {a3 : Int32} {s : yS} {P : Option Value → yS → Prop}  (h : w_208_0 (Tot d)  a1 a2 a3 s P) : Go d 5 (none) xE_208 (xE_208.drop 0) [.ref 213, .int a1, .int a2, .int a3, .null, .null, .null, .null, .null] [] s P := by
  unfold w_208_0 at h
  refine g_ld rfl rfl rfl ?_
  refine g_ld rfl rfl rfl ?_
  refine g_ld rfl rfl rfl ?_
  refine g_ld rfl rfl rfl ?_
  refine g_call [.ref 213, .int a2, .int a1, .int a3] [] rfl rfl rfl (Tot.imp h (fun v2 s1 h => ?_))
  obtain ⟨rfl, h⟩ := h
  change Go _ _ _ _ _ _ [] _ _
  refine g_c [.int 0] (xo_push (.int 0)) rfl rfl ?_
  refine g_st [.ref 213, .int a1, .int a2, .int a3, .int 0, .null, .null, .null, .null] rfl rfl rfl ?_
  exact kl_208_7  h
theorem t_208 {d : Nat} {a1 : Int32} {a2 : Int32} {a3 : Int32} {s : yS} {P : Option Value → yS → Prop} (h : w_208_0 (Tot d) a1 a2 a3 s P) : Tot (d + 1) 208 [.ref 213, .int a1, .int a2, .int a3] s P := tot_of (E := xE_208) (ml := 5) (ret := none) rfl rfl rfl (k_208_0 h)
/-! typeWords -/
def w_209_51 (T : Nat → List Value → yS → (Option Value → yS → Prop) → Prop) (R51 : Int32 → Int32 → yS → Prop) (a1 : Int32) (a2 : Int32) (s : yS) (P : Option Value → yS → Prop) : Prop :=
  (0 ≤ a1.toInt ∧ a1.toInt < 48) ∧ ((0 ≤ a1.toInt ∧ a1.toInt < 48) ∧ ((-2147483648 ≤ (s.2.1 242 a1.toInt.toNat).toInt + (s.2.1 243 a1.toInt.toNat).toInt ∧ (s.2.1 242 a1.toInt.toNat).toInt + (s.2.1 243 a1.toInt.toNat).toInt ≤ 2147483647) ∧ (∀ x1 : Int32, x1.toInt = (s.2.1 242 a1.toInt.toNat).toInt + (s.2.1 243 a1.toInt.toNat).toInt → (x1.toInt ≤ a2.toInt → P none s) ∧ (¬ (x1.toInt ≤ a2.toInt) → T 208 [.ref 213, .int a2, .int a1, .int (-1)] s (fun v3 s2 => v3 = none ∧ ((-2147483648 ≤ a2.toInt + 1 ∧ a2.toInt + 1 ≤ 2147483647) ∧ (∀ x4 : Int32, x4.toInt = a2.toInt + 1 → R51 a1 x4  s2)))))))
set_option maxRecDepth 20000 in
theorem k_209_51 {d : Nat} {R51 : Int32 → Int32 → yS → Prop} {a1 : Int32} {a2 : Int32} {s : yS} {P : Option Value → yS → Prop} (r51 : ∀ a1 a2 s, R51 a1 a2 s → Go d 3 (none) xE_209 (xE_209.drop 51) [.ref 213, .int a1, .int a2, .null, .null] [] s P) (h : w_209_51 (Tot d) R51 a1 a2 s P) : Go d 3 (none) xE_209 (xE_209.drop 51) [.ref 213, .int a1, .int a2, .null, .null] [] s P := by
  unfold w_209_51 at h
  refine g_ld rfl rfl rfl ?_
  refine g_ld rfl rfl rfl ?_
  refine g_get rfl rfl ?_
  change Go _ _ _ _ _ _ [.ref 242, .int a2] _ _
  refine g_ld rfl rfl rfl ?_
  refine g_ial rfl rfl (i_in (x := a1) rfl h.1) ?_
  change Go _ _ _ _ _ _ [.int (s.2.1 242 a1.toInt.toNat), .int a2] _ _
  replace h := h.2
  refine g_ld rfl rfl rfl ?_
  refine g_get rfl rfl ?_
  change Go _ _ _ _ _ _ [.ref 243, .int (s.2.1 242 a1.toInt.toNat), .int a2] _ _
  refine g_ld rfl rfl rfl ?_
  refine g_ial rfl rfl (i_in (x := a1) rfl h.1) ?_
  change Go _ _ _ _ _ _ [.int (s.2.1 243 a1.toInt.toNat), .int (s.2.1 242 a1.toInt.toNat), .int a2] _ _
  replace h := h.2
  have ex1 := i_add (x := s.2.1 242 a1.toInt.toNat) (y := s.2.1 243 a1.toInt.toNat) rfl rfl h.1
  have cx1 := ck_add (x := s.2.1 242 a1.toInt.toNat) (y := s.2.1 243 a1.toInt.toNat) rfl rfl h.1
  replace h := h.2 _ ex1
  refine g_ca [.int ((s.2.1 242 a1.toInt.toNat) + (s.2.1 243 a1.toInt.toNat)), .int a2] xo_iadd rfl rfl (fun _ => cx1) ?_
  refine g_brP rfl rfl ⟨fun hc => ?_, fun hc => ?_⟩
  · replace h := h.1 ((i_le (x := ((s.2.1 242 a1.toInt.toNat) + (s.2.1 243 a1.toInt.toNat))) (y := a2) rfl rfl).mp hc)
    exact g_ret0 rfl h
  · replace h := h.2 (fun q => hc ((i_le (x := ((s.2.1 242 a1.toInt.toNat) + (s.2.1 243 a1.toInt.toNat))) (y := a2) rfl rfl).mpr q))
    refine g_ld rfl rfl rfl ?_
    refine g_ld rfl rfl rfl ?_
    refine g_ld rfl rfl rfl ?_
    refine g_c [.int (-1), .int a1, .int a2, .ref 213] (xo_push (.int (-1))) rfl rfl ?_
    refine g_call [.ref 213, .int a2, .int a1, .int (-1)] [] rfl rfl rfl (Tot.imp h (fun v3 s2 h => ?_))
    obtain ⟨rfl, h⟩ := h
    change Go _ _ _ _ _ _ [] _ _
    have ex4 := i_add (x := a2) (y := 1) rfl (show (1 : Int32).toInt = 1 by decide) h.1
    have cx4 := ck_inc (x := a2) (n := 1) rfl h.1
    replace h := h.2 _ ex4
    refine g_inc [.ref 213, .int a1, .int (a2 + 1), .null, .null] rfl rfl rfl rfl cx4 ?_
    refine g_go rfl ?_
    exact r51 a1 (a2 + 1)  s2 h
def wl_209_51 (T : Nat → List Value → yS → (Option Value → yS → Prop) → Prop)  (a1 : Int32) (a2 : Int32) (s : yS) (P : Option Value → yS → Prop) : Prop :=
  ∃ (I : Int32 → Int32 → yS → Prop) (μ : Int32 → Int32 → yS → Nat), I a1 a2 s ∧ ∀ (a1 : Int32) (a2 : Int32) (s : yS), I a1 a2 s → w_209_51 T (fun a1' a2' s' => I a1' a2' s' ∧ μ a1' a2' s' < μ a1 a2 s) a1 a2 s P
theorem kl_209_51 {d : Nat}  {a1 : Int32} {a2 : Int32} {s : yS} {P : Option Value → yS → Prop}  (h : wl_209_51 (Tot d)  a1 a2 s P) : Go d 3 (none) xE_209 (xE_209.drop 51) [.ref 213, .int a1, .int a2, .null, .null] [] s P := by
  obtain ⟨I, μ, h0, h1⟩ := h
  have key : ∀ (n : Nat) (a1 : Int32) (a2 : Int32) (s : yS), μ a1 a2 s = n → I a1 a2 s → Go d 3 (none) xE_209 (xE_209.drop 51) [.ref 213, .int a1, .int a2, .null, .null] [] s P := by
    intro n
    induction n using Nat.strongRecOn with
    | ind n ih =>
      intro a1 a2 s e hI
      exact k_209_51 (fun a1' a2' s' q => ih _ (by rw [← e]; exact q.2) _ _ _ rfl q.1) (h1 a1 a2 s hI)
  exact key _ a1 a2 s rfl h0
def w_209_27 (T : Nat → List Value → yS → (Option Value → yS → Prop) → Prop) (R27 : Int32 → Int32 → yS → Prop) (a1 : Int32) (a2 : Int32) (s : yS) (P : Option Value → yS → Prop) : Prop :=
  (0 ≤ a1.toInt ∧ a1.toInt < 48) ∧ (((s.2.1 239 a1.toInt.toNat).toInt ≤ a2.toInt → (0 ≤ a1.toInt ∧ a1.toInt < 48) ∧ (wl_209_51 T  a1 (s.2.1 242 a1.toInt.toNat)  s P)) ∧ (¬ ((s.2.1 239 a1.toInt.toNat).toInt ≤ a2.toInt) → (-2147483648 ≤ 6 * a1.toInt ∧ 6 * a1.toInt ≤ 2147483647) ∧ (∀ x1 : Int32, x1.toInt = 6 * a1.toInt → (-2147483648 ≤ x1.toInt + a2.toInt ∧ x1.toInt + a2.toInt ≤ 2147483647) ∧ (∀ x2 : Int32, x2.toInt = x1.toInt + a2.toInt → (0 ≤ x2.toInt ∧ x2.toInt < 288) ∧ (T 204 [.ref 213, .int (s.2.1 241 x2.toInt.toNat), .int 0] s (fun v4 s3 => v4 = none ∧ ((-2147483648 ≤ a2.toInt + 1 ∧ a2.toInt + 1 ≤ 2147483647) ∧ (∀ x5 : Int32, x5.toInt = a2.toInt + 1 → R27 a1 x5  s3))))))))
set_option maxRecDepth 20000 in
theorem k_209_27 {d : Nat} {R27 : Int32 → Int32 → yS → Prop} {a1 : Int32} {a2 : Int32} {s : yS} {P : Option Value → yS → Prop} (r27 : ∀ a1 a2 s, R27 a1 a2 s → Go d 3 (none) xE_209 (xE_209.drop 27) [.ref 213, .int a1, .int a2, .null, .null] [] s P) (h : w_209_27 (Tot d) R27 a1 a2 s P) : Go d 3 (none) xE_209 (xE_209.drop 27) [.ref 213, .int a1, .int a2, .null, .null] [] s P := by
  unfold w_209_27 at h
  refine g_ld rfl rfl rfl ?_
  refine g_ld rfl rfl rfl ?_
  refine g_get rfl rfl ?_
  change Go _ _ _ _ _ _ [.ref 239, .int a2] _ _
  refine g_ld rfl rfl rfl ?_
  refine g_ial rfl rfl (i_in (x := a1) rfl h.1) ?_
  change Go _ _ _ _ _ _ [.int (s.2.1 239 a1.toInt.toNat), .int a2] _ _
  replace h := h.2
  refine g_brP rfl rfl ⟨fun hc => ?_, fun hc => ?_⟩
  · replace h := h.1 ((i_le (x := s.2.1 239 a1.toInt.toNat) (y := a2) rfl rfl).mp hc)
    refine g_ld rfl rfl rfl ?_
    refine g_get rfl rfl ?_
    change Go _ _ _ _ _ _ [.ref 242] _ _
    refine g_ld rfl rfl rfl ?_
    refine g_ial rfl rfl (i_in (x := a1) rfl h.1) ?_
    change Go _ _ _ _ _ _ [.int (s.2.1 242 a1.toInt.toNat)] _ _
    replace h := h.2
    refine g_st [.ref 213, .int a1, .int (s.2.1 242 a1.toInt.toNat), .null, .null] rfl rfl rfl ?_
    exact kl_209_51  h
  · replace h := h.2 (fun q => hc ((i_le (x := s.2.1 239 a1.toInt.toNat) (y := a2) rfl rfl).mpr q))
    refine g_ld rfl rfl rfl ?_
    refine g_ld rfl rfl rfl ?_
    refine g_get rfl rfl ?_
    change Go _ _ _ _ _ _ [.ref 241, .ref 213] _ _
    refine g_c [.int 6, .ref 241, .ref 213] (xo_push (.int 6)) rfl rfl ?_
    refine g_ld rfl rfl rfl ?_
    have ex1 := i_mul (x := 6) (y := a1) (show (6 : Int32).toInt = 6 by decide) rfl h.1
    have cx1 := ck_mul (x := 6) (y := a1) (show (6 : Int32).toInt = 6 by decide) rfl h.1
    replace h := h.2 _ ex1
    refine g_ca [.int (6 * a1), .ref 241, .ref 213] xo_imul rfl rfl (fun _ => cx1) ?_
    refine g_ld rfl rfl rfl ?_
    have ex2 := i_add (x := (6 * a1)) (y := a2) rfl rfl h.1
    have cx2 := ck_add (x := (6 * a1)) (y := a2) rfl rfl h.1
    replace h := h.2 _ ex2
    refine g_ca [.int ((6 * a1) + a2), .ref 241, .ref 213] xo_iadd rfl rfl (fun _ => cx2) ?_
    refine g_ial rfl rfl (i_in (x := ((6 * a1) + a2)) rfl h.1) ?_
    change Go _ _ _ _ _ _ [.int (s.2.1 241 ((6 * a1) + a2).toInt.toNat), .ref 213] _ _
    replace h := h.2
    refine g_c [.int 0, .int (s.2.1 241 ((6 * a1) + a2).toInt.toNat), .ref 213] (xo_push (.int 0)) rfl rfl ?_
    refine g_call [.ref 213, .int (s.2.1 241 ((6 * a1) + a2).toInt.toNat), .int 0] [] rfl rfl rfl (Tot.imp h (fun v4 s3 h => ?_))
    obtain ⟨rfl, h⟩ := h
    change Go _ _ _ _ _ _ [] _ _
    have ex5 := i_add (x := a2) (y := 1) rfl (show (1 : Int32).toInt = 1 by decide) h.1
    have cx5 := ck_inc (x := a2) (n := 1) rfl h.1
    replace h := h.2 _ ex5
    refine g_inc [.ref 213, .int a1, .int (a2 + 1), .null, .null] rfl rfl rfl rfl cx5 ?_
    refine g_go rfl ?_
    exact r27 a1 (a2 + 1)  s3 h
def wl_209_27 (T : Nat → List Value → yS → (Option Value → yS → Prop) → Prop)  (a1 : Int32) (a2 : Int32) (s : yS) (P : Option Value → yS → Prop) : Prop :=
  ∃ (I : Int32 → Int32 → yS → Prop) (μ : Int32 → Int32 → yS → Nat), I a1 a2 s ∧ ∀ (a1 : Int32) (a2 : Int32) (s : yS), I a1 a2 s → w_209_27 T (fun a1' a2' s' => I a1' a2' s' ∧ μ a1' a2' s' < μ a1 a2 s) a1 a2 s P
theorem kl_209_27 {d : Nat}  {a1 : Int32} {a2 : Int32} {s : yS} {P : Option Value → yS → Prop}  (h : wl_209_27 (Tot d)  a1 a2 s P) : Go d 3 (none) xE_209 (xE_209.drop 27) [.ref 213, .int a1, .int a2, .null, .null] [] s P := by
  obtain ⟨I, μ, h0, h1⟩ := h
  have key : ∀ (n : Nat) (a1 : Int32) (a2 : Int32) (s : yS), μ a1 a2 s = n → I a1 a2 s → Go d 3 (none) xE_209 (xE_209.drop 27) [.ref 213, .int a1, .int a2, .null, .null] [] s P := by
    intro n
    induction n using Nat.strongRecOn with
    | ind n ih =>
      intro a1 a2 s e hI
      exact k_209_27 (fun a1' a2' s' q => ih _ (by rw [← e]; exact q.2) _ _ _ rfl q.1) (h1 a1 a2 s hI)
  exact key _ a1 a2 s rfl h0
def w_209_7 (T : Nat → List Value → yS → (Option Value → yS → Prop) → Prop) (R7 : Int32 → Int32 → yS → Prop) (a1 : Int32) (a2 : Int32) (s : yS) (P : Option Value → yS → Prop) : Prop :=
  (0 ≤ a1.toInt ∧ a1.toInt < 48) ∧ (((s.2.1 236 a1.toInt.toNat).toInt ≤ a2.toInt → wl_209_27 T  a1 0  s P) ∧ (¬ ((s.2.1 236 a1.toInt.toNat).toInt ≤ a2.toInt) → (-2147483648 ≤ 6 * a1.toInt ∧ 6 * a1.toInt ≤ 2147483647) ∧ (∀ x1 : Int32, x1.toInt = 6 * a1.toInt → (-2147483648 ≤ x1.toInt + a2.toInt ∧ x1.toInt + a2.toInt ≤ 2147483647) ∧ (∀ x2 : Int32, x2.toInt = x1.toInt + a2.toInt → (0 ≤ x2.toInt ∧ x2.toInt < 288) ∧ (T 207 [.ref 213, .int (s.2.1 238 x2.toInt.toNat)] s (fun v4 s3 => v4 = none ∧ ((-2147483648 ≤ a2.toInt + 1 ∧ a2.toInt + 1 ≤ 2147483647) ∧ (∀ x5 : Int32, x5.toInt = a2.toInt + 1 → R7 a1 x5  s3))))))))
set_option maxRecDepth 20000 in
theorem k_209_7 {d : Nat} {R7 : Int32 → Int32 → yS → Prop} {a1 : Int32} {a2 : Int32} {s : yS} {P : Option Value → yS → Prop} (r7 : ∀ a1 a2 s, R7 a1 a2 s → Go d 3 (none) xE_209 (xE_209.drop 7) [.ref 213, .int a1, .int a2, .null, .null] [] s P) (h : w_209_7 (Tot d) R7 a1 a2 s P) : Go d 3 (none) xE_209 (xE_209.drop 7) [.ref 213, .int a1, .int a2, .null, .null] [] s P := by
  unfold w_209_7 at h
  refine g_ld rfl rfl rfl ?_
  refine g_ld rfl rfl rfl ?_
  refine g_get rfl rfl ?_
  change Go _ _ _ _ _ _ [.ref 236, .int a2] _ _
  refine g_ld rfl rfl rfl ?_
  refine g_ial rfl rfl (i_in (x := a1) rfl h.1) ?_
  change Go _ _ _ _ _ _ [.int (s.2.1 236 a1.toInt.toNat), .int a2] _ _
  replace h := h.2
  refine g_brP rfl rfl ⟨fun hc => ?_, fun hc => ?_⟩
  · replace h := h.1 ((i_le (x := s.2.1 236 a1.toInt.toNat) (y := a2) rfl rfl).mp hc)
    refine g_c [.int 0] (xo_push (.int 0)) rfl rfl ?_
    refine g_st [.ref 213, .int a1, .int 0, .null, .null] rfl rfl rfl ?_
    exact kl_209_27  h
  · replace h := h.2 (fun q => hc ((i_le (x := s.2.1 236 a1.toInt.toNat) (y := a2) rfl rfl).mpr q))
    refine g_ld rfl rfl rfl ?_
    refine g_ld rfl rfl rfl ?_
    refine g_get rfl rfl ?_
    change Go _ _ _ _ _ _ [.ref 238, .ref 213] _ _
    refine g_c [.int 6, .ref 238, .ref 213] (xo_push (.int 6)) rfl rfl ?_
    refine g_ld rfl rfl rfl ?_
    have ex1 := i_mul (x := 6) (y := a1) (show (6 : Int32).toInt = 6 by decide) rfl h.1
    have cx1 := ck_mul (x := 6) (y := a1) (show (6 : Int32).toInt = 6 by decide) rfl h.1
    replace h := h.2 _ ex1
    refine g_ca [.int (6 * a1), .ref 238, .ref 213] xo_imul rfl rfl (fun _ => cx1) ?_
    refine g_ld rfl rfl rfl ?_
    have ex2 := i_add (x := (6 * a1)) (y := a2) rfl rfl h.1
    have cx2 := ck_add (x := (6 * a1)) (y := a2) rfl rfl h.1
    replace h := h.2 _ ex2
    refine g_ca [.int ((6 * a1) + a2), .ref 238, .ref 213] xo_iadd rfl rfl (fun _ => cx2) ?_
    refine g_ial rfl rfl (i_in (x := ((6 * a1) + a2)) rfl h.1) ?_
    change Go _ _ _ _ _ _ [.int (s.2.1 238 ((6 * a1) + a2).toInt.toNat), .ref 213] _ _
    replace h := h.2
    refine g_call [.ref 213, .int (s.2.1 238 ((6 * a1) + a2).toInt.toNat)] [] rfl rfl rfl (Tot.imp h (fun v4 s3 h => ?_))
    obtain ⟨rfl, h⟩ := h
    change Go _ _ _ _ _ _ [] _ _
    have ex5 := i_add (x := a2) (y := 1) rfl (show (1 : Int32).toInt = 1 by decide) h.1
    have cx5 := ck_inc (x := a2) (n := 1) rfl h.1
    replace h := h.2 _ ex5
    refine g_inc [.ref 213, .int a1, .int (a2 + 1), .null, .null] rfl rfl rfl rfl cx5 ?_
    refine g_go rfl ?_
    exact r7 a1 (a2 + 1)  s3 h
def wl_209_7 (T : Nat → List Value → yS → (Option Value → yS → Prop) → Prop)  (a1 : Int32) (a2 : Int32) (s : yS) (P : Option Value → yS → Prop) : Prop :=
  ∃ (I : Int32 → Int32 → yS → Prop) (μ : Int32 → Int32 → yS → Nat), I a1 a2 s ∧ ∀ (a1 : Int32) (a2 : Int32) (s : yS), I a1 a2 s → w_209_7 T (fun a1' a2' s' => I a1' a2' s' ∧ μ a1' a2' s' < μ a1 a2 s) a1 a2 s P
theorem kl_209_7 {d : Nat}  {a1 : Int32} {a2 : Int32} {s : yS} {P : Option Value → yS → Prop}  (h : wl_209_7 (Tot d)  a1 a2 s P) : Go d 3 (none) xE_209 (xE_209.drop 7) [.ref 213, .int a1, .int a2, .null, .null] [] s P := by
  obtain ⟨I, μ, h0, h1⟩ := h
  have key : ∀ (n : Nat) (a1 : Int32) (a2 : Int32) (s : yS), μ a1 a2 s = n → I a1 a2 s → Go d 3 (none) xE_209 (xE_209.drop 7) [.ref 213, .int a1, .int a2, .null, .null] [] s P := by
    intro n
    induction n using Nat.strongRecOn with
    | ind n ih =>
      intro a1 a2 s e hI
      exact k_209_7 (fun a1' a2' s' q => ih _ (by rw [← e]; exact q.2) _ _ _ rfl q.1) (h1 a1 a2 s hI)
  exact key _ a1 a2 s rfl h0
def w_209_0 (T : Nat → List Value → yS → (Option Value → yS → Prop) → Prop)  (a1 : Int32) (s : yS) (P : Option Value → yS → Prop) : Prop :=
  T 206 [.ref 213, .int a1, .int (-1), .int (-1)] s (fun v2 s1 => v2 = none ∧ (wl_209_7 T  a1 0  s1 P))
set_option maxRecDepth 20000 in
theorem k_209_0 {d : Nat}  {a1 : Int32} {s : yS} {P : Option Value → yS → Prop}  (h : w_209_0 (Tot d)  a1 s P) : Go d 3 (none) xE_209 (xE_209.drop 0) [.ref 213, .int a1, .null, .null, .null] [] s P := by
  unfold w_209_0 at h
  refine g_ld rfl rfl rfl ?_
  refine g_ld rfl rfl rfl ?_
  refine g_c [.int (-1), .int a1, .ref 213] (xo_push (.int (-1))) rfl rfl ?_
  refine g_c [.int (-1), .int (-1), .int a1, .ref 213] (xo_push (.int (-1))) rfl rfl ?_
  refine g_call [.ref 213, .int a1, .int (-1), .int (-1)] [] rfl rfl rfl (Tot.imp h (fun v2 s1 h => ?_))
  obtain ⟨rfl, h⟩ := h
  change Go _ _ _ _ _ _ [] _ _
  refine g_c [.int 0] (xo_push (.int 0)) rfl rfl ?_
  refine g_st [.ref 213, .int a1, .int 0, .null, .null] rfl rfl rfl ?_
  exact kl_209_7  h
theorem t_209 {d : Nat} {a1 : Int32} {s : yS} {P : Option Value → yS → Prop} (h : w_209_0 (Tot d) a1 s P) : Tot (d + 1) 209 [.ref 213, .int a1] s P := tot_of (E := xE_209) (ml := 3) (ret := none) rfl rfl rfl (k_209_0 h)
/-! funcWords -/
def w_210_68 (T : Nat → List Value → yS → (Option Value → yS → Prop) → Prop)  (a1 : Int32) (a2 : Int32) (s : yS) (P : Option Value → yS → Prop) : Prop :=
  (0 ≤ a1.toInt ∧ a1.toInt < 120) ∧ (∀ s1, s1 = sa s 261 a1.toInt.toNat a2 → (0 ≤ a1.toInt ∧ a1.toInt < 120) ∧ (T 208 [.ref 213, .int (s1.2.1 257 a1.toInt.toNat), .int (-1), .int a1] s1 (fun v3 s2 => v3 = none ∧ (P none s2))))
set_option maxRecDepth 20000 in
theorem k_210_68 {d : Nat}  {a1 : Int32} {a2 : Int32} {s : yS} {P : Option Value → yS → Prop}  (h : w_210_68 (Tot d)  a1 a2 s P) : Go d 3 (none) xE_210 (xE_210.drop 68) [.ref 213, .int a1, .int a2, .null, .null] [] s P := by
  unfold w_210_68 at h
  refine g_ld rfl rfl rfl ?_
  refine g_get rfl rfl ?_
  change Go _ _ _ _ _ _ [.ref 261] _ _
  refine g_ld rfl rfl rfl ?_
  refine g_ld rfl rfl rfl ?_
  refine g_ias rfl rfl (i_in (x := a1) rfl h.1) ?_
  replace h := h.2
  replace h := h _ rfl
  refine g_ld rfl rfl rfl ?_
  refine g_ld rfl rfl rfl ?_
  refine g_get rfl rfl ?_
  change Go _ _ _ _ _ _ [.ref 257, .ref 213] _ _
  refine g_ld rfl rfl rfl ?_
  refine g_ial rfl rfl (i_in (x := a1) rfl h.1) ?_
  change Go _ _ _ _ _ _ [.int ((sa s 261 a1.toInt.toNat a2).2.1 257 a1.toInt.toNat), .ref 213] _ _
  replace h := h.2
  refine g_c [.int (-1), .int ((sa s 261 a1.toInt.toNat a2).2.1 257 a1.toInt.toNat), .ref 213] (xo_push (.int (-1))) rfl rfl ?_
  refine g_ld rfl rfl rfl ?_
  refine g_call [.ref 213, .int ((sa s 261 a1.toInt.toNat a2).2.1 257 a1.toInt.toNat), .int (-1), .int a1] [] rfl rfl rfl (Tot.imp h (fun v3 s2 h => ?_))
  obtain ⟨rfl, h⟩ := h
  change Go _ _ _ _ _ _ [] _ _
  exact g_ret0 rfl h
def w_210_0 (T : Nat → List Value → yS → (Option Value → yS → Prop) → Prop)  (a1 : Int32) (s : yS) (P : Option Value → yS → Prop) : Prop :=
  ((s.1 8).toInt ≤ 0 → T 206 [.ref 213, .int (-1), .int (-1), .int (-1)] s (fun v2 s1 => v2 = none ∧ ((0 ≤ a1.toInt ∧ a1.toInt < 120) ∧ ((0 ≤ (s1.2.1 254 a1.toInt.toNat).toInt ∧ (s1.2.1 254 a1.toInt.toNat).toInt < 12006) ∧ (T 203 [.ref 213, .int (s1.2.1 217 (s1.2.1 254 a1.toInt.toNat).toInt.toNat)] s1 (fun v4 s3 => ∃ x5, v4 = some (.int x5) ∧ ((0 ≤ x5.toInt → (-2147483648 ≤ 24 * (s3.1 75).toInt ∧ 24 * (s3.1 75).toInt ≤ 2147483647) ∧ (∀ x6 : Int32, x6.toInt = 24 * (s3.1 75).toInt → (-2147483648 ≤ x6.toInt + x5.toInt ∧ x6.toInt + x5.toInt ≤ 2147483647) ∧ (∀ x7 : Int32, x7.toInt = x6.toInt + x5.toInt → (0 ≤ x7.toInt ∧ x7.toInt < 48) ∧ ((¬ ((s3.2.1 235 x7.toInt.toNat).toInt = 0) → (-2147483648 ≤ 24 * (s3.1 75).toInt ∧ 24 * (s3.1 75).toInt ≤ 2147483647) ∧ (∀ x8 : Int32, x8.toInt = 24 * (s3.1 75).toInt → (-2147483648 ≤ x8.toInt + x5.toInt ∧ x8.toInt + x5.toInt ≤ 2147483647) ∧ (∀ x9 : Int32, x9.toInt = x8.toInt + x5.toInt → (0 ≤ x9.toInt ∧ x9.toInt < 48) ∧ ((0 ≤ a1.toInt ∧ a1.toInt < 120) ∧ (((s3.2.1 236 x9.toInt.toNat).toInt = (s3.2.1 255 a1.toInt.toNat).toInt → w_210_68 T  a1 x5  s3 P) ∧ (¬ ((s3.2.1 236 x9.toInt.toNat).toInt = (s3.2.1 255 a1.toInt.toNat).toInt) → (0 ≤ a1.toInt ∧ a1.toInt < 120) ∧ (T 163 [.ref 213, .int 4, .int (s3.2.1 254 a1.toInt.toNat)] s3 (fun v11 s10 => v11 = none ∧ (w_210_68 T  a1 x5  s10 P))))))))) ∧ ((s3.2.1 235 x7.toInt.toNat).toInt = 0 → (0 ≤ a1.toInt ∧ a1.toInt < 120) ∧ (T 163 [.ref 213, .int 6, .int (s3.2.1 254 a1.toInt.toNat)] s3 (fun v13 s12 => v13 = none ∧ (w_210_68 T  a1 x5  s12 P)))))))) ∧ (¬ (0 ≤ x5.toInt) → (0 ≤ a1.toInt ∧ a1.toInt < 120) ∧ (T 163 [.ref 213, .int 2, .int (s3.2.1 254 a1.toInt.toNat)] s3 (fun v15 s14 => v15 = none ∧ (w_210_68 T  a1 x5  s14 P))))))))))) ∧ (¬ ((s.1 8).toInt ≤ 0) → P none s)
set_option maxRecDepth 20000 in
theorem k_210_0 {d : Nat}  {a1 : Int32} {s : yS} {P : Option Value → yS → Prop}  (h : w_210_0 (Tot d)  a1 s P) : Go d 3 (none) xE_210 (xE_210.drop 0) [.ref 213, .int a1, .null, .null, .null] [] s P := by
  unfold w_210_0 at h
  refine g_ld rfl rfl rfl ?_
  refine g_get rfl rfl ?_
  change Go _ _ _ _ _ _ [.int (s.1 8)] _ _
  refine g_brP rfl rfl ⟨fun hc => ?_, fun hc => ?_⟩
  · replace h := h.1 ((i_le (x := s.1 8) (y := 0) rfl (show (0 : Int32).toInt = 0 by decide)).mp hc)
    refine g_ld rfl rfl rfl ?_
    refine g_c [.int (-1), .ref 213] (xo_push (.int (-1))) rfl rfl ?_
    refine g_c [.int (-1), .int (-1), .ref 213] (xo_push (.int (-1))) rfl rfl ?_
    refine g_c [.int (-1), .int (-1), .int (-1), .ref 213] (xo_push (.int (-1))) rfl rfl ?_
    refine g_call [.ref 213, .int (-1), .int (-1), .int (-1)] [] rfl rfl rfl (Tot.imp h (fun v2 s1 h => ?_))
    obtain ⟨rfl, h⟩ := h
    change Go _ _ _ _ _ _ [] _ _
    refine g_ld rfl rfl rfl ?_
    refine g_ld rfl rfl rfl ?_
    refine g_get rfl rfl ?_
    change Go _ _ _ _ _ _ [.ref 217, .ref 213] _ _
    refine g_ld rfl rfl rfl ?_
    refine g_get rfl rfl ?_
    change Go _ _ _ _ _ _ [.ref 254, .ref 217, .ref 213] _ _
    refine g_ld rfl rfl rfl ?_
    refine g_ial rfl rfl (i_in (x := a1) rfl h.1) ?_
    change Go _ _ _ _ _ _ [.int (s1.2.1 254 a1.toInt.toNat), .ref 217, .ref 213] _ _
    replace h := h.2
    refine g_ial rfl rfl (i_in (x := s1.2.1 254 a1.toInt.toNat) rfl h.1) ?_
    change Go _ _ _ _ _ _ [.int (s1.2.1 217 (s1.2.1 254 a1.toInt.toNat).toInt.toNat), .ref 213] _ _
    replace h := h.2
    refine g_call [.ref 213, .int (s1.2.1 217 (s1.2.1 254 a1.toInt.toNat).toInt.toNat)] [] rfl rfl rfl (Tot.imp h (fun v4 s3 h => ?_))
    obtain ⟨x5, rfl, h⟩ := h
    change Go _ _ _ _ _ _ [.int x5] _ _
    refine g_st [.ref 213, .int a1, .int x5, .null, .null] rfl rfl rfl ?_
    refine g_ld rfl rfl rfl ?_
    refine g_brP rfl rfl ⟨fun hc => ?_, fun hc => ?_⟩
    · replace h := h.1 ((i_le (x := 0) (y := x5) (show (0 : Int32).toInt = 0 by decide) rfl).mp hc)
      refine g_ld rfl rfl rfl ?_
      refine g_get rfl rfl ?_
      change Go _ _ _ _ _ _ [.ref 235] _ _
      refine g_c [.int 24, .ref 235] (xo_push (.int 24)) rfl rfl ?_
      refine g_ld rfl rfl rfl ?_
      refine g_get rfl rfl ?_
      change Go _ _ _ _ _ _ [.int (s3.1 75), .int 24, .ref 235] _ _
      have ex6 := i_mul (x := 24) (y := s3.1 75) (show (24 : Int32).toInt = 24 by decide) rfl h.1
      have cx6 := ck_mul (x := 24) (y := s3.1 75) (show (24 : Int32).toInt = 24 by decide) rfl h.1
      replace h := h.2 _ ex6
      refine g_ca [.int (24 * (s3.1 75)), .ref 235] xo_imul rfl rfl (fun _ => cx6) ?_
      refine g_ld rfl rfl rfl ?_
      have ex7 := i_add (x := (24 * (s3.1 75))) (y := x5) rfl rfl h.1
      have cx7 := ck_add (x := (24 * (s3.1 75))) (y := x5) rfl rfl h.1
      replace h := h.2 _ ex7
      refine g_ca [.int ((24 * (s3.1 75)) + x5), .ref 235] xo_iadd rfl rfl (fun _ => cx7) ?_
      refine g_zal rfl rfl (i_in (x := ((24 * (s3.1 75)) + x5)) rfl h.1) ?_
      change Go _ _ _ _ _ _ [.int (s3.2.1 235 ((24 * (s3.1 75)) + x5).toInt.toNat)] _ _
      replace h := h.2
      refine g_brN rfl rfl ⟨fun hc => ?_, fun hc => ?_⟩
      · replace h := h.1 (fun q => hc ((i_eq (x := s3.2.1 235 ((24 * (s3.1 75)) + x5).toInt.toNat) (y := 0) rfl (show (0 : Int32).toInt = 0 by decide)).mpr q))
        refine g_ld rfl rfl rfl ?_
        refine g_get rfl rfl ?_
        change Go _ _ _ _ _ _ [.ref 236] _ _
        refine g_c [.int 24, .ref 236] (xo_push (.int 24)) rfl rfl ?_
        refine g_ld rfl rfl rfl ?_
        refine g_get rfl rfl ?_
        change Go _ _ _ _ _ _ [.int (s3.1 75), .int 24, .ref 236] _ _
        have ex8 := i_mul (x := 24) (y := s3.1 75) (show (24 : Int32).toInt = 24 by decide) rfl h.1
        have cx8 := ck_mul (x := 24) (y := s3.1 75) (show (24 : Int32).toInt = 24 by decide) rfl h.1
        replace h := h.2 _ ex8
        refine g_ca [.int (24 * (s3.1 75)), .ref 236] xo_imul rfl rfl (fun _ => cx8) ?_
        refine g_ld rfl rfl rfl ?_
        have ex9 := i_add (x := (24 * (s3.1 75))) (y := x5) rfl rfl h.1
        have cx9 := ck_add (x := (24 * (s3.1 75))) (y := x5) rfl rfl h.1
        replace h := h.2 _ ex9
        refine g_ca [.int ((24 * (s3.1 75)) + x5), .ref 236] xo_iadd rfl rfl (fun _ => cx9) ?_
        refine g_ial rfl rfl (i_in (x := ((24 * (s3.1 75)) + x5)) rfl h.1) ?_
        change Go _ _ _ _ _ _ [.int (s3.2.1 236 ((24 * (s3.1 75)) + x5).toInt.toNat)] _ _
        replace h := h.2
        refine g_ld rfl rfl rfl ?_
        refine g_get rfl rfl ?_
        change Go _ _ _ _ _ _ [.ref 255, .int (s3.2.1 236 ((24 * (s3.1 75)) + x5).toInt.toNat)] _ _
        refine g_ld rfl rfl rfl ?_
        refine g_ial rfl rfl (i_in (x := a1) rfl h.1) ?_
        change Go _ _ _ _ _ _ [.int (s3.2.1 255 a1.toInt.toNat), .int (s3.2.1 236 ((24 * (s3.1 75)) + x5).toInt.toNat)] _ _
        replace h := h.2
        refine g_brP rfl rfl ⟨fun hc => ?_, fun hc => ?_⟩
        · replace h := h.1 ((i_eq (x := s3.2.1 236 ((24 * (s3.1 75)) + x5).toInt.toNat) (y := s3.2.1 255 a1.toInt.toNat) rfl rfl).mp hc)
          exact k_210_68  h
        · replace h := h.2 (fun q => hc ((i_eq (x := s3.2.1 236 ((24 * (s3.1 75)) + x5).toInt.toNat) (y := s3.2.1 255 a1.toInt.toNat) rfl rfl).mpr q))
          refine g_ld rfl rfl rfl ?_
          refine g_c [.int 4, .ref 213] (xo_push (.int 4)) rfl rfl ?_
          refine g_ld rfl rfl rfl ?_
          refine g_get rfl rfl ?_
          change Go _ _ _ _ _ _ [.ref 254, .int 4, .ref 213] _ _
          refine g_ld rfl rfl rfl ?_
          refine g_ial rfl rfl (i_in (x := a1) rfl h.1) ?_
          change Go _ _ _ _ _ _ [.int (s3.2.1 254 a1.toInt.toNat), .int 4, .ref 213] _ _
          replace h := h.2
          refine g_call [.ref 213, .int 4, .int (s3.2.1 254 a1.toInt.toNat)] [] rfl rfl rfl (Tot.imp h (fun v11 s10 h => ?_))
          obtain ⟨rfl, h⟩ := h
          change Go _ _ _ _ _ _ [] _ _
          exact k_210_68  h
      · replace h := h.2 ((i_eq (x := s3.2.1 235 ((24 * (s3.1 75)) + x5).toInt.toNat) (y := 0) rfl (show (0 : Int32).toInt = 0 by decide)).mp hc)
        refine g_ld rfl rfl rfl ?_
        refine g_c [.int 6, .ref 213] (xo_push (.int 6)) rfl rfl ?_
        refine g_ld rfl rfl rfl ?_
        refine g_get rfl rfl ?_
        change Go _ _ _ _ _ _ [.ref 254, .int 6, .ref 213] _ _
        refine g_ld rfl rfl rfl ?_
        refine g_ial rfl rfl (i_in (x := a1) rfl h.1) ?_
        change Go _ _ _ _ _ _ [.int (s3.2.1 254 a1.toInt.toNat), .int 6, .ref 213] _ _
        replace h := h.2
        refine g_call [.ref 213, .int 6, .int (s3.2.1 254 a1.toInt.toNat)] [] rfl rfl rfl (Tot.imp h (fun v13 s12 h => ?_))
        obtain ⟨rfl, h⟩ := h
        change Go _ _ _ _ _ _ [] _ _
        refine g_go rfl ?_
        exact k_210_68  h
    · replace h := h.2 (fun q => hc ((i_le (x := 0) (y := x5) (show (0 : Int32).toInt = 0 by decide) rfl).mpr q))
      refine g_ld rfl rfl rfl ?_
      refine g_c [.int 2, .ref 213] (xo_push (.int 2)) rfl rfl ?_
      refine g_ld rfl rfl rfl ?_
      refine g_get rfl rfl ?_
      change Go _ _ _ _ _ _ [.ref 254, .int 2, .ref 213] _ _
      refine g_ld rfl rfl rfl ?_
      refine g_ial rfl rfl (i_in (x := a1) rfl h.1) ?_
      change Go _ _ _ _ _ _ [.int (s3.2.1 254 a1.toInt.toNat), .int 2, .ref 213] _ _
      replace h := h.2
      refine g_call [.ref 213, .int 2, .int (s3.2.1 254 a1.toInt.toNat)] [] rfl rfl rfl (Tot.imp h (fun v15 s14 h => ?_))
      obtain ⟨rfl, h⟩ := h
      change Go _ _ _ _ _ _ [] _ _
      refine g_go rfl ?_
      exact k_210_68  h
  · replace h := h.2 (fun q => hc ((i_le (x := s.1 8) (y := 0) rfl (show (0 : Int32).toInt = 0 by decide)).mpr q))
    exact g_ret0 rfl h
theorem t_210 {d : Nat} {a1 : Int32} {s : yS} {P : Option Value → yS → Prop} (h : w_210_0 (Tot d) a1 s P) : Tot (d + 1) 210 [.ref 213, .int a1] s P := tot_of (E := xE_210) (ml := 3) (ret := none) rfl rfl rfl (k_210_0 h)
/-! bounds -/
def w_211_107 (T : Nat → List Value → yS → (Option Value → yS → Prop) → Prop)  (a1 : Int32) (a2 : Int32) (a3 : Int32) (a4 : Int32) (a5 : Int32) (s : yS) (P : Option Value → yS → Prop) : Prop :=
  (-2147483648 ≤ (s.1 70).toInt - 1 ∧ (s.1 70).toInt - 1 ≤ 2147483647) ∧ (∀ x1 : Int32, x1.toInt = (s.1 70).toInt - 1 → ∀ s2, s2 = sf s 70 x1 → P none s2)
set_option maxRecDepth 20000 in
theorem k_211_107 {d : Nat}  {a1 : Int32} {a2 : Int32} {a3 : Int32} {a4 : Int32} {a5 : Int32} {s : yS} {P : Option Value → yS → Prop}  (h : w_211_107 (Tot d)  a1 a2 a3 a4 a5 s P) : Go d 6 (none) xE_211 (xE_211.drop 107) [.ref 213, .int a1, .int a2, .int a3, .int a4, .int a5, .null, .null] [] s P := by
  unfold w_211_107 at h
  refine g_ld rfl rfl rfl ?_
  refine g_c [.ref 213, .ref 213] xo_dup rfl rfl ?_
  refine g_get rfl rfl ?_
  change Go _ _ _ _ _ _ [.int (s.1 70), .ref 213] _ _
  refine g_c [.int 1, .int (s.1 70), .ref 213] (xo_push (.int 1)) rfl rfl ?_
  have ex1 := i_sub (x := s.1 70) (y := 1) rfl (show (1 : Int32).toInt = 1 by decide) h.1
  have cx1 := ck_sub (x := s.1 70) (y := 1) rfl (show (1 : Int32).toInt = 1 by decide) h.1
  replace h := h.2 _ ex1
  refine g_ca [.int ((s.1 70) - 1), .ref 213] xo_isub rfl rfl (fun _ => cx1) ?_
  refine g_put rfl rfl rfl ?_
  replace h := h _ rfl
  exact g_ret0 rfl h
def w_211_72 (T : Nat → List Value → yS → (Option Value → yS → Prop) → Prop) (R72 : Int32 → Int32 → Int32 → Int32 → Int32 → yS → Prop) (a1 : Int32) (a2 : Int32) (a3 : Int32) (a4 : Int32) (a5 : Int32) (s : yS) (P : Option Value → yS → Prop) : Prop :=
  (a5.toInt < 0 → w_211_107 T  a1 a2 a3 a4 a5  s P) ∧ (¬ (a5.toInt < 0) → (¬ ((s.1 8).toInt = 0) → w_211_107 T  a1 a2 a3 a4 a5  s P) ∧ ((s.1 8).toInt = 0 → (0 ≤ a5.toInt ∧ a5.toInt < 12006) ∧ ((0 ≤ a5.toInt ∧ a5.toInt < 12006) ∧ ((-2147483648 ≤ 6 * a2.toInt ∧ 6 * a2.toInt ≤ 2147483647) ∧ (∀ x1 : Int32, x1.toInt = 6 * a2.toInt → (-2147483648 ≤ x1.toInt + a4.toInt ∧ x1.toInt + a4.toInt ≤ 2147483647) ∧ (∀ x2 : Int32, x2.toInt = x1.toInt + a4.toInt → (0 ≤ x2.toInt ∧ x2.toInt < 288) ∧ ((0 ≤ a5.toInt ∧ a5.toInt < 12006) ∧ (T 212 [.ref 213, .int (s.2.1 231 a5.toInt.toNat), .int (s.2.1 232 a5.toInt.toNat), .int (s.2.1 238 x2.toInt.toNat), .int a3, .int (s.2.1 222 a5.toInt.toNat)] s (fun v4 s3 => v4 = none ∧ ((-2147483648 ≤ a4.toInt + 1 ∧ a4.toInt + 1 ≤ 2147483647) ∧ (∀ x5 : Int32, x5.toInt = a4.toInt + 1 → (0 ≤ a5.toInt ∧ a5.toInt < 12006) ∧ (R72 a1 a2 a3 x5 (s3.2.1 225 a5.toInt.toNat)  s3))))))))))))
set_option maxRecDepth 20000 in
theorem k_211_72 {d : Nat} {R72 : Int32 → Int32 → Int32 → Int32 → Int32 → yS → Prop} {a1 : Int32} {a2 : Int32} {a3 : Int32} {a4 : Int32} {a5 : Int32} {s : yS} {P : Option Value → yS → Prop} (r72 : ∀ a1 a2 a3 a4 a5 s, R72 a1 a2 a3 a4 a5 s → Go d 6 (none) xE_211 (xE_211.drop 72) [.ref 213, .int a1, .int a2, .int a3, .int a4, .int a5, .null, .null] [] s P) (h : w_211_72 (Tot d) R72 a1 a2 a3 a4 a5 s P) : Go d 6 (none) xE_211 (xE_211.drop 72) [.ref 213, .int a1, .int a2, .int a3, .int a4, .int a5, .null, .null] [] s P := by
  unfold w_211_72 at h
  refine g_ld rfl rfl rfl ?_
  refine g_brP rfl rfl ⟨fun hc => ?_, fun hc => ?_⟩
  · replace h := h.1 ((i_lt (x := a5) (y := 0) rfl (show (0 : Int32).toInt = 0 by decide)).mp hc)
    exact k_211_107  h
  · replace h := h.2 (fun q => hc ((i_lt (x := a5) (y := 0) rfl (show (0 : Int32).toInt = 0 by decide)).mpr q))
    refine g_ld rfl rfl rfl ?_
    refine g_get rfl rfl ?_
    change Go _ _ _ _ _ _ [.int (s.1 8)] _ _
    refine g_brN rfl rfl ⟨fun hc => ?_, fun hc => ?_⟩
    · replace h := h.1 (fun q => hc ((i_eq (x := s.1 8) (y := 0) rfl (show (0 : Int32).toInt = 0 by decide)).mpr q))
      exact k_211_107  h
    · replace h := h.2 ((i_eq (x := s.1 8) (y := 0) rfl (show (0 : Int32).toInt = 0 by decide)).mp hc)
      refine g_ld rfl rfl rfl ?_
      refine g_ld rfl rfl rfl ?_
      refine g_get rfl rfl ?_
      change Go _ _ _ _ _ _ [.ref 231, .ref 213] _ _
      refine g_ld rfl rfl rfl ?_
      refine g_ial rfl rfl (i_in (x := a5) rfl h.1) ?_
      change Go _ _ _ _ _ _ [.int (s.2.1 231 a5.toInt.toNat), .ref 213] _ _
      replace h := h.2
      refine g_ld rfl rfl rfl ?_
      refine g_get rfl rfl ?_
      change Go _ _ _ _ _ _ [.ref 232, .int (s.2.1 231 a5.toInt.toNat), .ref 213] _ _
      refine g_ld rfl rfl rfl ?_
      refine g_ial rfl rfl (i_in (x := a5) rfl h.1) ?_
      change Go _ _ _ _ _ _ [.int (s.2.1 232 a5.toInt.toNat), .int (s.2.1 231 a5.toInt.toNat), .ref 213] _ _
      replace h := h.2
      refine g_ld rfl rfl rfl ?_
      refine g_get rfl rfl ?_
      change Go _ _ _ _ _ _ [.ref 238, .int (s.2.1 232 a5.toInt.toNat), .int (s.2.1 231 a5.toInt.toNat), .ref 213] _ _
      refine g_c [.int 6, .ref 238, .int (s.2.1 232 a5.toInt.toNat), .int (s.2.1 231 a5.toInt.toNat), .ref 213] (xo_push (.int 6)) rfl rfl ?_
      refine g_ld rfl rfl rfl ?_
      have ex1 := i_mul (x := 6) (y := a2) (show (6 : Int32).toInt = 6 by decide) rfl h.1
      have cx1 := ck_mul (x := 6) (y := a2) (show (6 : Int32).toInt = 6 by decide) rfl h.1
      replace h := h.2 _ ex1
      refine g_ca [.int (6 * a2), .ref 238, .int (s.2.1 232 a5.toInt.toNat), .int (s.2.1 231 a5.toInt.toNat), .ref 213] xo_imul rfl rfl (fun _ => cx1) ?_
      refine g_ld rfl rfl rfl ?_
      have ex2 := i_add (x := (6 * a2)) (y := a4) rfl rfl h.1
      have cx2 := ck_add (x := (6 * a2)) (y := a4) rfl rfl h.1
      replace h := h.2 _ ex2
      refine g_ca [.int ((6 * a2) + a4), .ref 238, .int (s.2.1 232 a5.toInt.toNat), .int (s.2.1 231 a5.toInt.toNat), .ref 213] xo_iadd rfl rfl (fun _ => cx2) ?_
      refine g_ial rfl rfl (i_in (x := ((6 * a2) + a4)) rfl h.1) ?_
      change Go _ _ _ _ _ _ [.int (s.2.1 238 ((6 * a2) + a4).toInt.toNat), .int (s.2.1 232 a5.toInt.toNat), .int (s.2.1 231 a5.toInt.toNat), .ref 213] _ _
      replace h := h.2
      refine g_ld rfl rfl rfl ?_
      refine g_ld rfl rfl rfl ?_
      refine g_get rfl rfl ?_
      change Go _ _ _ _ _ _ [.ref 222, .int a3, .int (s.2.1 238 ((6 * a2) + a4).toInt.toNat), .int (s.2.1 232 a5.toInt.toNat), .int (s.2.1 231 a5.toInt.toNat), .ref 213] _ _
      refine g_ld rfl rfl rfl ?_
      refine g_ial rfl rfl (i_in (x := a5) rfl h.1) ?_
      change Go _ _ _ _ _ _ [.int (s.2.1 222 a5.toInt.toNat), .int a3, .int (s.2.1 238 ((6 * a2) + a4).toInt.toNat), .int (s.2.1 232 a5.toInt.toNat), .int (s.2.1 231 a5.toInt.toNat), .ref 213] _ _
      replace h := h.2
      refine g_call [.ref 213, .int (s.2.1 231 a5.toInt.toNat), .int (s.2.1 232 a5.toInt.toNat), .int (s.2.1 238 ((6 * a2) + a4).toInt.toNat), .int a3, .int (s.2.1 222 a5.toInt.toNat)] [] rfl rfl rfl (Tot.imp h (fun v4 s3 h => ?_))
      obtain ⟨rfl, h⟩ := h
      change Go _ _ _ _ _ _ [] _ _
      have ex5 := i_add (x := a4) (y := 1) rfl (show (1 : Int32).toInt = 1 by decide) h.1
      have cx5 := ck_inc (x := a4) (n := 1) rfl h.1
      replace h := h.2 _ ex5
      refine g_inc [.ref 213, .int a1, .int a2, .int a3, .int (a4 + 1), .int a5, .null, .null] rfl rfl rfl rfl cx5 ?_
      refine g_ld rfl rfl rfl ?_
      refine g_get rfl rfl ?_
      change Go _ _ _ _ _ _ [.ref 225] _ _
      refine g_ld rfl rfl rfl ?_
      refine g_ial rfl rfl (i_in (x := a5) rfl h.1) ?_
      change Go _ _ _ _ _ _ [.int (s3.2.1 225 a5.toInt.toNat)] _ _
      replace h := h.2
      refine g_st [.ref 213, .int a1, .int a2, .int a3, .int (a4 + 1), .int (s3.2.1 225 a5.toInt.toNat), .null, .null] rfl rfl rfl ?_
      refine g_go rfl ?_
      exact r72 a1 a2 a3 (a4 + 1) (s3.2.1 225 a5.toInt.toNat)  s3 h
def wl_211_72 (T : Nat → List Value → yS → (Option Value → yS → Prop) → Prop)  (a1 : Int32) (a2 : Int32) (a3 : Int32) (a4 : Int32) (a5 : Int32) (s : yS) (P : Option Value → yS → Prop) : Prop :=
  ∃ (I : Int32 → Int32 → Int32 → Int32 → Int32 → yS → Prop) (μ : Int32 → Int32 → Int32 → Int32 → Int32 → yS → Nat), I a1 a2 a3 a4 a5 s ∧ ∀ (a1 : Int32) (a2 : Int32) (a3 : Int32) (a4 : Int32) (a5 : Int32) (s : yS), I a1 a2 a3 a4 a5 s → w_211_72 T (fun a1' a2' a3' a4' a5' s' => I a1' a2' a3' a4' a5' s' ∧ μ a1' a2' a3' a4' a5' s' < μ a1 a2 a3 a4 a5 s) a1 a2 a3 a4 a5 s P
theorem kl_211_72 {d : Nat}  {a1 : Int32} {a2 : Int32} {a3 : Int32} {a4 : Int32} {a5 : Int32} {s : yS} {P : Option Value → yS → Prop}  (h : wl_211_72 (Tot d)  a1 a2 a3 a4 a5 s P) : Go d 6 (none) xE_211 (xE_211.drop 72) [.ref 213, .int a1, .int a2, .int a3, .int a4, .int a5, .null, .null] [] s P := by
  obtain ⟨I, μ, h0, h1⟩ := h
  have key : ∀ (n : Nat) (a1 : Int32) (a2 : Int32) (a3 : Int32) (a4 : Int32) (a5 : Int32) (s : yS), μ a1 a2 a3 a4 a5 s = n → I a1 a2 a3 a4 a5 s → Go d 6 (none) xE_211 (xE_211.drop 72) [.ref 213, .int a1, .int a2, .int a3, .int a4, .int a5, .null, .null] [] s P := by
    intro n
    induction n using Nat.strongRecOn with
    | ind n ih =>
      intro a1 a2 a3 a4 a5 s e hI
      exact k_211_72 (fun a1' a2' a3' a4' a5' s' q => ih _ (by rw [← e]; exact q.2) _ _ _ _ _ _ rfl q.1) (h1 a1 a2 a3 a4 a5 s hI)
  exact key _ a1 a2 a3 a4 a5 s rfl h0
def w_211_27 (T : Nat → List Value → yS → (Option Value → yS → Prop) → Prop)  (a1 : Int32) (a2 : Int32) (s : yS) (P : Option Value → yS → Prop) : Prop :=
  P none s
set_option maxRecDepth 20000 in
theorem k_211_27 {d : Nat}  {a1 : Int32} {a2 : Int32} {s : yS} {P : Option Value → yS → Prop}  (h : w_211_27 (Tot d)  a1 a2 s P) : Go d 6 (none) xE_211 (xE_211.drop 27) [.ref 213, .int a1, .int a2, .null, .null, .null, .null, .null] [] s P := by
  unfold w_211_27 at h
  exact g_ret0 rfl h
def w_211_19 (T : Nat → List Value → yS → (Option Value → yS → Prop) → Prop)  (a1 : Int32) (a2 : Int32) (s : yS) (P : Option Value → yS → Prop) : Prop :=
  (0 < (s.1 8).toInt → w_211_27 T  a1 a2  s P) ∧ (¬ (0 < (s.1 8).toInt) → (0 ≤ a1.toInt ∧ a1.toInt < 12006) ∧ ((¬ ((s.2.1 226 a1.toInt.toNat).toInt = 0) → (-2147483648 ≤ 24 * (s.1 75).toInt ∧ 24 * (s.1 75).toInt ≤ 2147483647) ∧ (∀ x1 : Int32, x1.toInt = 24 * (s.1 75).toInt → (0 ≤ a1.toInt ∧ a1.toInt < 12006) ∧ ((0 ≤ (s.2.1 231 a1.toInt.toNat).toInt ∧ (s.2.1 231 a1.toInt.toNat).toInt < 200000) ∧ (T 185 [.int (s.2.1 264 (s.2.1 231 a1.toInt.toNat).toInt.toNat)] s (fun v3 s2 => ∃ x4, v3 = some (.int x4) ∧ ((-2147483648 ≤ x1.toInt + x4.toInt ∧ x1.toInt + x4.toInt ≤ 2147483647) ∧ (∀ x5 : Int32, x5.toInt = x1.toInt + x4.toInt → T 188 [.ref 213] s2 (fun v7 s6 => ∃ x8, v7 = some (.int x8) ∧ ((0 ≤ a1.toInt ∧ a1.toInt < 12006) ∧ ((0 ≤ (s6.2.1 231 a1.toInt.toNat).toInt ∧ (s6.2.1 231 a1.toInt.toNat).toInt < 200000) ∧ (T 185 [.int (s6.2.1 264 (s6.2.1 231 a1.toInt.toNat).toInt.toNat)] s6 (fun v10 s9 => ∃ x11, v10 = some (.int x11) ∧ ((-2147483648 ≤ 6 * x11.toInt ∧ 6 * x11.toInt ≤ 2147483647) ∧ (∀ x12 : Int32, x12.toInt = 6 * x11.toInt → (-2147483648 ≤ 1000 + x12.toInt ∧ 1000 + x12.toInt ≤ 2147483647) ∧ (∀ x13 : Int32, x13.toInt = 1000 + x12.toInt → (0 ≤ a1.toInt ∧ a1.toInt < 12006) ∧ (T 189 [.ref 213, .int x8, .int 0, .int x13, .int (s9.2.1 231 a1.toInt.toNat)] s9 (fun v15 s14 => v15 = none ∧ ((0 ≤ a1.toInt ∧ a1.toInt < 12006) ∧ (wl_211_72 T  a1 x5 x8 0 (s14.2.1 224 a1.toInt.toNat)  s14 P))))))))))))))))))) ∧ ((s.2.1 226 a1.toInt.toNat).toInt = 0 → w_211_27 T  a1 a2  s P)))
set_option maxRecDepth 20000 in
theorem k_211_19 {d : Nat}  {a1 : Int32} {a2 : Int32} {s : yS} {P : Option Value → yS → Prop}  (h : w_211_19 (Tot d)  a1 a2 s P) : Go d 6 (none) xE_211 (xE_211.drop 19) [.ref 213, .int a1, .int a2, .null, .null, .null, .null, .null] [] s P := by
  unfold w_211_19 at h
  refine g_ld rfl rfl rfl ?_
  refine g_get rfl rfl ?_
  change Go _ _ _ _ _ _ [.int (s.1 8)] _ _
  refine g_brP rfl rfl ⟨fun hc => ?_, fun hc => ?_⟩
  · replace h := h.1 ((i_lt (x := 0) (y := s.1 8) (show (0 : Int32).toInt = 0 by decide) rfl).mp hc)
    exact k_211_27  h
  · replace h := h.2 (fun q => hc ((i_lt (x := 0) (y := s.1 8) (show (0 : Int32).toInt = 0 by decide) rfl).mpr q))
    refine g_ld rfl rfl rfl ?_
    refine g_get rfl rfl ?_
    change Go _ _ _ _ _ _ [.ref 226] _ _
    refine g_ld rfl rfl rfl ?_
    refine g_ial rfl rfl (i_in (x := a1) rfl h.1) ?_
    change Go _ _ _ _ _ _ [.int (s.2.1 226 a1.toInt.toNat)] _ _
    replace h := h.2
    refine g_brN rfl rfl ⟨fun hc => ?_, fun hc => ?_⟩
    · replace h := h.1 (fun q => hc ((i_eq (x := s.2.1 226 a1.toInt.toNat) (y := 0) rfl (show (0 : Int32).toInt = 0 by decide)).mpr q))
      refine g_c [.int 24] (xo_push (.int 24)) rfl rfl ?_
      refine g_ld rfl rfl rfl ?_
      refine g_get rfl rfl ?_
      change Go _ _ _ _ _ _ [.int (s.1 75), .int 24] _ _
      have ex1 := i_mul (x := 24) (y := s.1 75) (show (24 : Int32).toInt = 24 by decide) rfl h.1
      have cx1 := ck_mul (x := 24) (y := s.1 75) (show (24 : Int32).toInt = 24 by decide) rfl h.1
      replace h := h.2 _ ex1
      refine g_ca [.int (24 * (s.1 75))] xo_imul rfl rfl (fun _ => cx1) ?_
      refine g_ld rfl rfl rfl ?_
      refine g_get rfl rfl ?_
      change Go _ _ _ _ _ _ [.ref 264, .int (24 * (s.1 75))] _ _
      refine g_ld rfl rfl rfl ?_
      refine g_get rfl rfl ?_
      change Go _ _ _ _ _ _ [.ref 231, .ref 264, .int (24 * (s.1 75))] _ _
      refine g_ld rfl rfl rfl ?_
      refine g_ial rfl rfl (i_in (x := a1) rfl h.1) ?_
      change Go _ _ _ _ _ _ [.int (s.2.1 231 a1.toInt.toNat), .ref 264, .int (24 * (s.1 75))] _ _
      replace h := h.2
      refine g_ial rfl rfl (i_in (x := s.2.1 231 a1.toInt.toNat) rfl h.1) ?_
      change Go _ _ _ _ _ _ [.int (s.2.1 264 (s.2.1 231 a1.toInt.toNat).toInt.toNat), .int (24 * (s.1 75))] _ _
      replace h := h.2
      refine g_call [.int (s.2.1 264 (s.2.1 231 a1.toInt.toNat).toInt.toNat)] [.int (24 * (s.1 75))] rfl rfl rfl (Tot.imp h (fun v3 s2 h => ?_))
      obtain ⟨x4, rfl, h⟩ := h
      change Go _ _ _ _ _ _ [.int x4, .int (24 * (s.1 75))] _ _
      have ex5 := i_add (x := (24 * (s.1 75))) (y := x4) rfl rfl h.1
      have cx5 := ck_add (x := (24 * (s.1 75))) (y := x4) rfl rfl h.1
      replace h := h.2 _ ex5
      refine g_ca [.int ((24 * (s.1 75)) + x4)] xo_iadd rfl rfl (fun _ => cx5) ?_
      refine g_st [.ref 213, .int a1, .int ((24 * (s.1 75)) + x4), .null, .null, .null, .null, .null] rfl rfl rfl ?_
      refine g_ld rfl rfl rfl ?_
      refine g_call [.ref 213] [] rfl rfl rfl (Tot.imp h (fun v7 s6 h => ?_))
      obtain ⟨x8, rfl, h⟩ := h
      change Go _ _ _ _ _ _ [.int x8] _ _
      refine g_st [.ref 213, .int a1, .int ((24 * (s.1 75)) + x4), .int x8, .null, .null, .null, .null] rfl rfl rfl ?_
      refine g_ld rfl rfl rfl ?_
      refine g_ld rfl rfl rfl ?_
      refine g_c [.int 0, .int x8, .ref 213] (xo_push (.int 0)) rfl rfl ?_
      refine g_c [.int 1000, .int 0, .int x8, .ref 213] (xo_push (.int 1000)) rfl rfl ?_
      refine g_c [.int 6, .int 1000, .int 0, .int x8, .ref 213] (xo_push (.int 6)) rfl rfl ?_
      refine g_ld rfl rfl rfl ?_
      refine g_get rfl rfl ?_
      change Go _ _ _ _ _ _ [.ref 264, .int 6, .int 1000, .int 0, .int x8, .ref 213] _ _
      refine g_ld rfl rfl rfl ?_
      refine g_get rfl rfl ?_
      change Go _ _ _ _ _ _ [.ref 231, .ref 264, .int 6, .int 1000, .int 0, .int x8, .ref 213] _ _
      refine g_ld rfl rfl rfl ?_
      refine g_ial rfl rfl (i_in (x := a1) rfl h.1) ?_
      change Go _ _ _ _ _ _ [.int (s6.2.1 231 a1.toInt.toNat), .ref 264, .int 6, .int 1000, .int 0, .int x8, .ref 213] _ _
      replace h := h.2
      refine g_ial rfl rfl (i_in (x := s6.2.1 231 a1.toInt.toNat) rfl h.1) ?_
      change Go _ _ _ _ _ _ [.int (s6.2.1 264 (s6.2.1 231 a1.toInt.toNat).toInt.toNat), .int 6, .int 1000, .int 0, .int x8, .ref 213] _ _
      replace h := h.2
      refine g_call [.int (s6.2.1 264 (s6.2.1 231 a1.toInt.toNat).toInt.toNat)] [.int 6, .int 1000, .int 0, .int x8, .ref 213] rfl rfl rfl (Tot.imp h (fun v10 s9 h => ?_))
      obtain ⟨x11, rfl, h⟩ := h
      change Go _ _ _ _ _ _ [.int x11, .int 6, .int 1000, .int 0, .int x8, .ref 213] _ _
      have ex12 := i_mul (x := 6) (y := x11) (show (6 : Int32).toInt = 6 by decide) rfl h.1
      have cx12 := ck_mul (x := 6) (y := x11) (show (6 : Int32).toInt = 6 by decide) rfl h.1
      replace h := h.2 _ ex12
      refine g_ca [.int (6 * x11), .int 1000, .int 0, .int x8, .ref 213] xo_imul rfl rfl (fun _ => cx12) ?_
      have ex13 := i_add (x := 1000) (y := (6 * x11)) (show (1000 : Int32).toInt = 1000 by decide) rfl h.1
      have cx13 := ck_add (x := 1000) (y := (6 * x11)) (show (1000 : Int32).toInt = 1000 by decide) rfl h.1
      replace h := h.2 _ ex13
      refine g_ca [.int (1000 + (6 * x11)), .int 0, .int x8, .ref 213] xo_iadd rfl rfl (fun _ => cx13) ?_
      refine g_ld rfl rfl rfl ?_
      refine g_get rfl rfl ?_
      change Go _ _ _ _ _ _ [.ref 231, .int (1000 + (6 * x11)), .int 0, .int x8, .ref 213] _ _
      refine g_ld rfl rfl rfl ?_
      refine g_ial rfl rfl (i_in (x := a1) rfl h.1) ?_
      change Go _ _ _ _ _ _ [.int (s9.2.1 231 a1.toInt.toNat), .int (1000 + (6 * x11)), .int 0, .int x8, .ref 213] _ _
      replace h := h.2
      refine g_call [.ref 213, .int x8, .int 0, .int (1000 + (6 * x11)), .int (s9.2.1 231 a1.toInt.toNat)] [] rfl rfl rfl (Tot.imp h (fun v15 s14 h => ?_))
      obtain ⟨rfl, h⟩ := h
      change Go _ _ _ _ _ _ [] _ _
      refine g_c [.int 0] (xo_push (.int 0)) rfl rfl ?_
      refine g_st [.ref 213, .int a1, .int ((24 * (s.1 75)) + x4), .int x8, .int 0, .null, .null, .null] rfl rfl rfl ?_
      refine g_ld rfl rfl rfl ?_
      refine g_get rfl rfl ?_
      change Go _ _ _ _ _ _ [.ref 224] _ _
      refine g_ld rfl rfl rfl ?_
      refine g_ial rfl rfl (i_in (x := a1) rfl h.1) ?_
      change Go _ _ _ _ _ _ [.int (s14.2.1 224 a1.toInt.toNat)] _ _
      replace h := h.2
      refine g_st [.ref 213, .int a1, .int ((24 * (s.1 75)) + x4), .int x8, .int 0, .int (s14.2.1 224 a1.toInt.toNat), .null, .null] rfl rfl rfl ?_
      exact kl_211_72  h
    · replace h := h.2 ((i_eq (x := s.2.1 226 a1.toInt.toNat) (y := 0) rfl (show (0 : Int32).toInt = 0 by decide)).mp hc)
      exact k_211_27  h
def w_211_5 (T : Nat → List Value → yS → (Option Value → yS → Prop) → Prop) (R5 : Int32 → Int32 → yS → Prop) (a1 : Int32) (a2 : Int32) (s : yS) (P : Option Value → yS → Prop) : Prop :=
  (a2.toInt < 0 → w_211_19 T  a1 a2  s P) ∧ (¬ (a2.toInt < 0) → (¬ ((s.1 8).toInt = 0) → w_211_19 T  a1 a2  s P) ∧ ((s.1 8).toInt = 0 → T 211 [.ref 213, .int a2] s (fun v2 s1 => v2 = none ∧ ((0 ≤ a2.toInt ∧ a2.toInt < 12006) ∧ (R5 a1 (s1.2.1 225 a2.toInt.toNat)  s1)))))
set_option maxRecDepth 20000 in
theorem k_211_5 {d : Nat} {R5 : Int32 → Int32 → yS → Prop} {a1 : Int32} {a2 : Int32} {s : yS} {P : Option Value → yS → Prop} (r5 : ∀ a1 a2 s, R5 a1 a2 s → Go d 6 (none) xE_211 (xE_211.drop 5) [.ref 213, .int a1, .int a2, .null, .null, .null, .null, .null] [] s P) (h : w_211_5 (Tot d) R5 a1 a2 s P) : Go d 6 (none) xE_211 (xE_211.drop 5) [.ref 213, .int a1, .int a2, .null, .null, .null, .null, .null] [] s P := by
  unfold w_211_5 at h
  refine g_ld rfl rfl rfl ?_
  refine g_brP rfl rfl ⟨fun hc => ?_, fun hc => ?_⟩
  · replace h := h.1 ((i_lt (x := a2) (y := 0) rfl (show (0 : Int32).toInt = 0 by decide)).mp hc)
    exact k_211_19  h
  · replace h := h.2 (fun q => hc ((i_lt (x := a2) (y := 0) rfl (show (0 : Int32).toInt = 0 by decide)).mpr q))
    refine g_ld rfl rfl rfl ?_
    refine g_get rfl rfl ?_
    change Go _ _ _ _ _ _ [.int (s.1 8)] _ _
    refine g_brN rfl rfl ⟨fun hc => ?_, fun hc => ?_⟩
    · replace h := h.1 (fun q => hc ((i_eq (x := s.1 8) (y := 0) rfl (show (0 : Int32).toInt = 0 by decide)).mpr q))
      exact k_211_19  h
    · replace h := h.2 ((i_eq (x := s.1 8) (y := 0) rfl (show (0 : Int32).toInt = 0 by decide)).mp hc)
      refine g_ld rfl rfl rfl ?_
      refine g_ld rfl rfl rfl ?_
      refine g_call [.ref 213, .int a2] [] rfl rfl rfl (Tot.imp h (fun v2 s1 h => ?_))
      obtain ⟨rfl, h⟩ := h
      change Go _ _ _ _ _ _ [] _ _
      refine g_ld rfl rfl rfl ?_
      refine g_get rfl rfl ?_
      change Go _ _ _ _ _ _ [.ref 225] _ _
      refine g_ld rfl rfl rfl ?_
      refine g_ial rfl rfl (i_in (x := a2) rfl h.1) ?_
      change Go _ _ _ _ _ _ [.int (s1.2.1 225 a2.toInt.toNat)] _ _
      replace h := h.2
      refine g_st [.ref 213, .int a1, .int (s1.2.1 225 a2.toInt.toNat), .null, .null, .null, .null, .null] rfl rfl rfl ?_
      refine g_go rfl ?_
      exact r5 a1 (s1.2.1 225 a2.toInt.toNat)  s1 h
def wl_211_5 (T : Nat → List Value → yS → (Option Value → yS → Prop) → Prop)  (a1 : Int32) (a2 : Int32) (s : yS) (P : Option Value → yS → Prop) : Prop :=
  ∃ (I : Int32 → Int32 → yS → Prop) (μ : Int32 → Int32 → yS → Nat), I a1 a2 s ∧ ∀ (a1 : Int32) (a2 : Int32) (s : yS), I a1 a2 s → w_211_5 T (fun a1' a2' s' => I a1' a2' s' ∧ μ a1' a2' s' < μ a1 a2 s) a1 a2 s P
theorem kl_211_5 {d : Nat}  {a1 : Int32} {a2 : Int32} {s : yS} {P : Option Value → yS → Prop}  (h : wl_211_5 (Tot d)  a1 a2 s P) : Go d 6 (none) xE_211 (xE_211.drop 5) [.ref 213, .int a1, .int a2, .null, .null, .null, .null, .null] [] s P := by
  obtain ⟨I, μ, h0, h1⟩ := h
  have key : ∀ (n : Nat) (a1 : Int32) (a2 : Int32) (s : yS), μ a1 a2 s = n → I a1 a2 s → Go d 6 (none) xE_211 (xE_211.drop 5) [.ref 213, .int a1, .int a2, .null, .null, .null, .null, .null] [] s P := by
    intro n
    induction n using Nat.strongRecOn with
    | ind n ih =>
      intro a1 a2 s e hI
      exact k_211_5 (fun a1' a2' s' q => ih _ (by rw [← e]; exact q.2) _ _ _ rfl q.1) (h1 a1 a2 s hI)
  exact key _ a1 a2 s rfl h0
def w_211_0 (T : Nat → List Value → yS → (Option Value → yS → Prop) → Prop)  (a1 : Int32) (s : yS) (P : Option Value → yS → Prop) : Prop :=
  (0 ≤ a1.toInt ∧ a1.toInt < 12006) ∧ (wl_211_5 T  a1 (s.2.1 224 a1.toInt.toNat)  s P)
set_option maxRecDepth 20000 in
theorem k_211_0 {d : Nat}  {a1 : Int32} {s : yS} {P : Option Value → yS → Prop}  (h : w_211_0 (Tot d)  a1 s P) : Go d 6 (none) xE_211 (xE_211.drop 0) [.ref 213, .int a1, .null, .null, .null, .null, .null, .null] [] s P := by
  unfold w_211_0 at h
  refine g_ld rfl rfl rfl ?_
  refine g_get rfl rfl ?_
  change Go _ _ _ _ _ _ [.ref 224] _ _
  refine g_ld rfl rfl rfl ?_
  refine g_ial rfl rfl (i_in (x := a1) rfl h.1) ?_
  change Go _ _ _ _ _ _ [.int (s.2.1 224 a1.toInt.toNat)] _ _
  replace h := h.2
  refine g_st [.ref 213, .int a1, .int (s.2.1 224 a1.toInt.toNat), .null, .null, .null, .null, .null] rfl rfl rfl ?_
  exact kl_211_5  h
theorem t_211 {d : Nat} {a1 : Int32} {s : yS} {P : Option Value → yS → Prop} (h : w_211_0 (Tot d) a1 s P) : Tot (d + 1) 211 [.ref 213, .int a1] s P := tot_of (E := xE_211) (ml := 6) (ret := none) rfl rfl rfl (k_211_0 h)
/-! fits -/
def w_212_40 (T : Nat → List Value → yS → (Option Value → yS → Prop) → Prop)  (a1 : Int32) (a2 : Int32) (a3 : Int32) (a4 : Int32) (a5 : Int32) (a6 : Int32) (a7 : Int32) (s : yS) (P : Option Value → yS → Prop) : Prop :=
  ∀ s1, s1 = sf s 64 a6 → P none s1
set_option maxRecDepth 20000 in
theorem k_212_40 {d : Nat}  {a1 : Int32} {a2 : Int32} {a3 : Int32} {a4 : Int32} {a5 : Int32} {a6 : Int32} {a7 : Int32} {s : yS} {P : Option Value → yS → Prop}  (h : w_212_40 (Tot d)  a1 a2 a3 a4 a5 a6 a7 s P) : Go d 8 (none) xE_212 (xE_212.drop 40) [.ref 213, .int a1, .int a2, .int a3, .int a4, .int a5, .int a6, .int a7, .null, .null, .null, .null, .null, .null] [] s P := by
  unfold w_212_40 at h
  refine g_ld rfl rfl rfl ?_
  refine g_ld rfl rfl rfl ?_
  refine g_put rfl rfl rfl ?_
  replace h := h _ rfl
  exact g_ret0 rfl h
def w_212_38 (T : Nat → List Value → yS → (Option Value → yS → Prop) → Prop)  (a1 : Int32) (a2 : Int32) (a3 : Int32) (a4 : Int32) (a5 : Int32) (a6 : Int32) (a7 : Int32) (t1 : Int32) (s : yS) (P : Option Value → yS → Prop) : Prop :=
  T 163 [.ref 213, .int t1, .int a5] s (fun v2 s1 => v2 = none ∧ (w_212_40 T  a1 a2 a3 a4 a5 a6 a7  s1 P))
set_option maxRecDepth 20000 in
theorem k_212_38 {d : Nat}  {a1 : Int32} {a2 : Int32} {a3 : Int32} {a4 : Int32} {a5 : Int32} {a6 : Int32} {a7 : Int32} {t1 : Int32} {s : yS} {P : Option Value → yS → Prop}  (h : w_212_38 (Tot d)  a1 a2 a3 a4 a5 a6 a7 t1 s P) : Go d 8 (none) xE_212 (xE_212.drop 38) [.ref 213, .int a1, .int a2, .int a3, .int a4, .int a5, .int a6, .int a7, .null, .null, .null, .null, .null, .null] [.int t1, .ref 213] s P := by
  unfold w_212_38 at h
  refine g_ld rfl rfl rfl ?_
  refine g_call [.ref 213, .int t1, .int a5] [] rfl rfl rfl (Tot.imp h (fun v2 s1 h => ?_))
  obtain ⟨rfl, h⟩ := h
  change Go _ _ _ _ _ _ [] _ _
  exact k_212_40  h
def w_212_0 (T : Nat → List Value → yS → (Option Value → yS → Prop) → Prop)  (a1 : Int32) (a2 : Int32) (a3 : Int32) (a4 : Int32) (a5 : Int32) (s : yS) (P : Option Value → yS → Prop) : Prop :=
  (0 ≤ a3.toInt ∧ a3.toInt < 12006) ∧ ((0 ≤ a3.toInt ∧ a3.toInt < 12006) ∧ (T 191 [.ref 213, .int (s.2.1 231 a3.toInt.toNat), .int (s.2.1 232 a3.toInt.toNat), .int a4] s (fun v2 s1 => ∃ x3, v2 = some (.int x3) ∧ ((¬ (x3.toInt = 0) → T 195 [.ref 213, .int a1, .int a2, .int (s1.1 71), .int (s1.1 72)] s1 (fun v5 s4 => ∃ x6, v5 = some (.int x6) ∧ ((x6.toInt = 1 → w_212_40 T  a1 a2 a3 a4 a5 (s.1 64) x6  s4 P) ∧ (¬ (x6.toInt = 1) → (¬ (x6.toInt = 0) → w_212_38 T  a1 a2 a3 a4 a5 (s.1 64) x6 9 s4 P) ∧ (x6.toInt = 0 → w_212_38 T  a1 a2 a3 a4 a5 (s.1 64) x6 7 s4 P))))) ∧ (x3.toInt = 0 → T 163 [.ref 213, .int 9, .int a5] s1 (fun v8 s7 => v8 = none ∧ (P none s7)))))))
set_option maxRecDepth 20000 in
theorem k_212_0 {d : Nat}  {a1 : Int32} {a2 : Int32} {a3 : Int32} {a4 : Int32} {a5 : Int32} {s : yS} {P : Option Value → yS → Prop}  (h : w_212_0 (Tot d)  a1 a2 a3 a4 a5 s P) : Go d 8 (none) xE_212 (xE_212.drop 0) [.ref 213, .int a1, .int a2, .int a3, .int a4, .int a5, .null, .null, .null, .null, .null, .null, .null, .null] [] s P := by
  unfold w_212_0 at h
  refine g_ld rfl rfl rfl ?_
  refine g_get rfl rfl ?_
  change Go _ _ _ _ _ _ [.int (s.1 64)] _ _
  refine g_st [.ref 213, .int a1, .int a2, .int a3, .int a4, .int a5, .int (s.1 64), .null, .null, .null, .null, .null, .null, .null] rfl rfl rfl ?_
  refine g_ld rfl rfl rfl ?_
  refine g_ld rfl rfl rfl ?_
  refine g_get rfl rfl ?_
  change Go _ _ _ _ _ _ [.ref 231, .ref 213] _ _
  refine g_ld rfl rfl rfl ?_
  refine g_ial rfl rfl (i_in (x := a3) rfl h.1) ?_
  change Go _ _ _ _ _ _ [.int (s.2.1 231 a3.toInt.toNat), .ref 213] _ _
  replace h := h.2
  refine g_ld rfl rfl rfl ?_
  refine g_get rfl rfl ?_
  change Go _ _ _ _ _ _ [.ref 232, .int (s.2.1 231 a3.toInt.toNat), .ref 213] _ _
  refine g_ld rfl rfl rfl ?_
  refine g_ial rfl rfl (i_in (x := a3) rfl h.1) ?_
  change Go _ _ _ _ _ _ [.int (s.2.1 232 a3.toInt.toNat), .int (s.2.1 231 a3.toInt.toNat), .ref 213] _ _
  replace h := h.2
  refine g_ld rfl rfl rfl ?_
  refine g_call [.ref 213, .int (s.2.1 231 a3.toInt.toNat), .int (s.2.1 232 a3.toInt.toNat), .int a4] [] rfl rfl rfl (Tot.imp h (fun v2 s1 h => ?_))
  obtain ⟨x3, rfl, h⟩ := h
  change Go _ _ _ _ _ _ [.int x3] _ _
  refine g_brN rfl rfl ⟨fun hc => ?_, fun hc => ?_⟩
  · replace h := h.1 (fun q => hc ((i_eq (x := x3) (y := 0) rfl (show (0 : Int32).toInt = 0 by decide)).mpr q))
    refine g_ld rfl rfl rfl ?_
    refine g_ld rfl rfl rfl ?_
    refine g_ld rfl rfl rfl ?_
    refine g_ld rfl rfl rfl ?_
    refine g_get rfl rfl ?_
    change Go _ _ _ _ _ _ [.int (s1.1 71), .int a2, .int a1, .ref 213] _ _
    refine g_ld rfl rfl rfl ?_
    refine g_get rfl rfl ?_
    change Go _ _ _ _ _ _ [.int (s1.1 72), .int (s1.1 71), .int a2, .int a1, .ref 213] _ _
    refine g_call [.ref 213, .int a1, .int a2, .int (s1.1 71), .int (s1.1 72)] [] rfl rfl rfl (Tot.imp h (fun v5 s4 h => ?_))
    obtain ⟨x6, rfl, h⟩ := h
    change Go _ _ _ _ _ _ [.int x6] _ _
    refine g_st [.ref 213, .int a1, .int a2, .int a3, .int a4, .int a5, .int (s.1 64), .int x6, .null, .null, .null, .null, .null, .null] rfl rfl rfl ?_
    refine g_ld rfl rfl rfl ?_
    refine g_c [.int 1, .int x6] (xo_push (.int 1)) rfl rfl ?_
    refine g_brP rfl rfl ⟨fun hc => ?_, fun hc => ?_⟩
    · replace h := h.1 ((i_eq (x := x6) (y := 1) rfl (show (1 : Int32).toInt = 1 by decide)).mp hc)
      exact k_212_40  h
    · replace h := h.2 (fun q => hc ((i_eq (x := x6) (y := 1) rfl (show (1 : Int32).toInt = 1 by decide)).mpr q))
      refine g_ld rfl rfl rfl ?_
      refine g_ld rfl rfl rfl ?_
      refine g_brN rfl rfl ⟨fun hc => ?_, fun hc => ?_⟩
      · replace h := h.1 (fun q => hc ((i_eq (x := x6) (y := 0) rfl (show (0 : Int32).toInt = 0 by decide)).mpr q))
        refine g_c [.int 9, .ref 213] (xo_push (.int 9)) rfl rfl ?_
        exact k_212_38  h
      · replace h := h.2 ((i_eq (x := x6) (y := 0) rfl (show (0 : Int32).toInt = 0 by decide)).mp hc)
        refine g_c [.int 7, .ref 213] (xo_push (.int 7)) rfl rfl ?_
        refine g_go rfl ?_
        exact k_212_38  h
  · replace h := h.2 ((i_eq (x := x3) (y := 0) rfl (show (0 : Int32).toInt = 0 by decide)).mp hc)
    refine g_ld rfl rfl rfl ?_
    refine g_c [.int 9, .ref 213] (xo_push (.int 9)) rfl rfl ?_
    refine g_ld rfl rfl rfl ?_
    refine g_call [.ref 213, .int 9, .int a5] [] rfl rfl rfl (Tot.imp h (fun v8 s7 h => ?_))
    obtain ⟨rfl, h⟩ := h
    change Go _ _ _ _ _ _ [] _ _
    exact g_ret0 rfl h
theorem t_212 {d : Nat} {a1 : Int32} {a2 : Int32} {a3 : Int32} {a4 : Int32} {a5 : Int32} {s : yS} {P : Option Value → yS → Prop} (h : w_212_0 (Tot d) a1 a2 a3 a4 a5 s P) : Tot (d + 1) 212 [.ref 213, .int a1, .int a2, .int a3, .int a4, .int a5] s P := tot_of (E := xE_212) (ml := 8) (ret := none) rfl rfl rfl (k_212_0 h)
/-! headBounds -/
def w_213_55 (T : Nat → List Value → yS → (Option Value → yS → Prop) → Prop)  (a1 : Int32) (a2 : Int32) (s : yS) (P : Option Value → yS → Prop) : Prop :=
  P none s
set_option maxRecDepth 20000 in
theorem k_213_55 {d : Nat}  {a1 : Int32} {a2 : Int32} {s : yS} {P : Option Value → yS → Prop}  (h : w_213_55 (Tot d)  a1 a2 s P) : Go d 3 (none) xE_213 (xE_213.drop 55) [.ref 213, .int a1, .int a2, .null, .null] [] s P := by
  unfold w_213_55 at h
  exact g_ret0 rfl h
def w_213_46 (T : Nat → List Value → yS → (Option Value → yS → Prop) → Prop)  (a1 : Int32) (a2 : Int32) (s : yS) (P : Option Value → yS → Prop) : Prop :=
  (¬ ((s.1 8).toInt = 0) → w_213_55 T  a1 a2  s P) ∧ ((s.1 8).toInt = 0 → (0 ≤ a1.toInt ∧ a1.toInt < 408) ∧ (T 211 [.ref 213, .int (s.2.1 251 a1.toInt.toNat)] s (fun v2 s1 => v2 = none ∧ (w_213_55 T  a1 a2  s1 P))))
set_option maxRecDepth 20000 in
theorem k_213_46 {d : Nat}  {a1 : Int32} {a2 : Int32} {s : yS} {P : Option Value → yS → Prop}  (h : w_213_46 (Tot d)  a1 a2 s P) : Go d 3 (none) xE_213 (xE_213.drop 46) [.ref 213, .int a1, .int a2, .null, .null] [] s P := by
  unfold w_213_46 at h
  refine g_ld rfl rfl rfl ?_
  refine g_get rfl rfl ?_
  change Go _ _ _ _ _ _ [.int (s.1 8)] _ _
  refine g_brN rfl rfl ⟨fun hc => ?_, fun hc => ?_⟩
  · replace h := h.1 (fun q => hc ((i_eq (x := s.1 8) (y := 0) rfl (show (0 : Int32).toInt = 0 by decide)).mpr q))
    exact k_213_55  h
  · replace h := h.2 ((i_eq (x := s.1 8) (y := 0) rfl (show (0 : Int32).toInt = 0 by decide)).mp hc)
    refine g_ld rfl rfl rfl ?_
    refine g_ld rfl rfl rfl ?_
    refine g_get rfl rfl ?_
    change Go _ _ _ _ _ _ [.ref 251, .ref 213] _ _
    refine g_ld rfl rfl rfl ?_
    refine g_ial rfl rfl (i_in (x := a1) rfl h.1) ?_
    change Go _ _ _ _ _ _ [.int (s.2.1 251 a1.toInt.toNat), .ref 213] _ _
    replace h := h.2
    refine g_call [.ref 213, .int (s.2.1 251 a1.toInt.toNat)] [] rfl rfl rfl (Tot.imp h (fun v2 s1 h => ?_))
    obtain ⟨rfl, h⟩ := h
    change Go _ _ _ _ _ _ [] _ _
    exact k_213_55  h
def w_213_25 (T : Nat → List Value → yS → (Option Value → yS → Prop) → Prop) (R25 : Int32 → Int32 → yS → Prop) (a1 : Int32) (a2 : Int32) (s : yS) (P : Option Value → yS → Prop) : Prop :=
  (0 ≤ a1.toInt ∧ a1.toInt < 408) ∧ (((s.2.1 248 a1.toInt.toNat).toInt ≤ a2.toInt → w_213_46 T  a1 a2  s P) ∧ (¬ ((s.2.1 248 a1.toInt.toNat).toInt ≤ a2.toInt) → (¬ ((s.1 8).toInt = 0) → w_213_46 T  a1 a2  s P) ∧ ((s.1 8).toInt = 0 → (-2147483648 ≤ 6 * a1.toInt ∧ 6 * a1.toInt ≤ 2147483647) ∧ (∀ x1 : Int32, x1.toInt = 6 * a1.toInt → (-2147483648 ≤ x1.toInt + a2.toInt ∧ x1.toInt + a2.toInt ≤ 2147483647) ∧ (∀ x2 : Int32, x2.toInt = x1.toInt + a2.toInt → (0 ≤ x2.toInt ∧ x2.toInt < 2448) ∧ (T 211 [.ref 213, .int (s.2.1 250 x2.toInt.toNat)] s (fun v4 s3 => v4 = none ∧ ((-2147483648 ≤ a2.toInt + 1 ∧ a2.toInt + 1 ≤ 2147483647) ∧ (∀ x5 : Int32, x5.toInt = a2.toInt + 1 → R25 a1 x5  s3)))))))))
set_option maxRecDepth 20000 in
theorem k_213_25 {d : Nat} {R25 : Int32 → Int32 → yS → Prop} {a1 : Int32} {a2 : Int32} {s : yS} {P : Option Value → yS → Prop} (r25 : ∀ a1 a2 s, R25 a1 a2 s → Go d 3 (none) xE_213 (xE_213.drop 25) [.ref 213, .int a1, .int a2, .null, .null] [] s P) (h : w_213_25 (Tot d) R25 a1 a2 s P) : Go d 3 (none) xE_213 (xE_213.drop 25) [.ref 213, .int a1, .int a2, .null, .null] [] s P := by
  unfold w_213_25 at h
  refine g_ld rfl rfl rfl ?_
  refine g_ld rfl rfl rfl ?_
  refine g_get rfl rfl ?_
  change Go _ _ _ _ _ _ [.ref 248, .int a2] _ _
  refine g_ld rfl rfl rfl ?_
  refine g_ial rfl rfl (i_in (x := a1) rfl h.1) ?_
  change Go _ _ _ _ _ _ [.int (s.2.1 248 a1.toInt.toNat), .int a2] _ _
  replace h := h.2
  refine g_brP rfl rfl ⟨fun hc => ?_, fun hc => ?_⟩
  · replace h := h.1 ((i_le (x := s.2.1 248 a1.toInt.toNat) (y := a2) rfl rfl).mp hc)
    exact k_213_46  h
  · replace h := h.2 (fun q => hc ((i_le (x := s.2.1 248 a1.toInt.toNat) (y := a2) rfl rfl).mpr q))
    refine g_ld rfl rfl rfl ?_
    refine g_get rfl rfl ?_
    change Go _ _ _ _ _ _ [.int (s.1 8)] _ _
    refine g_brN rfl rfl ⟨fun hc => ?_, fun hc => ?_⟩
    · replace h := h.1 (fun q => hc ((i_eq (x := s.1 8) (y := 0) rfl (show (0 : Int32).toInt = 0 by decide)).mpr q))
      exact k_213_46  h
    · replace h := h.2 ((i_eq (x := s.1 8) (y := 0) rfl (show (0 : Int32).toInt = 0 by decide)).mp hc)
      refine g_ld rfl rfl rfl ?_
      refine g_ld rfl rfl rfl ?_
      refine g_get rfl rfl ?_
      change Go _ _ _ _ _ _ [.ref 250, .ref 213] _ _
      refine g_c [.int 6, .ref 250, .ref 213] (xo_push (.int 6)) rfl rfl ?_
      refine g_ld rfl rfl rfl ?_
      have ex1 := i_mul (x := 6) (y := a1) (show (6 : Int32).toInt = 6 by decide) rfl h.1
      have cx1 := ck_mul (x := 6) (y := a1) (show (6 : Int32).toInt = 6 by decide) rfl h.1
      replace h := h.2 _ ex1
      refine g_ca [.int (6 * a1), .ref 250, .ref 213] xo_imul rfl rfl (fun _ => cx1) ?_
      refine g_ld rfl rfl rfl ?_
      have ex2 := i_add (x := (6 * a1)) (y := a2) rfl rfl h.1
      have cx2 := ck_add (x := (6 * a1)) (y := a2) rfl rfl h.1
      replace h := h.2 _ ex2
      refine g_ca [.int ((6 * a1) + a2), .ref 250, .ref 213] xo_iadd rfl rfl (fun _ => cx2) ?_
      refine g_ial rfl rfl (i_in (x := ((6 * a1) + a2)) rfl h.1) ?_
      change Go _ _ _ _ _ _ [.int (s.2.1 250 ((6 * a1) + a2).toInt.toNat), .ref 213] _ _
      replace h := h.2
      refine g_call [.ref 213, .int (s.2.1 250 ((6 * a1) + a2).toInt.toNat)] [] rfl rfl rfl (Tot.imp h (fun v4 s3 h => ?_))
      obtain ⟨rfl, h⟩ := h
      change Go _ _ _ _ _ _ [] _ _
      have ex5 := i_add (x := a2) (y := 1) rfl (show (1 : Int32).toInt = 1 by decide) h.1
      have cx5 := ck_inc (x := a2) (n := 1) rfl h.1
      replace h := h.2 _ ex5
      refine g_inc [.ref 213, .int a1, .int (a2 + 1), .null, .null] rfl rfl rfl rfl cx5 ?_
      refine g_go rfl ?_
      exact r25 a1 (a2 + 1)  s3 h
def wl_213_25 (T : Nat → List Value → yS → (Option Value → yS → Prop) → Prop)  (a1 : Int32) (a2 : Int32) (s : yS) (P : Option Value → yS → Prop) : Prop :=
  ∃ (I : Int32 → Int32 → yS → Prop) (μ : Int32 → Int32 → yS → Nat), I a1 a2 s ∧ ∀ (a1 : Int32) (a2 : Int32) (s : yS), I a1 a2 s → w_213_25 T (fun a1' a2' s' => I a1' a2' s' ∧ μ a1' a2' s' < μ a1 a2 s) a1 a2 s P
theorem kl_213_25 {d : Nat}  {a1 : Int32} {a2 : Int32} {s : yS} {P : Option Value → yS → Prop}  (h : wl_213_25 (Tot d)  a1 a2 s P) : Go d 3 (none) xE_213 (xE_213.drop 25) [.ref 213, .int a1, .int a2, .null, .null] [] s P := by
  obtain ⟨I, μ, h0, h1⟩ := h
  have key : ∀ (n : Nat) (a1 : Int32) (a2 : Int32) (s : yS), μ a1 a2 s = n → I a1 a2 s → Go d 3 (none) xE_213 (xE_213.drop 25) [.ref 213, .int a1, .int a2, .null, .null] [] s P := by
    intro n
    induction n using Nat.strongRecOn with
    | ind n ih =>
      intro a1 a2 s e hI
      exact k_213_25 (fun a1' a2' s' q => ih _ (by rw [← e]; exact q.2) _ _ _ rfl q.1) (h1 a1 a2 s hI)
  exact key _ a1 a2 s rfl h0
def w_213_23 (T : Nat → List Value → yS → (Option Value → yS → Prop) → Prop)  (a1 : Int32) (a2 : Int32) (s : yS) (P : Option Value → yS → Prop) : Prop :=
  wl_213_25 T  a1 0  s P
set_option maxRecDepth 20000 in
theorem k_213_23 {d : Nat}  {a1 : Int32} {a2 : Int32} {s : yS} {P : Option Value → yS → Prop}  (h : w_213_23 (Tot d)  a1 a2 s P) : Go d 3 (none) xE_213 (xE_213.drop 23) [.ref 213, .int a1, .int a2, .null, .null] [] s P := by
  unfold w_213_23 at h
  refine g_c [.int 0] (xo_push (.int 0)) rfl rfl ?_
  refine g_st [.ref 213, .int a1, .int 0, .null, .null] rfl rfl rfl ?_
  exact kl_213_25  h
def w_213_2 (T : Nat → List Value → yS → (Option Value → yS → Prop) → Prop) (R2 : Int32 → Int32 → yS → Prop) (a1 : Int32) (a2 : Int32) (s : yS) (P : Option Value → yS → Prop) : Prop :=
  (0 ≤ a1.toInt ∧ a1.toInt < 408) ∧ (((s.2.1 245 a1.toInt.toNat).toInt ≤ a2.toInt → w_213_23 T  a1 a2  s P) ∧ (¬ ((s.2.1 245 a1.toInt.toNat).toInt ≤ a2.toInt) → (¬ ((s.1 8).toInt = 0) → w_213_23 T  a1 a2  s P) ∧ ((s.1 8).toInt = 0 → (-2147483648 ≤ 6 * a1.toInt ∧ 6 * a1.toInt ≤ 2147483647) ∧ (∀ x1 : Int32, x1.toInt = 6 * a1.toInt → (-2147483648 ≤ x1.toInt + a2.toInt ∧ x1.toInt + a2.toInt ≤ 2147483647) ∧ (∀ x2 : Int32, x2.toInt = x1.toInt + a2.toInt → (0 ≤ x2.toInt ∧ x2.toInt < 2448) ∧ (T 211 [.ref 213, .int (s.2.1 247 x2.toInt.toNat)] s (fun v4 s3 => v4 = none ∧ ((-2147483648 ≤ a2.toInt + 1 ∧ a2.toInt + 1 ≤ 2147483647) ∧ (∀ x5 : Int32, x5.toInt = a2.toInt + 1 → R2 a1 x5  s3)))))))))
set_option maxRecDepth 20000 in
theorem k_213_2 {d : Nat} {R2 : Int32 → Int32 → yS → Prop} {a1 : Int32} {a2 : Int32} {s : yS} {P : Option Value → yS → Prop} (r2 : ∀ a1 a2 s, R2 a1 a2 s → Go d 3 (none) xE_213 (xE_213.drop 2) [.ref 213, .int a1, .int a2, .null, .null] [] s P) (h : w_213_2 (Tot d) R2 a1 a2 s P) : Go d 3 (none) xE_213 (xE_213.drop 2) [.ref 213, .int a1, .int a2, .null, .null] [] s P := by
  unfold w_213_2 at h
  refine g_ld rfl rfl rfl ?_
  refine g_ld rfl rfl rfl ?_
  refine g_get rfl rfl ?_
  change Go _ _ _ _ _ _ [.ref 245, .int a2] _ _
  refine g_ld rfl rfl rfl ?_
  refine g_ial rfl rfl (i_in (x := a1) rfl h.1) ?_
  change Go _ _ _ _ _ _ [.int (s.2.1 245 a1.toInt.toNat), .int a2] _ _
  replace h := h.2
  refine g_brP rfl rfl ⟨fun hc => ?_, fun hc => ?_⟩
  · replace h := h.1 ((i_le (x := s.2.1 245 a1.toInt.toNat) (y := a2) rfl rfl).mp hc)
    exact k_213_23  h
  · replace h := h.2 (fun q => hc ((i_le (x := s.2.1 245 a1.toInt.toNat) (y := a2) rfl rfl).mpr q))
    refine g_ld rfl rfl rfl ?_
    refine g_get rfl rfl ?_
    change Go _ _ _ _ _ _ [.int (s.1 8)] _ _
    refine g_brN rfl rfl ⟨fun hc => ?_, fun hc => ?_⟩
    · replace h := h.1 (fun q => hc ((i_eq (x := s.1 8) (y := 0) rfl (show (0 : Int32).toInt = 0 by decide)).mpr q))
      exact k_213_23  h
    · replace h := h.2 ((i_eq (x := s.1 8) (y := 0) rfl (show (0 : Int32).toInt = 0 by decide)).mp hc)
      refine g_ld rfl rfl rfl ?_
      refine g_ld rfl rfl rfl ?_
      refine g_get rfl rfl ?_
      change Go _ _ _ _ _ _ [.ref 247, .ref 213] _ _
      refine g_c [.int 6, .ref 247, .ref 213] (xo_push (.int 6)) rfl rfl ?_
      refine g_ld rfl rfl rfl ?_
      have ex1 := i_mul (x := 6) (y := a1) (show (6 : Int32).toInt = 6 by decide) rfl h.1
      have cx1 := ck_mul (x := 6) (y := a1) (show (6 : Int32).toInt = 6 by decide) rfl h.1
      replace h := h.2 _ ex1
      refine g_ca [.int (6 * a1), .ref 247, .ref 213] xo_imul rfl rfl (fun _ => cx1) ?_
      refine g_ld rfl rfl rfl ?_
      have ex2 := i_add (x := (6 * a1)) (y := a2) rfl rfl h.1
      have cx2 := ck_add (x := (6 * a1)) (y := a2) rfl rfl h.1
      replace h := h.2 _ ex2
      refine g_ca [.int ((6 * a1) + a2), .ref 247, .ref 213] xo_iadd rfl rfl (fun _ => cx2) ?_
      refine g_ial rfl rfl (i_in (x := ((6 * a1) + a2)) rfl h.1) ?_
      change Go _ _ _ _ _ _ [.int (s.2.1 247 ((6 * a1) + a2).toInt.toNat), .ref 213] _ _
      replace h := h.2
      refine g_call [.ref 213, .int (s.2.1 247 ((6 * a1) + a2).toInt.toNat)] [] rfl rfl rfl (Tot.imp h (fun v4 s3 h => ?_))
      obtain ⟨rfl, h⟩ := h
      change Go _ _ _ _ _ _ [] _ _
      have ex5 := i_add (x := a2) (y := 1) rfl (show (1 : Int32).toInt = 1 by decide) h.1
      have cx5 := ck_inc (x := a2) (n := 1) rfl h.1
      replace h := h.2 _ ex5
      refine g_inc [.ref 213, .int a1, .int (a2 + 1), .null, .null] rfl rfl rfl rfl cx5 ?_
      refine g_go rfl ?_
      exact r2 a1 (a2 + 1)  s3 h
def wl_213_2 (T : Nat → List Value → yS → (Option Value → yS → Prop) → Prop)  (a1 : Int32) (a2 : Int32) (s : yS) (P : Option Value → yS → Prop) : Prop :=
  ∃ (I : Int32 → Int32 → yS → Prop) (μ : Int32 → Int32 → yS → Nat), I a1 a2 s ∧ ∀ (a1 : Int32) (a2 : Int32) (s : yS), I a1 a2 s → w_213_2 T (fun a1' a2' s' => I a1' a2' s' ∧ μ a1' a2' s' < μ a1 a2 s) a1 a2 s P
theorem kl_213_2 {d : Nat}  {a1 : Int32} {a2 : Int32} {s : yS} {P : Option Value → yS → Prop}  (h : wl_213_2 (Tot d)  a1 a2 s P) : Go d 3 (none) xE_213 (xE_213.drop 2) [.ref 213, .int a1, .int a2, .null, .null] [] s P := by
  obtain ⟨I, μ, h0, h1⟩ := h
  have key : ∀ (n : Nat) (a1 : Int32) (a2 : Int32) (s : yS), μ a1 a2 s = n → I a1 a2 s → Go d 3 (none) xE_213 (xE_213.drop 2) [.ref 213, .int a1, .int a2, .null, .null] [] s P := by
    intro n
    induction n using Nat.strongRecOn with
    | ind n ih =>
      intro a1 a2 s e hI
      exact k_213_2 (fun a1' a2' s' q => ih _ (by rw [← e]; exact q.2) _ _ _ rfl q.1) (h1 a1 a2 s hI)
  exact key _ a1 a2 s rfl h0
def w_213_0 (T : Nat → List Value → yS → (Option Value → yS → Prop) → Prop)  (a1 : Int32) (s : yS) (P : Option Value → yS → Prop) : Prop :=
  wl_213_2 T  a1 0  s P
set_option maxRecDepth 20000 in
theorem k_213_0 {d : Nat}  {a1 : Int32} {s : yS} {P : Option Value → yS → Prop}  (h : w_213_0 (Tot d)  a1 s P) : Go d 3 (none) xE_213 (xE_213.drop 0) [.ref 213, .int a1, .null, .null, .null] [] s P := by
  unfold w_213_0 at h
  refine g_c [.int 0] (xo_push (.int 0)) rfl rfl ?_
  refine g_st [.ref 213, .int a1, .int 0, .null, .null] rfl rfl rfl ?_
  exact kl_213_2  h
theorem t_213 {d : Nat} {a1 : Int32} {s : yS} {P : Option Value → yS → Prop} (h : w_213_0 (Tot d) a1 s P) : Tot (d + 1) 213 [.ref 213, .int a1] s P := tot_of (E := xE_213) (ml := 3) (ret := none) rfl rfl rfl (k_213_0 h)
