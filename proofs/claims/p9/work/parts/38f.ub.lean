/-! fieldOf -/
def ub_224_0 (T : Nat → List Value → yS → (Option Value → yS → Prop) → Prop)  (a1 : Int32) (a2 : Int32) (s : yS) (P : Option Value → yS → Prop) : Prop :=
  T 188 [.ref 213] s (fun v2 s1 => ∃ x3, v2 = some (.int x3) ∧ (((0 ≤ a1.toInt ∧ a1.toInt < 200000) → T 185 [.int (s1.2.1 264 a1.toInt.toNat)] s1 (fun v5 s4 => ∃ x6, v5 = some (.int x6) ∧ (((-2147483648 ≤ 6 * x6.toInt ∧ 6 * x6.toInt ≤ 2147483647) → ∀ x7 : Int32, x7.toInt = 6 * x6.toInt → ((-2147483648 ≤ 1000 + x7.toInt ∧ 1000 + x7.toInt ≤ 2147483647) → ∀ x8 : Int32, x8.toInt = 1000 + x7.toInt → T 189 [.ref 213, .int x3, .int 0, .int x8, .int a1] s4 (fun v10 s9 => v10 = none ∧ (((-2147483648 ≤ 24 * (s9.1 75).toInt ∧ 24 * (s9.1 75).toInt ≤ 2147483647) → ∀ x11 : Int32, x11.toInt = 24 * (s9.1 75).toInt → ((0 ≤ a1.toInt ∧ a1.toInt < 200000) → T 185 [.int (s9.2.1 264 a1.toInt.toNat)] s9 (fun v13 s12 => ∃ x14, v13 = some (.int x14) ∧ (((-2147483648 ≤ x11.toInt + x14.toInt ∧ x11.toInt + x14.toInt ≤ 2147483647) → ∀ x15 : Int32, x15.toInt = x11.toInt + x14.toInt → ((-2147483648 ≤ 6 * x15.toInt ∧ 6 * x15.toInt ≤ 2147483647) → ∀ x16 : Int32, x16.toInt = 6 * x15.toInt → ((-2147483648 ≤ x16.toInt + a2.toInt ∧ x16.toInt + a2.toInt ≤ 2147483647) → ∀ x17 : Int32, x17.toInt = x16.toInt + a2.toInt → ((0 ≤ x17.toInt ∧ x17.toInt < 288) → ((0 ≤ (s12.2.1 241 x17.toInt.toNat).toInt ∧ (s12.2.1 241 x17.toInt.toNat).toInt < 12006) → ((0 ≤ (s12.2.1 241 x17.toInt.toNat).toInt ∧ (s12.2.1 241 x17.toInt.toNat).toInt < 12006) → T 191 [.ref 213, .int (s12.2.1 231 (s12.2.1 241 x17.toInt.toNat).toInt.toNat), .int (s12.2.1 232 (s12.2.1 241 x17.toInt.toNat).toInt.toNat), .int x3] s12 (fun v19 s18 => ∃ x20, v19 = some (.int x20) ∧ (((-2147483648 ≤ (s18.1 70).toInt - 1 ∧ (s18.1 70).toInt - 1 ≤ 2147483647) → ∀ x21 : Int32, x21.toInt = (s18.1 70).toInt - 1 → ∀ s22, s22 = sf s18 70 x21 → T 216 [.ref 213, .int (s22.1 71), .int (s22.1 72)] s22 (fun v24 s23 => v24 = none ∧ (((x20.toInt = 0 ∨ x20.toInt = 1) → P (some (.int x20)) s23)))))))))))))))))))))))))
set_option maxRecDepth 20000 in
theorem lk_224_0 {d N0 : Nat}  {a1 : Int32} {a2 : Int32} {s : yS} {P : Option Value → yS → Prop}  (h : ub_224_0 (Par d)  a1 a2 s P) : Lb d N0 6 (some .boolean) xE_224 (xE_224.drop 0) [.ref 213, .int a1, .int a2, .null, .null, .null, .null, .null, .null] [] s P := by
  unfold ub_224_0 at h
  refine Lb_w (lb_ld rfl rfl rfl ?_)
  refine Lb_w (lb_call [.ref 213] [] rfl rfl rfl (Par.imp h (fun v2 s1 h => ?_)))
  obtain ⟨x3, rfl, h⟩ := h
  change Lb _ _ _ _ _ _ _ [.int x3] _ _
  refine Lb_w (lb_st [.ref 213, .int a1, .int a2, .int x3, .null, .null, .null, .null, .null] rfl rfl rfl ?_)
  refine Lb_w (lb_ld rfl rfl rfl ?_)
  refine Lb_w (lb_ld rfl rfl rfl ?_)
  refine Lb_w (lb_c [.int 0, .int x3, .ref 213] (xo_push (.int 0)) rfl rfl ?_)
  refine Lb_w (lb_c [.int 1000, .int 0, .int x3, .ref 213] (xo_push (.int 1000)) rfl rfl ?_)
  refine Lb_w (lb_c [.int 6, .int 1000, .int 0, .int x3, .ref 213] (xo_push (.int 6)) rfl rfl ?_)
  refine Lb_w (lb_ld rfl rfl rfl ?_)
  refine Lb_w (lb_get rfl rfl ?_)
  change Lb _ _ _ _ _ _ _ [.ref 264, .int 6, .int 1000, .int 0, .int x3, .ref 213] _ _
  refine Lb_w (lb_ld rfl rfl rfl ?_)
  refine Lb_w (lb_ial rfl rfl (fun hk => ?_))
  change Lb _ _ _ _ _ _ _ [.int (s1.2.1 264 a1.toInt.toNat), .int 6, .int 1000, .int 0, .int x3, .ref 213] _ _
  replace h := h (kc_in (x := a1) rfl hk)
  refine Lb_w (lb_call [.int (s1.2.1 264 a1.toInt.toNat)] [.int 6, .int 1000, .int 0, .int x3, .ref 213] rfl rfl rfl (Par.imp h (fun v5 s4 h => ?_)))
  obtain ⟨x6, rfl, h⟩ := h
  change Lb _ _ _ _ _ _ _ [.int x6, .int 6, .int 1000, .int 0, .int x3, .ref 213] _ _
  refine Lb_w (lb_ca [.int (6 * x6), .int 1000, .int 0, .int x3, .ref 213] xo_imul rfl rfl (fun _ hk => ?_))
  replace hk := kc_mul (x := 6) (y := x6) (show (6 : Int32).toInt = 6 by decide) rfl hk
  replace h := h hk _ (i_mul (x := 6) (y := x6) (show (6 : Int32).toInt = 6 by decide) rfl hk)
  refine Lb_w (lb_ca [.int (1000 + (6 * x6)), .int 0, .int x3, .ref 213] xo_iadd rfl rfl (fun _ hk => ?_))
  replace hk := kc_add (x := 1000) (y := (6 * x6)) (show (1000 : Int32).toInt = 1000 by decide) rfl hk
  replace h := h hk _ (i_add (x := 1000) (y := (6 * x6)) (show (1000 : Int32).toInt = 1000 by decide) rfl hk)
  refine Lb_w (lb_ld rfl rfl rfl ?_)
  refine Lb_w (lb_call [.ref 213, .int x3, .int 0, .int (1000 + (6 * x6)), .int a1] [] rfl rfl rfl (Par.imp h (fun v10 s9 h => ?_)))
  obtain ⟨rfl, h⟩ := h
  change Lb _ _ _ _ _ _ _ [] _ _
  refine Lb_w (lb_ld rfl rfl rfl ?_)
  refine Lb_w (lb_get rfl rfl ?_)
  change Lb _ _ _ _ _ _ _ [.ref 241] _ _
  refine Lb_w (lb_c [.int 6, .ref 241] (xo_push (.int 6)) rfl rfl ?_)
  refine Lb_w (lb_c [.int 24, .int 6, .ref 241] (xo_push (.int 24)) rfl rfl ?_)
  refine Lb_w (lb_ld rfl rfl rfl ?_)
  refine Lb_w (lb_get rfl rfl ?_)
  change Lb _ _ _ _ _ _ _ [.int (s9.1 75), .int 24, .int 6, .ref 241] _ _
  refine Lb_w (lb_ca [.int (24 * (s9.1 75)), .int 6, .ref 241] xo_imul rfl rfl (fun _ hk => ?_))
  replace hk := kc_mul (x := 24) (y := s9.1 75) (show (24 : Int32).toInt = 24 by decide) rfl hk
  replace h := h hk _ (i_mul (x := 24) (y := s9.1 75) (show (24 : Int32).toInt = 24 by decide) rfl hk)
  refine Lb_w (lb_ld rfl rfl rfl ?_)
  refine Lb_w (lb_get rfl rfl ?_)
  change Lb _ _ _ _ _ _ _ [.ref 264, .int (24 * (s9.1 75)), .int 6, .ref 241] _ _
  refine Lb_w (lb_ld rfl rfl rfl ?_)
  refine Lb_w (lb_ial rfl rfl (fun hk => ?_))
  change Lb _ _ _ _ _ _ _ [.int (s9.2.1 264 a1.toInt.toNat), .int (24 * (s9.1 75)), .int 6, .ref 241] _ _
  replace h := h (kc_in (x := a1) rfl hk)
  refine Lb_w (lb_call [.int (s9.2.1 264 a1.toInt.toNat)] [.int (24 * (s9.1 75)), .int 6, .ref 241] rfl rfl rfl (Par.imp h (fun v13 s12 h => ?_)))
  obtain ⟨x14, rfl, h⟩ := h
  change Lb _ _ _ _ _ _ _ [.int x14, .int (24 * (s9.1 75)), .int 6, .ref 241] _ _
  refine Lb_w (lb_ca [.int ((24 * (s9.1 75)) + x14), .int 6, .ref 241] xo_iadd rfl rfl (fun _ hk => ?_))
  replace hk := kc_add (x := (24 * (s9.1 75))) (y := x14) rfl rfl hk
  replace h := h hk _ (i_add (x := (24 * (s9.1 75))) (y := x14) rfl rfl hk)
  refine Lb_w (lb_ca [.int (6 * ((24 * (s9.1 75)) + x14)), .ref 241] xo_imul rfl rfl (fun _ hk => ?_))
  replace hk := kc_mul (x := 6) (y := ((24 * (s9.1 75)) + x14)) (show (6 : Int32).toInt = 6 by decide) rfl hk
  replace h := h hk _ (i_mul (x := 6) (y := ((24 * (s9.1 75)) + x14)) (show (6 : Int32).toInt = 6 by decide) rfl hk)
  refine Lb_w (lb_ld rfl rfl rfl ?_)
  refine Lb_w (lb_ca [.int ((6 * ((24 * (s9.1 75)) + x14)) + a2), .ref 241] xo_iadd rfl rfl (fun _ hk => ?_))
  replace hk := kc_add (x := (6 * ((24 * (s9.1 75)) + x14))) (y := a2) rfl rfl hk
  replace h := h hk _ (i_add (x := (6 * ((24 * (s9.1 75)) + x14))) (y := a2) rfl rfl hk)
  refine Lb_w (lb_ial rfl rfl (fun hk => ?_))
  change Lb _ _ _ _ _ _ _ [.int (s12.2.1 241 ((6 * ((24 * (s9.1 75)) + x14)) + a2).toInt.toNat)] _ _
  replace h := h (kc_in (x := ((6 * ((24 * (s9.1 75)) + x14)) + a2)) rfl hk)
  refine Lb_w (lb_st [.ref 213, .int a1, .int a2, .int x3, .int (s12.2.1 241 ((6 * ((24 * (s9.1 75)) + x14)) + a2).toInt.toNat), .null, .null, .null, .null] rfl rfl rfl ?_)
  refine Lb_w (lb_ld rfl rfl rfl ?_)
  refine Lb_w (lb_ld rfl rfl rfl ?_)
  refine Lb_w (lb_get rfl rfl ?_)
  change Lb _ _ _ _ _ _ _ [.ref 231, .ref 213] _ _
  refine Lb_w (lb_ld rfl rfl rfl ?_)
  refine Lb_w (lb_ial rfl rfl (fun hk => ?_))
  change Lb _ _ _ _ _ _ _ [.int (s12.2.1 231 (s12.2.1 241 ((6 * ((24 * (s9.1 75)) + x14)) + a2).toInt.toNat).toInt.toNat), .ref 213] _ _
  replace h := h (kc_in (x := s12.2.1 241 ((6 * ((24 * (s9.1 75)) + x14)) + a2).toInt.toNat) rfl hk)
  refine Lb_w (lb_ld rfl rfl rfl ?_)
  refine Lb_w (lb_get rfl rfl ?_)
  change Lb _ _ _ _ _ _ _ [.ref 232, .int (s12.2.1 231 (s12.2.1 241 ((6 * ((24 * (s9.1 75)) + x14)) + a2).toInt.toNat).toInt.toNat), .ref 213] _ _
  refine Lb_w (lb_ld rfl rfl rfl ?_)
  refine Lb_w (lb_ial rfl rfl (fun hk => ?_))
  change Lb _ _ _ _ _ _ _ [.int (s12.2.1 232 (s12.2.1 241 ((6 * ((24 * (s9.1 75)) + x14)) + a2).toInt.toNat).toInt.toNat), .int (s12.2.1 231 (s12.2.1 241 ((6 * ((24 * (s9.1 75)) + x14)) + a2).toInt.toNat).toInt.toNat), .ref 213] _ _
  replace h := h (kc_in (x := s12.2.1 241 ((6 * ((24 * (s9.1 75)) + x14)) + a2).toInt.toNat) rfl hk)
  refine Lb_w (lb_ld rfl rfl rfl ?_)
  refine Lb_w (lb_call [.ref 213, .int (s12.2.1 231 (s12.2.1 241 ((6 * ((24 * (s9.1 75)) + x14)) + a2).toInt.toNat).toInt.toNat), .int (s12.2.1 232 (s12.2.1 241 ((6 * ((24 * (s9.1 75)) + x14)) + a2).toInt.toNat).toInt.toNat), .int x3] [] rfl rfl rfl (Par.imp h (fun v19 s18 h => ?_)))
  obtain ⟨x20, rfl, h⟩ := h
  change Lb _ _ _ _ _ _ _ [.int x20] _ _
  refine Lb_w (lb_st [.ref 213, .int a1, .int a2, .int x3, .int (s12.2.1 241 ((6 * ((24 * (s9.1 75)) + x14)) + a2).toInt.toNat), .int x20, .null, .null, .null] rfl rfl rfl ?_)
  refine Lb_w (lb_ld rfl rfl rfl ?_)
  refine Lb_w (lb_c [.ref 213, .ref 213] xo_dup rfl rfl ?_)
  refine Lb_w (lb_get rfl rfl ?_)
  change Lb _ _ _ _ _ _ _ [.int (s18.1 70), .ref 213] _ _
  refine Lb_w (lb_c [.int 1, .int (s18.1 70), .ref 213] (xo_push (.int 1)) rfl rfl ?_)
  refine Lb_w (lb_ca [.int ((s18.1 70) - 1), .ref 213] xo_isub rfl rfl (fun _ hk => ?_))
  replace hk := kc_sub (x := s18.1 70) (y := 1) rfl (show (1 : Int32).toInt = 1 by decide) hk
  replace h := h hk _ (i_sub (x := s18.1 70) (y := 1) rfl (show (1 : Int32).toInt = 1 by decide) hk)
  refine Lb_w (lb_put rfl rfl (fun hk => ?_))
  replace h := h _ rfl
  refine Lb_w (lb_ld rfl rfl rfl ?_)
  refine Lb_w (lb_ld rfl rfl rfl ?_)
  refine Lb_w (lb_get rfl rfl ?_)
  change Lb _ _ _ _ _ _ _ [.int ((sf s18 70 ((s18.1 70) - 1)).1 71), .ref 213] _ _
  refine Lb_w (lb_ld rfl rfl rfl ?_)
  refine Lb_w (lb_get rfl rfl ?_)
  change Lb _ _ _ _ _ _ _ [.int ((sf s18 70 ((s18.1 70) - 1)).1 72), .int ((sf s18 70 ((s18.1 70) - 1)).1 71), .ref 213] _ _
  refine Lb_w (lb_call [.ref 213, .int ((sf s18 70 ((s18.1 70) - 1)).1 71), .int ((sf s18 70 ((s18.1 70) - 1)).1 72)] [] rfl rfl rfl (Par.imp h (fun v24 s23 h => ?_)))
  obtain ⟨rfl, h⟩ := h
  change Lb _ _ _ _ _ _ _ [] _ _
  refine Lb_w (lb_ld rfl rfl rfl ?_)
  exact Lb_w (lb_retZ rfl (fun hk => h (kc_z (x := x20) rfl hk)))
theorem pb_224 {d : Nat} {a1 : Int32} {a2 : Int32} {s : yS} {P : Option Value → yS → Prop} (h : ub_224_0 (Par d) a1 a2 s P) : Par (d + 1) 224 [.ref 213, .int a1, .int a2] s P := par_of (E := xE_224) (ml := 6) (ret := some .boolean) rfl (fun _ => lk_224_0 h)
/-! keepOpen -/
def ub_225_14 (T : Nat → List Value → yS → (Option Value → yS → Prop) → Prop) (R14 : Int32 → Int32 → yS → Prop) (a1 : Int32) (a2 : Int32) (s : yS) (P : Option Value → yS → Prop) : Prop :=
  ((s.1 81).toInt ≤ a2.toInt → P none s) ∧ (¬ ((s.1 81).toInt ≤ a2.toInt) → ((-2147483648 ≤ (s.1 80).toInt + a2.toInt ∧ (s.1 80).toInt + a2.toInt ≤ 2147483647) → ∀ x1 : Int32, x1.toInt = (s.1 80).toInt + a2.toInt → ((0 ≤ x1.toInt ∧ x1.toInt < 200000) → ((0 ≤ (s.1 85).toInt ∧ (s.1 85).toInt < 120000) → ∀ s2, s2 = sa s 270 (s.1 85).toInt.toNat (s.2.1 264 x1.toInt.toNat) → ((-2147483648 ≤ (s2.1 85).toInt + 1 ∧ (s2.1 85).toInt + 1 ≤ 2147483647) → ∀ x3 : Int32, x3.toInt = (s2.1 85).toInt + 1 → ∀ s4, s4 = sf s2 85 x3 → ((-2147483648 ≤ a2.toInt + 1 ∧ a2.toInt + 1 ≤ 2147483647) → ∀ x5 : Int32, x5.toInt = a2.toInt + 1 → R14 a1 x5  s4))))))
set_option maxRecDepth 20000 in
theorem lk_225_14 {d N0 : Nat} {R14 : Int32 → Int32 → yS → Prop} {a1 : Int32} {a2 : Int32} {s : yS} {P : Option Value → yS → Prop} (r14 : ∀ a1 a2 s, R14 a1 a2 s → Lb d N0 3 (none) xE_225 (xE_225.drop 14) [.ref 213, .int a1, .int a2, .null, .null] [] s P) (h : ub_225_14 (Par d) R14 a1 a2 s P) : Lb d (N0 + 1) 3 (none) xE_225 (xE_225.drop 14) [.ref 213, .int a1, .int a2, .null, .null] [] s P := by
  unfold ub_225_14 at h
  refine lb_ld rfl rfl rfl ?_
  refine Lb_w (lb_ld rfl rfl rfl ?_)
  refine Lb_w (lb_get rfl rfl ?_)
  change Lb _ _ _ _ _ _ _ [.int (s.1 81), .int a2] _ _
  refine Lb_w (lb_brP rfl rfl ⟨fun hc => ?_, fun hc => ?_⟩)
  · replace h := h.1 ((i_le (x := s.1 81) (y := a2) rfl rfl).mp hc)
    exact Lb_w (lb_ret0 rfl h)
  · replace h := h.2 (fun q => hc ((i_le (x := s.1 81) (y := a2) rfl rfl).mpr q))
    refine Lb_w (lb_ld rfl rfl rfl ?_)
    refine Lb_w (lb_get rfl rfl ?_)
    change Lb _ _ _ _ _ _ _ [.ref 270] _ _
    refine Lb_w (lb_ld rfl rfl rfl ?_)
    refine Lb_w (lb_get rfl rfl ?_)
    change Lb _ _ _ _ _ _ _ [.int (s.1 85), .ref 270] _ _
    refine Lb_w (lb_ld rfl rfl rfl ?_)
    refine Lb_w (lb_get rfl rfl ?_)
    change Lb _ _ _ _ _ _ _ [.ref 264, .int (s.1 85), .ref 270] _ _
    refine Lb_w (lb_ld rfl rfl rfl ?_)
    refine Lb_w (lb_get rfl rfl ?_)
    change Lb _ _ _ _ _ _ _ [.int (s.1 80), .ref 264, .int (s.1 85), .ref 270] _ _
    refine Lb_w (lb_ld rfl rfl rfl ?_)
    refine Lb_w (lb_ca [.int ((s.1 80) + a2), .ref 264, .int (s.1 85), .ref 270] xo_iadd rfl rfl (fun _ hk => ?_))
    replace hk := kc_add (x := s.1 80) (y := a2) rfl rfl hk
    replace h := h hk _ (i_add (x := s.1 80) (y := a2) rfl rfl hk)
    refine Lb_w (lb_ial rfl rfl (fun hk => ?_))
    change Lb _ _ _ _ _ _ _ [.int (s.2.1 264 ((s.1 80) + a2).toInt.toNat), .int (s.1 85), .ref 270] _ _
    replace h := h (kc_in (x := ((s.1 80) + a2)) rfl hk)
    refine Lb_w (lb_ias rfl rfl (fun hk => ?_))
    replace h := h (kc_in (x := s.1 85) rfl hk)
    replace h := h _ rfl
    refine Lb_w (lb_ld rfl rfl rfl ?_)
    refine Lb_w (lb_c [.ref 213, .ref 213] xo_dup rfl rfl ?_)
    refine Lb_w (lb_get rfl rfl ?_)
    change Lb _ _ _ _ _ _ _ [.int ((sa s 270 (s.1 85).toInt.toNat (s.2.1 264 ((s.1 80) + a2).toInt.toNat)).1 85), .ref 213] _ _
    refine Lb_w (lb_c [.int 1, .int ((sa s 270 (s.1 85).toInt.toNat (s.2.1 264 ((s.1 80) + a2).toInt.toNat)).1 85), .ref 213] (xo_push (.int 1)) rfl rfl ?_)
    refine Lb_w (lb_ca [.int (((sa s 270 (s.1 85).toInt.toNat (s.2.1 264 ((s.1 80) + a2).toInt.toNat)).1 85) + 1), .ref 213] xo_iadd rfl rfl (fun _ hk => ?_))
    replace hk := kc_add (x := (sa s 270 (s.1 85).toInt.toNat (s.2.1 264 ((s.1 80) + a2).toInt.toNat)).1 85) (y := 1) rfl (show (1 : Int32).toInt = 1 by decide) hk
    replace h := h hk _ (i_add (x := (sa s 270 (s.1 85).toInt.toNat (s.2.1 264 ((s.1 80) + a2).toInt.toNat)).1 85) (y := 1) rfl (show (1 : Int32).toInt = 1 by decide) hk)
    refine Lb_w (lb_put rfl rfl (fun hk => ?_))
    replace h := h _ rfl
    refine Lb_w (lb_inc [.ref 213, .int a1, .int (a2 + 1), .null, .null] rfl rfl rfl rfl (fun hk => ?_))
    replace hk := kc_inc (x := a2) (n := 1) rfl hk
    replace h := h hk _ (i_add (x := a2) (y := 1) rfl (show (1 : Int32).toInt = 1 by decide) hk)
    refine Lb_w (lb_go rfl ?_)
    exact r14 a1 (a2 + 1)  (sf (sa s 270 (s.1 85).toInt.toNat (s.2.1 264 ((s.1 80) + a2).toInt.toNat)) 85 (((sa s 270 (s.1 85).toInt.toNat (s.2.1 264 ((s.1 80) + a2).toInt.toNat)).1 85) + 1)) h
def ubl_225_14 (T : Nat → List Value → yS → (Option Value → yS → Prop) → Prop)  (a1 : Int32) (a2 : Int32) (s : yS) (P : Option Value → yS → Prop) : Prop :=
  ∃ (I : Int32 → Int32 → yS → Prop), I a1 a2 s ∧ ∀ (a1 : Int32) (a2 : Int32) (s : yS), I a1 a2 s → ub_225_14 T I a1 a2 s P
theorem lkl_225_14 {d N0 : Nat}  {a1 : Int32} {a2 : Int32} {s : yS} {P : Option Value → yS → Prop}  (h : ubl_225_14 (Par d)  a1 a2 s P) : Lb d N0 3 (none) xE_225 (xE_225.drop 14) [.ref 213, .int a1, .int a2, .null, .null] [] s P := by
  obtain ⟨I, h0, h1⟩ := h
  have key : ∀ (m : Nat), m ≤ N0 → ∀ (a1 : Int32) (a2 : Int32) (s : yS), I a1 a2 s → Lb d m 3 (none) xE_225 (xE_225.drop 14) [.ref 213, .int a1, .int a2, .null, .null] [] s P := by
    intro m
    induction m with
    | zero => exact fun _ a1 a2 s _ => Lb_0
    | succ m ih =>
      intro hm
      replace hm : m ≤ N0 := Nat.le_of_succ_le hm
      replace ih := ih hm
      intro a1 a2 s hI
      exact lk_225_14 ih (h1 a1 a2 s hI)
  exact key N0 (Nat.le_refl _) a1 a2 s h0
def ub_225_0 (T : Nat → List Value → yS → (Option Value → yS → Prop) → Prop)  (a1 : Int32) (s : yS) (P : Option Value → yS → Prop) : Prop :=
  ((0 ≤ a1.toInt ∧ a1.toInt < 12006) → ∀ s1, s1 = sa s 271 a1.toInt.toNat (s.1 85) → ((0 ≤ a1.toInt ∧ a1.toInt < 12006) → ∀ s2, s2 = sa s1 272 a1.toInt.toNat (s1.1 81) → ubl_225_14 T  a1 0  s2 P))
set_option maxRecDepth 20000 in
theorem lk_225_0 {d N0 : Nat}  {a1 : Int32} {s : yS} {P : Option Value → yS → Prop}  (h : ub_225_0 (Par d)  a1 s P) : Lb d N0 3 (none) xE_225 (xE_225.drop 0) [.ref 213, .int a1, .null, .null, .null] [] s P := by
  unfold ub_225_0 at h
  refine Lb_w (lb_ld rfl rfl rfl ?_)
  refine Lb_w (lb_get rfl rfl ?_)
  change Lb _ _ _ _ _ _ _ [.ref 271] _ _
  refine Lb_w (lb_ld rfl rfl rfl ?_)
  refine Lb_w (lb_ld rfl rfl rfl ?_)
  refine Lb_w (lb_get rfl rfl ?_)
  change Lb _ _ _ _ _ _ _ [.int (s.1 85), .int a1, .ref 271] _ _
  refine Lb_w (lb_ias rfl rfl (fun hk => ?_))
  replace h := h (kc_in (x := a1) rfl hk)
  replace h := h _ rfl
  refine Lb_w (lb_ld rfl rfl rfl ?_)
  refine Lb_w (lb_get rfl rfl ?_)
  change Lb _ _ _ _ _ _ _ [.ref 272] _ _
  refine Lb_w (lb_ld rfl rfl rfl ?_)
  refine Lb_w (lb_ld rfl rfl rfl ?_)
  refine Lb_w (lb_get rfl rfl ?_)
  change Lb _ _ _ _ _ _ _ [.int ((sa s 271 a1.toInt.toNat (s.1 85)).1 81), .int a1, .ref 272] _ _
  refine Lb_w (lb_ias rfl rfl (fun hk => ?_))
  replace h := h (kc_in (x := a1) rfl hk)
  replace h := h _ rfl
  refine Lb_w (lb_c [.int 0] (xo_push (.int 0)) rfl rfl ?_)
  refine Lb_w (lb_st [.ref 213, .int a1, .int 0, .null, .null] rfl rfl rfl ?_)
  exact lkl_225_14  h
theorem pb_225 {d : Nat} {a1 : Int32} {s : yS} {P : Option Value → yS → Prop} (h : ub_225_0 (Par d) a1 s P) : Par (d + 1) 225 [.ref 213, .int a1] s P := par_of (E := xE_225) (ml := 3) (ret := none) rfl (fun _ => lk_225_0 h)
/-! typeMethod -/
def ub_226_241 (T : Nat → List Value → yS → (Option Value → yS → Prop) → Prop)  (a1 : Int32) (a2 : Int32) (a3 : Int32) (a4 : Int32) (a5 : Int32) (a6 : Int32) (a7 : Int32) (s : yS) (P : Option Value → yS → Prop) : Prop :=
  ((-2147483648 ≤ (s.1 70).toInt - 1 ∧ (s.1 70).toInt - 1 ≤ 2147483647) → ∀ x1 : Int32, x1.toInt = (s.1 70).toInt - 1 → ∀ s2, s2 = sf s 70 x1 → T 216 [.ref 213, .int (s2.1 71), .int (s2.1 72)] s2 (fun v4 s3 => v4 = none ∧ (P none s3)))
set_option maxRecDepth 20000 in
theorem lk_226_241 {d N0 : Nat}  {a1 : Int32} {a2 : Int32} {a3 : Int32} {a4 : Int32} {a5 : Int32} {a6 : Int32} {a7 : Int32} {s : yS} {P : Option Value → yS → Prop}  (h : ub_226_241 (Par d)  a1 a2 a3 a4 a5 a6 a7 s P) : Lb d N0 8 (none) xE_226 (xE_226.drop 241) [.ref 213, .int a1, .int a2, .int a3, .int a4, .int a5, .int a6, .int a7, .null, .null] [] s P := by
  unfold ub_226_241 at h
  refine Lb_w (lb_ld rfl rfl rfl ?_)
  refine Lb_w (lb_c [.ref 213, .ref 213] xo_dup rfl rfl ?_)
  refine Lb_w (lb_get rfl rfl ?_)
  change Lb _ _ _ _ _ _ _ [.int (s.1 70), .ref 213] _ _
  refine Lb_w (lb_c [.int 1, .int (s.1 70), .ref 213] (xo_push (.int 1)) rfl rfl ?_)
  refine Lb_w (lb_ca [.int ((s.1 70) - 1), .ref 213] xo_isub rfl rfl (fun _ hk => ?_))
  replace hk := kc_sub (x := s.1 70) (y := 1) rfl (show (1 : Int32).toInt = 1 by decide) hk
  replace h := h hk _ (i_sub (x := s.1 70) (y := 1) rfl (show (1 : Int32).toInt = 1 by decide) hk)
  refine Lb_w (lb_put rfl rfl (fun hk => ?_))
  replace h := h _ rfl
  refine Lb_w (lb_ld rfl rfl rfl ?_)
  refine Lb_w (lb_ld rfl rfl rfl ?_)
  refine Lb_w (lb_get rfl rfl ?_)
  change Lb _ _ _ _ _ _ _ [.int ((sf s 70 ((s.1 70) - 1)).1 71), .ref 213] _ _
  refine Lb_w (lb_ld rfl rfl rfl ?_)
  refine Lb_w (lb_get rfl rfl ?_)
  change Lb _ _ _ _ _ _ _ [.int ((sf s 70 ((s.1 70) - 1)).1 72), .int ((sf s 70 ((s.1 70) - 1)).1 71), .ref 213] _ _
  refine Lb_w (lb_call [.ref 213, .int ((sf s 70 ((s.1 70) - 1)).1 71), .int ((sf s 70 ((s.1 70) - 1)).1 72)] [] rfl rfl rfl (Par.imp h (fun v4 s3 h => ?_)))
  obtain ⟨rfl, h⟩ := h
  change Lb _ _ _ _ _ _ _ [] _ _
  exact Lb_w (lb_ret0 rfl h)
def ub_226_213 (T : Nat → List Value → yS → (Option Value → yS → Prop) → Prop)  (a1 : Int32) (a2 : Int32) (a3 : Int32) (a4 : Int32) (a5 : Int32) (a6 : Int32) (a7 : Int32) (s : yS) (P : Option Value → yS → Prop) : Prop :=
  (¬ ((s.1 8).toInt = 0) → ub_226_241 T  a1 a2 a3 a4 a5 a6 a7  s P) ∧ ((s.1 8).toInt = 0 → ((0 ≤ a3.toInt ∧ a3.toInt < 408) → ((0 ≤ (s.2.1 251 a3.toInt.toNat).toInt ∧ (s.2.1 251 a3.toInt.toNat).toInt < 12006) → ((0 ≤ a3.toInt ∧ a3.toInt < 408) → ((0 ≤ (s.2.1 251 a3.toInt.toNat).toInt ∧ (s.2.1 251 a3.toInt.toNat).toInt < 12006) → T 191 [.ref 213, .int (s.2.1 231 (s.2.1 251 a3.toInt.toNat).toInt.toNat), .int (s.2.1 232 (s.2.1 251 a3.toInt.toNat).toInt.toNat), .int a5] s (fun v2 s1 => ∃ x3, v2 = some (.int x3) ∧ ((¬ (x3.toInt = 0) → ub_226_241 T  a1 a2 a3 a4 a5 a6 a7  s1 P) ∧ (x3.toInt = 0 → ((0 ≤ a1.toInt ∧ a1.toInt < 12006) → T 163 [.ref 213, .int 9, .int (s1.2.1 222 a1.toInt.toNat)] s1 (fun v5 s4 => v5 = none ∧ (ub_226_241 T  a1 a2 a3 a4 a5 a6 a7  s4 P)))))))))))
set_option maxRecDepth 20000 in
theorem lk_226_213 {d N0 : Nat}  {a1 : Int32} {a2 : Int32} {a3 : Int32} {a4 : Int32} {a5 : Int32} {a6 : Int32} {a7 : Int32} {s : yS} {P : Option Value → yS → Prop}  (h : ub_226_213 (Par d)  a1 a2 a3 a4 a5 a6 a7 s P) : Lb d N0 8 (none) xE_226 (xE_226.drop 213) [.ref 213, .int a1, .int a2, .int a3, .int a4, .int a5, .int a6, .int a7, .null, .null] [] s P := by
  unfold ub_226_213 at h
  refine Lb_w (lb_ld rfl rfl rfl ?_)
  refine Lb_w (lb_get rfl rfl ?_)
  change Lb _ _ _ _ _ _ _ [.int (s.1 8)] _ _
  refine Lb_w (lb_brN rfl rfl ⟨fun hc => ?_, fun hc => ?_⟩)
  · replace h := h.1 (fun q => hc ((i_eq (x := s.1 8) (y := 0) rfl (show (0 : Int32).toInt = 0 by decide)).mpr q))
    exact lk_226_241  h
  · replace h := h.2 ((i_eq (x := s.1 8) (y := 0) rfl (show (0 : Int32).toInt = 0 by decide)).mp hc)
    refine Lb_w (lb_ld rfl rfl rfl ?_)
    refine Lb_w (lb_ld rfl rfl rfl ?_)
    refine Lb_w (lb_get rfl rfl ?_)
    change Lb _ _ _ _ _ _ _ [.ref 231, .ref 213] _ _
    refine Lb_w (lb_ld rfl rfl rfl ?_)
    refine Lb_w (lb_get rfl rfl ?_)
    change Lb _ _ _ _ _ _ _ [.ref 251, .ref 231, .ref 213] _ _
    refine Lb_w (lb_ld rfl rfl rfl ?_)
    refine Lb_w (lb_ial rfl rfl (fun hk => ?_))
    change Lb _ _ _ _ _ _ _ [.int (s.2.1 251 a3.toInt.toNat), .ref 231, .ref 213] _ _
    replace h := h (kc_in (x := a3) rfl hk)
    refine Lb_w (lb_ial rfl rfl (fun hk => ?_))
    change Lb _ _ _ _ _ _ _ [.int (s.2.1 231 (s.2.1 251 a3.toInt.toNat).toInt.toNat), .ref 213] _ _
    replace h := h (kc_in (x := s.2.1 251 a3.toInt.toNat) rfl hk)
    refine Lb_w (lb_ld rfl rfl rfl ?_)
    refine Lb_w (lb_get rfl rfl ?_)
    change Lb _ _ _ _ _ _ _ [.ref 232, .int (s.2.1 231 (s.2.1 251 a3.toInt.toNat).toInt.toNat), .ref 213] _ _
    refine Lb_w (lb_ld rfl rfl rfl ?_)
    refine Lb_w (lb_get rfl rfl ?_)
    change Lb _ _ _ _ _ _ _ [.ref 251, .ref 232, .int (s.2.1 231 (s.2.1 251 a3.toInt.toNat).toInt.toNat), .ref 213] _ _
    refine Lb_w (lb_ld rfl rfl rfl ?_)
    refine Lb_w (lb_ial rfl rfl (fun hk => ?_))
    change Lb _ _ _ _ _ _ _ [.int (s.2.1 251 a3.toInt.toNat), .ref 232, .int (s.2.1 231 (s.2.1 251 a3.toInt.toNat).toInt.toNat), .ref 213] _ _
    replace h := h (kc_in (x := a3) rfl hk)
    refine Lb_w (lb_ial rfl rfl (fun hk => ?_))
    change Lb _ _ _ _ _ _ _ [.int (s.2.1 232 (s.2.1 251 a3.toInt.toNat).toInt.toNat), .int (s.2.1 231 (s.2.1 251 a3.toInt.toNat).toInt.toNat), .ref 213] _ _
    replace h := h (kc_in (x := s.2.1 251 a3.toInt.toNat) rfl hk)
    refine Lb_w (lb_ld rfl rfl rfl ?_)
    refine Lb_w (lb_call [.ref 213, .int (s.2.1 231 (s.2.1 251 a3.toInt.toNat).toInt.toNat), .int (s.2.1 232 (s.2.1 251 a3.toInt.toNat).toInt.toNat), .int a5] [] rfl rfl rfl (Par.imp h (fun v2 s1 h => ?_)))
    obtain ⟨x3, rfl, h⟩ := h
    change Lb _ _ _ _ _ _ _ [.int x3] _ _
    refine Lb_w (lb_brN rfl rfl ⟨fun hc => ?_, fun hc => ?_⟩)
    · replace h := h.1 (fun q => hc ((i_eq (x := x3) (y := 0) rfl (show (0 : Int32).toInt = 0 by decide)).mpr q))
      exact lk_226_241  h
    · replace h := h.2 ((i_eq (x := x3) (y := 0) rfl (show (0 : Int32).toInt = 0 by decide)).mp hc)
      refine Lb_w (lb_ld rfl rfl rfl ?_)
      refine Lb_w (lb_c [.int 9, .ref 213] (xo_push (.int 9)) rfl rfl ?_)
      refine Lb_w (lb_ld rfl rfl rfl ?_)
      refine Lb_w (lb_get rfl rfl ?_)
      change Lb _ _ _ _ _ _ _ [.ref 222, .int 9, .ref 213] _ _
      refine Lb_w (lb_ld rfl rfl rfl ?_)
      refine Lb_w (lb_ial rfl rfl (fun hk => ?_))
      change Lb _ _ _ _ _ _ _ [.int (s1.2.1 222 a1.toInt.toNat), .int 9, .ref 213] _ _
      replace h := h (kc_in (x := a1) rfl hk)
      refine Lb_w (lb_call [.ref 213, .int 9, .int (s1.2.1 222 a1.toInt.toNat)] [] rfl rfl rfl (Par.imp h (fun v5 s4 h => ?_)))
      obtain ⟨rfl, h⟩ := h
      change Lb _ _ _ _ _ _ _ [] _ _
      exact lk_226_241  h
def ub_226_189 (T : Nat → List Value → yS → (Option Value → yS → Prop) → Prop) (R189 : Int32 → Int32 → Int32 → Int32 → Int32 → Int32 → Int32 → yS → Prop) (a1 : Int32) (a2 : Int32) (a3 : Int32) (a4 : Int32) (a5 : Int32) (a6 : Int32) (a7 : Int32) (s : yS) (P : Option Value → yS → Prop) : Prop :=
  (a7.toInt < 0 → ub_226_213 T  a1 a2 a3 a4 a5 a6 a7  s P) ∧ (¬ (a7.toInt < 0) → (¬ ((s.1 8).toInt = 0) → ub_226_213 T  a1 a2 a3 a4 a5 a6 a7  s P) ∧ ((s.1 8).toInt = 0 → ((-2147483648 ≤ 6 * a3.toInt ∧ 6 * a3.toInt ≤ 2147483647) → ∀ x1 : Int32, x1.toInt = 6 * a3.toInt → ((-2147483648 ≤ x1.toInt + a6.toInt ∧ x1.toInt + a6.toInt ≤ 2147483647) → ∀ x2 : Int32, x2.toInt = x1.toInt + a6.toInt → ((0 ≤ x2.toInt ∧ x2.toInt < 2448) → T 222 [.ref 213, .int a7, .int (s.2.1 250 x2.toInt.toNat), .int a5] s (fun v4 s3 => v4 = none ∧ (((-2147483648 ≤ a6.toInt + 1 ∧ a6.toInt + 1 ≤ 2147483647) → ∀ x5 : Int32, x5.toInt = a6.toInt + 1 → ((0 ≤ a7.toInt ∧ a7.toInt < 12006) → R189 a1 a2 a3 a4 a5 x5 (s3.2.1 225 a7.toInt.toNat)  s3)))))))))
set_option maxRecDepth 20000 in
theorem lk_226_189 {d N0 : Nat} {R189 : Int32 → Int32 → Int32 → Int32 → Int32 → Int32 → Int32 → yS → Prop} {a1 : Int32} {a2 : Int32} {a3 : Int32} {a4 : Int32} {a5 : Int32} {a6 : Int32} {a7 : Int32} {s : yS} {P : Option Value → yS → Prop} (r189 : ∀ a1 a2 a3 a4 a5 a6 a7 s, R189 a1 a2 a3 a4 a5 a6 a7 s → Lb d N0 8 (none) xE_226 (xE_226.drop 189) [.ref 213, .int a1, .int a2, .int a3, .int a4, .int a5, .int a6, .int a7, .null, .null] [] s P) (h : ub_226_189 (Par d) R189 a1 a2 a3 a4 a5 a6 a7 s P) : Lb d (N0 + 1) 8 (none) xE_226 (xE_226.drop 189) [.ref 213, .int a1, .int a2, .int a3, .int a4, .int a5, .int a6, .int a7, .null, .null] [] s P := by
  unfold ub_226_189 at h
  refine lb_ld rfl rfl rfl ?_
  refine Lb_w (lb_brP rfl rfl ⟨fun hc => ?_, fun hc => ?_⟩)
  · replace h := h.1 ((i_lt (x := a7) (y := 0) rfl (show (0 : Int32).toInt = 0 by decide)).mp hc)
    exact lk_226_213  h
  · replace h := h.2 (fun q => hc ((i_lt (x := a7) (y := 0) rfl (show (0 : Int32).toInt = 0 by decide)).mpr q))
    refine Lb_w (lb_ld rfl rfl rfl ?_)
    refine Lb_w (lb_get rfl rfl ?_)
    change Lb _ _ _ _ _ _ _ [.int (s.1 8)] _ _
    refine Lb_w (lb_brN rfl rfl ⟨fun hc => ?_, fun hc => ?_⟩)
    · replace h := h.1 (fun q => hc ((i_eq (x := s.1 8) (y := 0) rfl (show (0 : Int32).toInt = 0 by decide)).mpr q))
      exact lk_226_213  h
    · replace h := h.2 ((i_eq (x := s.1 8) (y := 0) rfl (show (0 : Int32).toInt = 0 by decide)).mp hc)
      refine Lb_w (lb_ld rfl rfl rfl ?_)
      refine Lb_w (lb_ld rfl rfl rfl ?_)
      refine Lb_w (lb_ld rfl rfl rfl ?_)
      refine Lb_w (lb_get rfl rfl ?_)
      change Lb _ _ _ _ _ _ _ [.ref 250, .int a7, .ref 213] _ _
      refine Lb_w (lb_c [.int 6, .ref 250, .int a7, .ref 213] (xo_push (.int 6)) rfl rfl ?_)
      refine Lb_w (lb_ld rfl rfl rfl ?_)
      refine Lb_w (lb_ca [.int (6 * a3), .ref 250, .int a7, .ref 213] xo_imul rfl rfl (fun _ hk => ?_))
      replace hk := kc_mul (x := 6) (y := a3) (show (6 : Int32).toInt = 6 by decide) rfl hk
      replace h := h hk _ (i_mul (x := 6) (y := a3) (show (6 : Int32).toInt = 6 by decide) rfl hk)
      refine Lb_w (lb_ld rfl rfl rfl ?_)
      refine Lb_w (lb_ca [.int ((6 * a3) + a6), .ref 250, .int a7, .ref 213] xo_iadd rfl rfl (fun _ hk => ?_))
      replace hk := kc_add (x := (6 * a3)) (y := a6) rfl rfl hk
      replace h := h hk _ (i_add (x := (6 * a3)) (y := a6) rfl rfl hk)
      refine Lb_w (lb_ial rfl rfl (fun hk => ?_))
      change Lb _ _ _ _ _ _ _ [.int (s.2.1 250 ((6 * a3) + a6).toInt.toNat), .int a7, .ref 213] _ _
      replace h := h (kc_in (x := ((6 * a3) + a6)) rfl hk)
      refine Lb_w (lb_ld rfl rfl rfl ?_)
      refine Lb_w (lb_call [.ref 213, .int a7, .int (s.2.1 250 ((6 * a3) + a6).toInt.toNat), .int a5] [] rfl rfl rfl (Par.imp h (fun v4 s3 h => ?_)))
      obtain ⟨rfl, h⟩ := h
      change Lb _ _ _ _ _ _ _ [] _ _
      refine Lb_w (lb_inc [.ref 213, .int a1, .int a2, .int a3, .int a4, .int a5, .int (a6 + 1), .int a7, .null, .null] rfl rfl rfl rfl (fun hk => ?_))
      replace hk := kc_inc (x := a6) (n := 1) rfl hk
      replace h := h hk _ (i_add (x := a6) (y := 1) rfl (show (1 : Int32).toInt = 1 by decide) hk)
      refine Lb_w (lb_ld rfl rfl rfl ?_)
      refine Lb_w (lb_get rfl rfl ?_)
      change Lb _ _ _ _ _ _ _ [.ref 225] _ _
      refine Lb_w (lb_ld rfl rfl rfl ?_)
      refine Lb_w (lb_ial rfl rfl (fun hk => ?_))
      change Lb _ _ _ _ _ _ _ [.int (s3.2.1 225 a7.toInt.toNat)] _ _
      replace h := h (kc_in (x := a7) rfl hk)
      refine Lb_w (lb_st [.ref 213, .int a1, .int a2, .int a3, .int a4, .int a5, .int (a6 + 1), .int (s3.2.1 225 a7.toInt.toNat), .null, .null] rfl rfl rfl ?_)
      refine Lb_w (lb_go rfl ?_)
      exact r189 a1 a2 a3 a4 a5 (a6 + 1) (s3.2.1 225 a7.toInt.toNat)  s3 h
def ubl_226_189 (T : Nat → List Value → yS → (Option Value → yS → Prop) → Prop)  (a1 : Int32) (a2 : Int32) (a3 : Int32) (a4 : Int32) (a5 : Int32) (a6 : Int32) (a7 : Int32) (s : yS) (P : Option Value → yS → Prop) : Prop :=
  ∃ (I : Int32 → Int32 → Int32 → Int32 → Int32 → Int32 → Int32 → yS → Prop), I a1 a2 a3 a4 a5 a6 a7 s ∧ ∀ (a1 : Int32) (a2 : Int32) (a3 : Int32) (a4 : Int32) (a5 : Int32) (a6 : Int32) (a7 : Int32) (s : yS), I a1 a2 a3 a4 a5 a6 a7 s → ub_226_189 T I a1 a2 a3 a4 a5 a6 a7 s P
theorem lkl_226_189 {d N0 : Nat}  {a1 : Int32} {a2 : Int32} {a3 : Int32} {a4 : Int32} {a5 : Int32} {a6 : Int32} {a7 : Int32} {s : yS} {P : Option Value → yS → Prop}  (h : ubl_226_189 (Par d)  a1 a2 a3 a4 a5 a6 a7 s P) : Lb d N0 8 (none) xE_226 (xE_226.drop 189) [.ref 213, .int a1, .int a2, .int a3, .int a4, .int a5, .int a6, .int a7, .null, .null] [] s P := by
  obtain ⟨I, h0, h1⟩ := h
  have key : ∀ (m : Nat), m ≤ N0 → ∀ (a1 : Int32) (a2 : Int32) (a3 : Int32) (a4 : Int32) (a5 : Int32) (a6 : Int32) (a7 : Int32) (s : yS), I a1 a2 a3 a4 a5 a6 a7 s → Lb d m 8 (none) xE_226 (xE_226.drop 189) [.ref 213, .int a1, .int a2, .int a3, .int a4, .int a5, .int a6, .int a7, .null, .null] [] s P := by
    intro m
    induction m with
    | zero => exact fun _ a1 a2 a3 a4 a5 a6 a7 s _ => Lb_0
    | succ m ih =>
      intro hm
      replace hm : m ≤ N0 := Nat.le_of_succ_le hm
      replace ih := ih hm
      intro a1 a2 a3 a4 a5 a6 a7 s hI
      exact lk_226_189 ih (h1 a1 a2 a3 a4 a5 a6 a7 s hI)
  exact key N0 (Nat.le_refl _) a1 a2 a3 a4 a5 a6 a7 s h0
def ub_226_182 (T : Nat → List Value → yS → (Option Value → yS → Prop) → Prop)  (a1 : Int32) (a2 : Int32) (a3 : Int32) (a4 : Int32) (a5 : Int32) (a6 : Int32) (a7 : Int32) (s : yS) (P : Option Value → yS → Prop) : Prop :=
  ((0 ≤ a1.toInt ∧ a1.toInt < 12006) → ubl_226_189 T  a1 a2 a3 a4 a5 0 (s.2.1 224 a1.toInt.toNat)  s P)
set_option maxRecDepth 20000 in
theorem lk_226_182 {d N0 : Nat}  {a1 : Int32} {a2 : Int32} {a3 : Int32} {a4 : Int32} {a5 : Int32} {a6 : Int32} {a7 : Int32} {s : yS} {P : Option Value → yS → Prop}  (h : ub_226_182 (Par d)  a1 a2 a3 a4 a5 a6 a7 s P) : Lb d N0 8 (none) xE_226 (xE_226.drop 182) [.ref 213, .int a1, .int a2, .int a3, .int a4, .int a5, .int a6, .int a7, .null, .null] [] s P := by
  unfold ub_226_182 at h
  refine Lb_w (lb_c [.int 0] (xo_push (.int 0)) rfl rfl ?_)
  refine Lb_w (lb_st [.ref 213, .int a1, .int a2, .int a3, .int a4, .int a5, .int 0, .int a7, .null, .null] rfl rfl rfl ?_)
  refine Lb_w (lb_ld rfl rfl rfl ?_)
  refine Lb_w (lb_get rfl rfl ?_)
  change Lb _ _ _ _ _ _ _ [.ref 224] _ _
  refine Lb_w (lb_ld rfl rfl rfl ?_)
  refine Lb_w (lb_ial rfl rfl (fun hk => ?_))
  change Lb _ _ _ _ _ _ _ [.int (s.2.1 224 a1.toInt.toNat)] _ _
  replace h := h (kc_in (x := a1) rfl hk)
  refine Lb_w (lb_st [.ref 213, .int a1, .int a2, .int a3, .int a4, .int a5, .int 0, .int (s.2.1 224 a1.toInt.toNat), .null, .null] rfl rfl rfl ?_)
  exact lkl_226_189  h
def ub_226_147 (T : Nat → List Value → yS → (Option Value → yS → Prop) → Prop) (R147 : Int32 → Int32 → Int32 → Int32 → Int32 → Int32 → Int32 → yS → Prop) (a1 : Int32) (a2 : Int32) (a3 : Int32) (a4 : Int32) (a5 : Int32) (a6 : Int32) (a7 : Int32) (s : yS) (P : Option Value → yS → Prop) : Prop :=
  (a7.toInt < 0 → ub_226_182 T  a1 a2 a3 a4 a5 a6 a7  s P) ∧ (¬ (a7.toInt < 0) → (¬ ((s.1 8).toInt = 0) → ub_226_182 T  a1 a2 a3 a4 a5 a6 a7  s P) ∧ ((s.1 8).toInt = 0 → ((0 ≤ a7.toInt ∧ a7.toInt < 12006) → ((0 ≤ a7.toInt ∧ a7.toInt < 12006) → ((-2147483648 ≤ 6 * a3.toInt ∧ 6 * a3.toInt ≤ 2147483647) → ∀ x1 : Int32, x1.toInt = 6 * a3.toInt → ((-2147483648 ≤ x1.toInt + a6.toInt ∧ x1.toInt + a6.toInt ≤ 2147483647) → ∀ x2 : Int32, x2.toInt = x1.toInt + a6.toInt → ((0 ≤ x2.toInt ∧ x2.toInt < 2448) → ((0 ≤ a7.toInt ∧ a7.toInt < 12006) → T 212 [.ref 213, .int (s.2.1 231 a7.toInt.toNat), .int (s.2.1 232 a7.toInt.toNat), .int (s.2.1 247 x2.toInt.toNat), .int a5, .int (s.2.1 222 a7.toInt.toNat)] s (fun v4 s3 => v4 = none ∧ (((-2147483648 ≤ a6.toInt + 1 ∧ a6.toInt + 1 ≤ 2147483647) → ∀ x5 : Int32, x5.toInt = a6.toInt + 1 → ((0 ≤ a7.toInt ∧ a7.toInt < 12006) → R147 a1 a2 a3 a4 a5 x5 (s3.2.1 225 a7.toInt.toNat)  s3))))))))))))
set_option maxRecDepth 20000 in
theorem lk_226_147 {d N0 : Nat} {R147 : Int32 → Int32 → Int32 → Int32 → Int32 → Int32 → Int32 → yS → Prop} {a1 : Int32} {a2 : Int32} {a3 : Int32} {a4 : Int32} {a5 : Int32} {a6 : Int32} {a7 : Int32} {s : yS} {P : Option Value → yS → Prop} (r147 : ∀ a1 a2 a3 a4 a5 a6 a7 s, R147 a1 a2 a3 a4 a5 a6 a7 s → Lb d N0 8 (none) xE_226 (xE_226.drop 147) [.ref 213, .int a1, .int a2, .int a3, .int a4, .int a5, .int a6, .int a7, .null, .null] [] s P) (h : ub_226_147 (Par d) R147 a1 a2 a3 a4 a5 a6 a7 s P) : Lb d (N0 + 1) 8 (none) xE_226 (xE_226.drop 147) [.ref 213, .int a1, .int a2, .int a3, .int a4, .int a5, .int a6, .int a7, .null, .null] [] s P := by
  unfold ub_226_147 at h
  refine lb_ld rfl rfl rfl ?_
  refine Lb_w (lb_brP rfl rfl ⟨fun hc => ?_, fun hc => ?_⟩)
  · replace h := h.1 ((i_lt (x := a7) (y := 0) rfl (show (0 : Int32).toInt = 0 by decide)).mp hc)
    exact lk_226_182  h
  · replace h := h.2 (fun q => hc ((i_lt (x := a7) (y := 0) rfl (show (0 : Int32).toInt = 0 by decide)).mpr q))
    refine Lb_w (lb_ld rfl rfl rfl ?_)
    refine Lb_w (lb_get rfl rfl ?_)
    change Lb _ _ _ _ _ _ _ [.int (s.1 8)] _ _
    refine Lb_w (lb_brN rfl rfl ⟨fun hc => ?_, fun hc => ?_⟩)
    · replace h := h.1 (fun q => hc ((i_eq (x := s.1 8) (y := 0) rfl (show (0 : Int32).toInt = 0 by decide)).mpr q))
      exact lk_226_182  h
    · replace h := h.2 ((i_eq (x := s.1 8) (y := 0) rfl (show (0 : Int32).toInt = 0 by decide)).mp hc)
      refine Lb_w (lb_ld rfl rfl rfl ?_)
      refine Lb_w (lb_ld rfl rfl rfl ?_)
      refine Lb_w (lb_get rfl rfl ?_)
      change Lb _ _ _ _ _ _ _ [.ref 231, .ref 213] _ _
      refine Lb_w (lb_ld rfl rfl rfl ?_)
      refine Lb_w (lb_ial rfl rfl (fun hk => ?_))
      change Lb _ _ _ _ _ _ _ [.int (s.2.1 231 a7.toInt.toNat), .ref 213] _ _
      replace h := h (kc_in (x := a7) rfl hk)
      refine Lb_w (lb_ld rfl rfl rfl ?_)
      refine Lb_w (lb_get rfl rfl ?_)
      change Lb _ _ _ _ _ _ _ [.ref 232, .int (s.2.1 231 a7.toInt.toNat), .ref 213] _ _
      refine Lb_w (lb_ld rfl rfl rfl ?_)
      refine Lb_w (lb_ial rfl rfl (fun hk => ?_))
      change Lb _ _ _ _ _ _ _ [.int (s.2.1 232 a7.toInt.toNat), .int (s.2.1 231 a7.toInt.toNat), .ref 213] _ _
      replace h := h (kc_in (x := a7) rfl hk)
      refine Lb_w (lb_ld rfl rfl rfl ?_)
      refine Lb_w (lb_get rfl rfl ?_)
      change Lb _ _ _ _ _ _ _ [.ref 247, .int (s.2.1 232 a7.toInt.toNat), .int (s.2.1 231 a7.toInt.toNat), .ref 213] _ _
      refine Lb_w (lb_c [.int 6, .ref 247, .int (s.2.1 232 a7.toInt.toNat), .int (s.2.1 231 a7.toInt.toNat), .ref 213] (xo_push (.int 6)) rfl rfl ?_)
      refine Lb_w (lb_ld rfl rfl rfl ?_)
      refine Lb_w (lb_ca [.int (6 * a3), .ref 247, .int (s.2.1 232 a7.toInt.toNat), .int (s.2.1 231 a7.toInt.toNat), .ref 213] xo_imul rfl rfl (fun _ hk => ?_))
      replace hk := kc_mul (x := 6) (y := a3) (show (6 : Int32).toInt = 6 by decide) rfl hk
      replace h := h hk _ (i_mul (x := 6) (y := a3) (show (6 : Int32).toInt = 6 by decide) rfl hk)
      refine Lb_w (lb_ld rfl rfl rfl ?_)
      refine Lb_w (lb_ca [.int ((6 * a3) + a6), .ref 247, .int (s.2.1 232 a7.toInt.toNat), .int (s.2.1 231 a7.toInt.toNat), .ref 213] xo_iadd rfl rfl (fun _ hk => ?_))
      replace hk := kc_add (x := (6 * a3)) (y := a6) rfl rfl hk
      replace h := h hk _ (i_add (x := (6 * a3)) (y := a6) rfl rfl hk)
      refine Lb_w (lb_ial rfl rfl (fun hk => ?_))
      change Lb _ _ _ _ _ _ _ [.int (s.2.1 247 ((6 * a3) + a6).toInt.toNat), .int (s.2.1 232 a7.toInt.toNat), .int (s.2.1 231 a7.toInt.toNat), .ref 213] _ _
      replace h := h (kc_in (x := ((6 * a3) + a6)) rfl hk)
      refine Lb_w (lb_ld rfl rfl rfl ?_)
      refine Lb_w (lb_ld rfl rfl rfl ?_)
      refine Lb_w (lb_get rfl rfl ?_)
      change Lb _ _ _ _ _ _ _ [.ref 222, .int a5, .int (s.2.1 247 ((6 * a3) + a6).toInt.toNat), .int (s.2.1 232 a7.toInt.toNat), .int (s.2.1 231 a7.toInt.toNat), .ref 213] _ _
      refine Lb_w (lb_ld rfl rfl rfl ?_)
      refine Lb_w (lb_ial rfl rfl (fun hk => ?_))
      change Lb _ _ _ _ _ _ _ [.int (s.2.1 222 a7.toInt.toNat), .int a5, .int (s.2.1 247 ((6 * a3) + a6).toInt.toNat), .int (s.2.1 232 a7.toInt.toNat), .int (s.2.1 231 a7.toInt.toNat), .ref 213] _ _
      replace h := h (kc_in (x := a7) rfl hk)
      refine Lb_w (lb_call [.ref 213, .int (s.2.1 231 a7.toInt.toNat), .int (s.2.1 232 a7.toInt.toNat), .int (s.2.1 247 ((6 * a3) + a6).toInt.toNat), .int a5, .int (s.2.1 222 a7.toInt.toNat)] [] rfl rfl rfl (Par.imp h (fun v4 s3 h => ?_)))
      obtain ⟨rfl, h⟩ := h
      change Lb _ _ _ _ _ _ _ [] _ _
      refine Lb_w (lb_inc [.ref 213, .int a1, .int a2, .int a3, .int a4, .int a5, .int (a6 + 1), .int a7, .null, .null] rfl rfl rfl rfl (fun hk => ?_))
      replace hk := kc_inc (x := a6) (n := 1) rfl hk
      replace h := h hk _ (i_add (x := a6) (y := 1) rfl (show (1 : Int32).toInt = 1 by decide) hk)
      refine Lb_w (lb_ld rfl rfl rfl ?_)
      refine Lb_w (lb_get rfl rfl ?_)
      change Lb _ _ _ _ _ _ _ [.ref 225] _ _
      refine Lb_w (lb_ld rfl rfl rfl ?_)
      refine Lb_w (lb_ial rfl rfl (fun hk => ?_))
      change Lb _ _ _ _ _ _ _ [.int (s3.2.1 225 a7.toInt.toNat)] _ _
      replace h := h (kc_in (x := a7) rfl hk)
      refine Lb_w (lb_st [.ref 213, .int a1, .int a2, .int a3, .int a4, .int a5, .int (a6 + 1), .int (s3.2.1 225 a7.toInt.toNat), .null, .null] rfl rfl rfl ?_)
      refine Lb_w (lb_go rfl ?_)
      exact r147 a1 a2 a3 a4 a5 (a6 + 1) (s3.2.1 225 a7.toInt.toNat)  s3 h
def ubl_226_147 (T : Nat → List Value → yS → (Option Value → yS → Prop) → Prop)  (a1 : Int32) (a2 : Int32) (a3 : Int32) (a4 : Int32) (a5 : Int32) (a6 : Int32) (a7 : Int32) (s : yS) (P : Option Value → yS → Prop) : Prop :=
  ∃ (I : Int32 → Int32 → Int32 → Int32 → Int32 → Int32 → Int32 → yS → Prop), I a1 a2 a3 a4 a5 a6 a7 s ∧ ∀ (a1 : Int32) (a2 : Int32) (a3 : Int32) (a4 : Int32) (a5 : Int32) (a6 : Int32) (a7 : Int32) (s : yS), I a1 a2 a3 a4 a5 a6 a7 s → ub_226_147 T I a1 a2 a3 a4 a5 a6 a7 s P
theorem lkl_226_147 {d N0 : Nat}  {a1 : Int32} {a2 : Int32} {a3 : Int32} {a4 : Int32} {a5 : Int32} {a6 : Int32} {a7 : Int32} {s : yS} {P : Option Value → yS → Prop}  (h : ubl_226_147 (Par d)  a1 a2 a3 a4 a5 a6 a7 s P) : Lb d N0 8 (none) xE_226 (xE_226.drop 147) [.ref 213, .int a1, .int a2, .int a3, .int a4, .int a5, .int a6, .int a7, .null, .null] [] s P := by
  obtain ⟨I, h0, h1⟩ := h
  have key : ∀ (m : Nat), m ≤ N0 → ∀ (a1 : Int32) (a2 : Int32) (a3 : Int32) (a4 : Int32) (a5 : Int32) (a6 : Int32) (a7 : Int32) (s : yS), I a1 a2 a3 a4 a5 a6 a7 s → Lb d m 8 (none) xE_226 (xE_226.drop 147) [.ref 213, .int a1, .int a2, .int a3, .int a4, .int a5, .int a6, .int a7, .null, .null] [] s P := by
    intro m
    induction m with
    | zero => exact fun _ a1 a2 a3 a4 a5 a6 a7 s _ => Lb_0
    | succ m ih =>
      intro hm
      replace hm : m ≤ N0 := Nat.le_of_succ_le hm
      replace ih := ih hm
      intro a1 a2 a3 a4 a5 a6 a7 s hI
      exact lk_226_147 ih (h1 a1 a2 a3 a4 a5 a6 a7 s hI)
  exact key N0 (Nat.le_refl _) a1 a2 a3 a4 a5 a6 a7 s h0
def ub_226_119 (T : Nat → List Value → yS → (Option Value → yS → Prop) → Prop)  (a1 : Int32) (a2 : Int32) (a3 : Int32) (a4 : Int32) (a5 : Int32) (s : yS) (P : Option Value → yS → Prop) : Prop :=
  ((s.1 8).toInt ≤ 0 → T 188 [.ref 213] s (fun v2 s1 => ∃ x3, v2 = some (.int x3) ∧ (T 189 [.ref 213, .int x3, .int 0, .int a4, .int a2] s1 (fun v5 s4 => v5 = none ∧ (((0 ≤ a1.toInt ∧ a1.toInt < 12006) → T 227 [.ref 213, .int x3, .int a3, .int (s4.2.1 229 a1.toInt.toNat)] s4 (fun v7 s6 => v7 = none ∧ (((0 ≤ a1.toInt ∧ a1.toInt < 12006) → ubl_226_147 T  a1 a2 a3 a4 x3 0 (s6.2.1 229 a1.toInt.toNat)  s6 P))))))))) ∧ (¬ ((s.1 8).toInt ≤ 0) → P none s)
set_option maxRecDepth 20000 in
theorem lk_226_119 {d N0 : Nat}  {a1 : Int32} {a2 : Int32} {a3 : Int32} {a4 : Int32} {a5 : Int32} {s : yS} {P : Option Value → yS → Prop}  (h : ub_226_119 (Par d)  a1 a2 a3 a4 a5 s P) : Lb d N0 8 (none) xE_226 (xE_226.drop 119) [.ref 213, .int a1, .int a2, .int a3, .int a4, .int a5, .null, .null, .null, .null] [] s P := by
  unfold ub_226_119 at h
  refine Lb_w (lb_ld rfl rfl rfl ?_)
  refine Lb_w (lb_get rfl rfl ?_)
  change Lb _ _ _ _ _ _ _ [.int (s.1 8)] _ _
  refine Lb_w (lb_brP rfl rfl ⟨fun hc => ?_, fun hc => ?_⟩)
  · replace h := h.1 ((i_le (x := s.1 8) (y := 0) rfl (show (0 : Int32).toInt = 0 by decide)).mp hc)
    refine Lb_w (lb_ld rfl rfl rfl ?_)
    refine Lb_w (lb_call [.ref 213] [] rfl rfl rfl (Par.imp h (fun v2 s1 h => ?_)))
    obtain ⟨x3, rfl, h⟩ := h
    change Lb _ _ _ _ _ _ _ [.int x3] _ _
    refine Lb_w (lb_st [.ref 213, .int a1, .int a2, .int a3, .int a4, .int x3, .null, .null, .null, .null] rfl rfl rfl ?_)
    refine Lb_w (lb_ld rfl rfl rfl ?_)
    refine Lb_w (lb_ld rfl rfl rfl ?_)
    refine Lb_w (lb_c [.int 0, .int x3, .ref 213] (xo_push (.int 0)) rfl rfl ?_)
    refine Lb_w (lb_ld rfl rfl rfl ?_)
    refine Lb_w (lb_ld rfl rfl rfl ?_)
    refine Lb_w (lb_call [.ref 213, .int x3, .int 0, .int a4, .int a2] [] rfl rfl rfl (Par.imp h (fun v5 s4 h => ?_)))
    obtain ⟨rfl, h⟩ := h
    change Lb _ _ _ _ _ _ _ [] _ _
    refine Lb_w (lb_ld rfl rfl rfl ?_)
    refine Lb_w (lb_ld rfl rfl rfl ?_)
    refine Lb_w (lb_ld rfl rfl rfl ?_)
    refine Lb_w (lb_ld rfl rfl rfl ?_)
    refine Lb_w (lb_get rfl rfl ?_)
    change Lb _ _ _ _ _ _ _ [.ref 229, .int a3, .int x3, .ref 213] _ _
    refine Lb_w (lb_ld rfl rfl rfl ?_)
    refine Lb_w (lb_ial rfl rfl (fun hk => ?_))
    change Lb _ _ _ _ _ _ _ [.int (s4.2.1 229 a1.toInt.toNat), .int a3, .int x3, .ref 213] _ _
    replace h := h (kc_in (x := a1) rfl hk)
    refine Lb_w (lb_call [.ref 213, .int x3, .int a3, .int (s4.2.1 229 a1.toInt.toNat)] [] rfl rfl rfl (Par.imp h (fun v7 s6 h => ?_)))
    obtain ⟨rfl, h⟩ := h
    change Lb _ _ _ _ _ _ _ [] _ _
    refine Lb_w (lb_c [.int 0] (xo_push (.int 0)) rfl rfl ?_)
    refine Lb_w (lb_st [.ref 213, .int a1, .int a2, .int a3, .int a4, .int x3, .int 0, .null, .null, .null] rfl rfl rfl ?_)
    refine Lb_w (lb_ld rfl rfl rfl ?_)
    refine Lb_w (lb_get rfl rfl ?_)
    change Lb _ _ _ _ _ _ _ [.ref 229] _ _
    refine Lb_w (lb_ld rfl rfl rfl ?_)
    refine Lb_w (lb_ial rfl rfl (fun hk => ?_))
    change Lb _ _ _ _ _ _ _ [.int (s6.2.1 229 a1.toInt.toNat)] _ _
    replace h := h (kc_in (x := a1) rfl hk)
    refine Lb_w (lb_st [.ref 213, .int a1, .int a2, .int a3, .int a4, .int x3, .int 0, .int (s6.2.1 229 a1.toInt.toNat), .null, .null] rfl rfl rfl ?_)
    exact lkl_226_147  h
  · replace h := h.2 (fun q => hc ((i_le (x := s.1 8) (y := 0) rfl (show (0 : Int32).toInt = 0 by decide)).mpr q))
    exact Lb_w (lb_ret0 rfl h)
def ub_226_105 (T : Nat → List Value → yS → (Option Value → yS → Prop) → Prop) (R105 : Int32 → Int32 → Int32 → Int32 → Int32 → yS → Prop) (a1 : Int32) (a2 : Int32) (a3 : Int32) (a4 : Int32) (a5 : Int32) (s : yS) (P : Option Value → yS → Prop) : Prop :=
  (a5.toInt < 0 → ub_226_119 T  a1 a2 a3 a4 a5  s P) ∧ (¬ (a5.toInt < 0) → (¬ ((s.1 8).toInt = 0) → ub_226_119 T  a1 a2 a3 a4 a5  s P) ∧ ((s.1 8).toInt = 0 → T 211 [.ref 213, .int a5] s (fun v2 s1 => v2 = none ∧ (((0 ≤ a5.toInt ∧ a5.toInt < 12006) → R105 a1 a2 a3 a4 (s1.2.1 225 a5.toInt.toNat)  s1)))))
set_option maxRecDepth 20000 in
theorem lk_226_105 {d N0 : Nat} {R105 : Int32 → Int32 → Int32 → Int32 → Int32 → yS → Prop} {a1 : Int32} {a2 : Int32} {a3 : Int32} {a4 : Int32} {a5 : Int32} {s : yS} {P : Option Value → yS → Prop} (r105 : ∀ a1 a2 a3 a4 a5 s, R105 a1 a2 a3 a4 a5 s → Lb d N0 8 (none) xE_226 (xE_226.drop 105) [.ref 213, .int a1, .int a2, .int a3, .int a4, .int a5, .null, .null, .null, .null] [] s P) (h : ub_226_105 (Par d) R105 a1 a2 a3 a4 a5 s P) : Lb d (N0 + 1) 8 (none) xE_226 (xE_226.drop 105) [.ref 213, .int a1, .int a2, .int a3, .int a4, .int a5, .null, .null, .null, .null] [] s P := by
  unfold ub_226_105 at h
  refine lb_ld rfl rfl rfl ?_
  refine Lb_w (lb_brP rfl rfl ⟨fun hc => ?_, fun hc => ?_⟩)
  · replace h := h.1 ((i_lt (x := a5) (y := 0) rfl (show (0 : Int32).toInt = 0 by decide)).mp hc)
    exact lk_226_119  h
  · replace h := h.2 (fun q => hc ((i_lt (x := a5) (y := 0) rfl (show (0 : Int32).toInt = 0 by decide)).mpr q))
    refine Lb_w (lb_ld rfl rfl rfl ?_)
    refine Lb_w (lb_get rfl rfl ?_)
    change Lb _ _ _ _ _ _ _ [.int (s.1 8)] _ _
    refine Lb_w (lb_brN rfl rfl ⟨fun hc => ?_, fun hc => ?_⟩)
    · replace h := h.1 (fun q => hc ((i_eq (x := s.1 8) (y := 0) rfl (show (0 : Int32).toInt = 0 by decide)).mpr q))
      exact lk_226_119  h
    · replace h := h.2 ((i_eq (x := s.1 8) (y := 0) rfl (show (0 : Int32).toInt = 0 by decide)).mp hc)
      refine Lb_w (lb_ld rfl rfl rfl ?_)
      refine Lb_w (lb_ld rfl rfl rfl ?_)
      refine Lb_w (lb_call [.ref 213, .int a5] [] rfl rfl rfl (Par.imp h (fun v2 s1 h => ?_)))
      obtain ⟨rfl, h⟩ := h
      change Lb _ _ _ _ _ _ _ [] _ _
      refine Lb_w (lb_ld rfl rfl rfl ?_)
      refine Lb_w (lb_get rfl rfl ?_)
      change Lb _ _ _ _ _ _ _ [.ref 225] _ _
      refine Lb_w (lb_ld rfl rfl rfl ?_)
      refine Lb_w (lb_ial rfl rfl (fun hk => ?_))
      change Lb _ _ _ _ _ _ _ [.int (s1.2.1 225 a5.toInt.toNat)] _ _
      replace h := h (kc_in (x := a5) rfl hk)
      refine Lb_w (lb_st [.ref 213, .int a1, .int a2, .int a3, .int a4, .int (s1.2.1 225 a5.toInt.toNat), .null, .null, .null, .null] rfl rfl rfl ?_)
      refine Lb_w (lb_go rfl ?_)
      exact r105 a1 a2 a3 a4 (s1.2.1 225 a5.toInt.toNat)  s1 h
def ubl_226_105 (T : Nat → List Value → yS → (Option Value → yS → Prop) → Prop)  (a1 : Int32) (a2 : Int32) (a3 : Int32) (a4 : Int32) (a5 : Int32) (s : yS) (P : Option Value → yS → Prop) : Prop :=
  ∃ (I : Int32 → Int32 → Int32 → Int32 → Int32 → yS → Prop), I a1 a2 a3 a4 a5 s ∧ ∀ (a1 : Int32) (a2 : Int32) (a3 : Int32) (a4 : Int32) (a5 : Int32) (s : yS), I a1 a2 a3 a4 a5 s → ub_226_105 T I a1 a2 a3 a4 a5 s P
theorem lkl_226_105 {d N0 : Nat}  {a1 : Int32} {a2 : Int32} {a3 : Int32} {a4 : Int32} {a5 : Int32} {s : yS} {P : Option Value → yS → Prop}  (h : ubl_226_105 (Par d)  a1 a2 a3 a4 a5 s P) : Lb d N0 8 (none) xE_226 (xE_226.drop 105) [.ref 213, .int a1, .int a2, .int a3, .int a4, .int a5, .null, .null, .null, .null] [] s P := by
  obtain ⟨I, h0, h1⟩ := h
  have key : ∀ (m : Nat), m ≤ N0 → ∀ (a1 : Int32) (a2 : Int32) (a3 : Int32) (a4 : Int32) (a5 : Int32) (s : yS), I a1 a2 a3 a4 a5 s → Lb d m 8 (none) xE_226 (xE_226.drop 105) [.ref 213, .int a1, .int a2, .int a3, .int a4, .int a5, .null, .null, .null, .null] [] s P := by
    intro m
    induction m with
    | zero => exact fun _ a1 a2 a3 a4 a5 s _ => Lb_0
    | succ m ih =>
      intro hm
      replace hm : m ≤ N0 := Nat.le_of_succ_le hm
      replace ih := ih hm
      intro a1 a2 a3 a4 a5 s hI
      exact lk_226_105 ih (h1 a1 a2 a3 a4 a5 s hI)
  exact key N0 (Nat.le_refl _) a1 a2 a3 a4 a5 s h0
def ub_226_88 (T : Nat → List Value → yS → (Option Value → yS → Prop) → Prop) (R88 : Int32 → Int32 → Int32 → Int32 → Int32 → yS → Prop) (a1 : Int32) (a2 : Int32) (a3 : Int32) (a4 : Int32) (a5 : Int32) (s : yS) (P : Option Value → yS → Prop) : Prop :=
  (a5.toInt < 0 → ((0 ≤ a1.toInt ∧ a1.toInt < 12006) → ubl_226_105 T  a1 a2 a3 a4 (s.2.1 229 a1.toInt.toNat)  s P)) ∧ (¬ (a5.toInt < 0) → T 204 [.ref 213, .int a5, .int 0] s (fun v2 s1 => v2 = none ∧ (((0 ≤ a5.toInt ∧ a5.toInt < 12006) → R88 a1 a2 a3 a4 (s1.2.1 225 a5.toInt.toNat)  s1))))
set_option maxRecDepth 20000 in
theorem lk_226_88 {d N0 : Nat} {R88 : Int32 → Int32 → Int32 → Int32 → Int32 → yS → Prop} {a1 : Int32} {a2 : Int32} {a3 : Int32} {a4 : Int32} {a5 : Int32} {s : yS} {P : Option Value → yS → Prop} (r88 : ∀ a1 a2 a3 a4 a5 s, R88 a1 a2 a3 a4 a5 s → Lb d N0 8 (none) xE_226 (xE_226.drop 88) [.ref 213, .int a1, .int a2, .int a3, .int a4, .int a5, .null, .null, .null, .null] [] s P) (h : ub_226_88 (Par d) R88 a1 a2 a3 a4 a5 s P) : Lb d (N0 + 1) 8 (none) xE_226 (xE_226.drop 88) [.ref 213, .int a1, .int a2, .int a3, .int a4, .int a5, .null, .null, .null, .null] [] s P := by
  unfold ub_226_88 at h
  refine lb_ld rfl rfl rfl ?_
  refine Lb_w (lb_brP rfl rfl ⟨fun hc => ?_, fun hc => ?_⟩)
  · replace h := h.1 ((i_lt (x := a5) (y := 0) rfl (show (0 : Int32).toInt = 0 by decide)).mp hc)
    refine Lb_w (lb_ld rfl rfl rfl ?_)
    refine Lb_w (lb_get rfl rfl ?_)
    change Lb _ _ _ _ _ _ _ [.ref 229] _ _
    refine Lb_w (lb_ld rfl rfl rfl ?_)
    refine Lb_w (lb_ial rfl rfl (fun hk => ?_))
    change Lb _ _ _ _ _ _ _ [.int (s.2.1 229 a1.toInt.toNat)] _ _
    replace h := h (kc_in (x := a1) rfl hk)
    refine Lb_w (lb_st [.ref 213, .int a1, .int a2, .int a3, .int a4, .int (s.2.1 229 a1.toInt.toNat), .null, .null, .null, .null] rfl rfl rfl ?_)
    exact lkl_226_105  h
  · replace h := h.2 (fun q => hc ((i_lt (x := a5) (y := 0) rfl (show (0 : Int32).toInt = 0 by decide)).mpr q))
    refine Lb_w (lb_ld rfl rfl rfl ?_)
    refine Lb_w (lb_ld rfl rfl rfl ?_)
    refine Lb_w (lb_c [.int 0, .int a5, .ref 213] (xo_push (.int 0)) rfl rfl ?_)
    refine Lb_w (lb_call [.ref 213, .int a5, .int 0] [] rfl rfl rfl (Par.imp h (fun v2 s1 h => ?_)))
    obtain ⟨rfl, h⟩ := h
    change Lb _ _ _ _ _ _ _ [] _ _
    refine Lb_w (lb_ld rfl rfl rfl ?_)
    refine Lb_w (lb_get rfl rfl ?_)
    change Lb _ _ _ _ _ _ _ [.ref 225] _ _
    refine Lb_w (lb_ld rfl rfl rfl ?_)
    refine Lb_w (lb_ial rfl rfl (fun hk => ?_))
    change Lb _ _ _ _ _ _ _ [.int (s1.2.1 225 a5.toInt.toNat)] _ _
    replace h := h (kc_in (x := a5) rfl hk)
    refine Lb_w (lb_st [.ref 213, .int a1, .int a2, .int a3, .int a4, .int (s1.2.1 225 a5.toInt.toNat), .null, .null, .null, .null] rfl rfl rfl ?_)
    refine Lb_w (lb_go rfl ?_)
    exact r88 a1 a2 a3 a4 (s1.2.1 225 a5.toInt.toNat)  s1 h
def ubl_226_88 (T : Nat → List Value → yS → (Option Value → yS → Prop) → Prop)  (a1 : Int32) (a2 : Int32) (a3 : Int32) (a4 : Int32) (a5 : Int32) (s : yS) (P : Option Value → yS → Prop) : Prop :=
  ∃ (I : Int32 → Int32 → Int32 → Int32 → Int32 → yS → Prop), I a1 a2 a3 a4 a5 s ∧ ∀ (a1 : Int32) (a2 : Int32) (a3 : Int32) (a4 : Int32) (a5 : Int32) (s : yS), I a1 a2 a3 a4 a5 s → ub_226_88 T I a1 a2 a3 a4 a5 s P
theorem lkl_226_88 {d N0 : Nat}  {a1 : Int32} {a2 : Int32} {a3 : Int32} {a4 : Int32} {a5 : Int32} {s : yS} {P : Option Value → yS → Prop}  (h : ubl_226_88 (Par d)  a1 a2 a3 a4 a5 s P) : Lb d N0 8 (none) xE_226 (xE_226.drop 88) [.ref 213, .int a1, .int a2, .int a3, .int a4, .int a5, .null, .null, .null, .null] [] s P := by
  obtain ⟨I, h0, h1⟩ := h
  have key : ∀ (m : Nat), m ≤ N0 → ∀ (a1 : Int32) (a2 : Int32) (a3 : Int32) (a4 : Int32) (a5 : Int32) (s : yS), I a1 a2 a3 a4 a5 s → Lb d m 8 (none) xE_226 (xE_226.drop 88) [.ref 213, .int a1, .int a2, .int a3, .int a4, .int a5, .null, .null, .null, .null] [] s P := by
    intro m
    induction m with
    | zero => exact fun _ a1 a2 a3 a4 a5 s _ => Lb_0
    | succ m ih =>
      intro hm
      replace hm : m ≤ N0 := Nat.le_of_succ_le hm
      replace ih := ih hm
      intro a1 a2 a3 a4 a5 s hI
      exact lk_226_88 ih (h1 a1 a2 a3 a4 a5 s hI)
  exact key N0 (Nat.le_refl _) a1 a2 a3 a4 a5 s h0
def ub_226_83 (T : Nat → List Value → yS → (Option Value → yS → Prop) → Prop)  (a1 : Int32) (a2 : Int32) (a3 : Int32) (a4 : Int32) (s : yS) (P : Option Value → yS → Prop) : Prop :=
  ((0 ≤ a1.toInt ∧ a1.toInt < 12006) → ubl_226_88 T  a1 a2 a3 a4 (s.2.1 229 a1.toInt.toNat)  s P)
set_option maxRecDepth 20000 in
theorem lk_226_83 {d N0 : Nat}  {a1 : Int32} {a2 : Int32} {a3 : Int32} {a4 : Int32} {s : yS} {P : Option Value → yS → Prop}  (h : ub_226_83 (Par d)  a1 a2 a3 a4 s P) : Lb d N0 8 (none) xE_226 (xE_226.drop 83) [.ref 213, .int a1, .int a2, .int a3, .int a4, .null, .null, .null, .null, .null] [] s P := by
  unfold ub_226_83 at h
  refine Lb_w (lb_ld rfl rfl rfl ?_)
  refine Lb_w (lb_get rfl rfl ?_)
  change Lb _ _ _ _ _ _ _ [.ref 229] _ _
  refine Lb_w (lb_ld rfl rfl rfl ?_)
  refine Lb_w (lb_ial rfl rfl (fun hk => ?_))
  change Lb _ _ _ _ _ _ _ [.int (s.2.1 229 a1.toInt.toNat)] _ _
  replace h := h (kc_in (x := a1) rfl hk)
  refine Lb_w (lb_st [.ref 213, .int a1, .int a2, .int a3, .int a4, .int (s.2.1 229 a1.toInt.toNat), .null, .null, .null, .null] rfl rfl rfl ?_)
  exact lkl_226_88  h
def ub_226_76 (T : Nat → List Value → yS → (Option Value → yS → Prop) → Prop)  (a1 : Int32) (a2 : Int32) (a3 : Int32) (a4 : Int32) (s : yS) (P : Option Value → yS → Prop) : Prop :=
  ((0 ≤ a1.toInt ∧ a1.toInt < 12006) → T 163 [.ref 213, .int 4, .int (s.2.1 222 a1.toInt.toNat)] s (fun v2 s1 => v2 = none ∧ (ub_226_83 T  a1 a2 a3 a4  s1 P)))
set_option maxRecDepth 20000 in
theorem lk_226_76 {d N0 : Nat}  {a1 : Int32} {a2 : Int32} {a3 : Int32} {a4 : Int32} {s : yS} {P : Option Value → yS → Prop}  (h : ub_226_76 (Par d)  a1 a2 a3 a4 s P) : Lb d N0 8 (none) xE_226 (xE_226.drop 76) [.ref 213, .int a1, .int a2, .int a3, .int a4, .null, .null, .null, .null, .null] [] s P := by
  unfold ub_226_76 at h
  refine Lb_w (lb_ld rfl rfl rfl ?_)
  refine Lb_w (lb_c [.int 4, .ref 213] (xo_push (.int 4)) rfl rfl ?_)
  refine Lb_w (lb_ld rfl rfl rfl ?_)
  refine Lb_w (lb_get rfl rfl ?_)
  change Lb _ _ _ _ _ _ _ [.ref 222, .int 4, .ref 213] _ _
  refine Lb_w (lb_ld rfl rfl rfl ?_)
  refine Lb_w (lb_ial rfl rfl (fun hk => ?_))
  change Lb _ _ _ _ _ _ _ [.int (s.2.1 222 a1.toInt.toNat), .int 4, .ref 213] _ _
  replace h := h (kc_in (x := a1) rfl hk)
  refine Lb_w (lb_call [.ref 213, .int 4, .int (s.2.1 222 a1.toInt.toNat)] [] rfl rfl rfl (Par.imp h (fun v2 s1 h => ?_)))
  obtain ⟨rfl, h⟩ := h
  change Lb _ _ _ _ _ _ _ [] _ _
  exact lk_226_83  h
def ub_226_33 (T : Nat → List Value → yS → (Option Value → yS → Prop) → Prop)  (a1 : Int32) (a2 : Int32) (s : yS) (P : Option Value → yS → Prop) : Prop :=
  ((0 ≤ a1.toInt ∧ a1.toInt < 12006) → ((0 ≤ (s.2.1 222 a1.toInt.toNat).toInt ∧ (s.2.1 222 a1.toInt.toNat).toInt < 12006) → T 193 [.ref 213, .int a2, .int (s.2.1 217 (s.2.1 222 a1.toInt.toNat).toInt.toNat)] s (fun v2 s1 => ∃ x3, v2 = some (.int x3) ∧ ((¬ (x3.toInt = 0) → ((0 ≤ a1.toInt ∧ a1.toInt < 12006) → ((0 ≤ (s1.1 73).toInt ∧ (s1.1 73).toInt < 408) → (¬ ((s1.2.1 230 a1.toInt.toNat).toInt = (s1.2.1 245 (s1.1 73).toInt.toNat).toInt) → ub_226_76 T  a1 a2 (s1.1 73) (s1.1 74)  s1 P) ∧ ((s1.2.1 230 a1.toInt.toNat).toInt = (s1.2.1 245 (s1.1 73).toInt.toNat).toInt → ((0 ≤ a1.toInt ∧ a1.toInt < 12006) → ((0 ≤ (s1.1 73).toInt ∧ (s1.1 73).toInt < 408) → ((s1.2.1 226 a1.toInt.toNat).toInt = (s1.2.1 248 (s1.1 73).toInt.toNat).toInt → ub_226_83 T  a1 a2 (s1.1 73) (s1.1 74)  s1 P) ∧ (¬ ((s1.2.1 226 a1.toInt.toNat).toInt = (s1.2.1 248 (s1.1 73).toInt.toNat).toInt) → ub_226_76 T  a1 a2 (s1.1 73) (s1.1 74)  s1 P))))))) ∧ (x3.toInt = 0 → ((0 ≤ a1.toInt ∧ a1.toInt < 12006) → T 163 [.ref 213, .int 2, .int (s1.2.1 222 a1.toInt.toNat)] s1 (fun v5 s4 => v5 = none ∧ (P none s4))))))))
set_option maxRecDepth 20000 in
theorem lk_226_33 {d N0 : Nat}  {a1 : Int32} {a2 : Int32} {s : yS} {P : Option Value → yS → Prop}  (h : ub_226_33 (Par d)  a1 a2 s P) : Lb d N0 8 (none) xE_226 (xE_226.drop 33) [.ref 213, .int a1, .int a2, .null, .null, .null, .null, .null, .null, .null] [] s P := by
  unfold ub_226_33 at h
  refine Lb_w (lb_ld rfl rfl rfl ?_)
  refine Lb_w (lb_ld rfl rfl rfl ?_)
  refine Lb_w (lb_ld rfl rfl rfl ?_)
  refine Lb_w (lb_get rfl rfl ?_)
  change Lb _ _ _ _ _ _ _ [.ref 217, .int a2, .ref 213] _ _
  refine Lb_w (lb_ld rfl rfl rfl ?_)
  refine Lb_w (lb_get rfl rfl ?_)
  change Lb _ _ _ _ _ _ _ [.ref 222, .ref 217, .int a2, .ref 213] _ _
  refine Lb_w (lb_ld rfl rfl rfl ?_)
  refine Lb_w (lb_ial rfl rfl (fun hk => ?_))
  change Lb _ _ _ _ _ _ _ [.int (s.2.1 222 a1.toInt.toNat), .ref 217, .int a2, .ref 213] _ _
  replace h := h (kc_in (x := a1) rfl hk)
  refine Lb_w (lb_ial rfl rfl (fun hk => ?_))
  change Lb _ _ _ _ _ _ _ [.int (s.2.1 217 (s.2.1 222 a1.toInt.toNat).toInt.toNat), .int a2, .ref 213] _ _
  replace h := h (kc_in (x := s.2.1 222 a1.toInt.toNat) rfl hk)
  refine Lb_w (lb_call [.ref 213, .int a2, .int (s.2.1 217 (s.2.1 222 a1.toInt.toNat).toInt.toNat)] [] rfl rfl rfl (Par.imp h (fun v2 s1 h => ?_)))
  obtain ⟨x3, rfl, h⟩ := h
  change Lb _ _ _ _ _ _ _ [.int x3] _ _
  refine Lb_w (lb_brN rfl rfl ⟨fun hc => ?_, fun hc => ?_⟩)
  · replace h := h.1 (fun q => hc ((i_eq (x := x3) (y := 0) rfl (show (0 : Int32).toInt = 0 by decide)).mpr q))
    refine Lb_w (lb_ld rfl rfl rfl ?_)
    refine Lb_w (lb_get rfl rfl ?_)
    change Lb _ _ _ _ _ _ _ [.int (s1.1 73)] _ _
    refine Lb_w (lb_st [.ref 213, .int a1, .int a2, .int (s1.1 73), .null, .null, .null, .null, .null, .null] rfl rfl rfl ?_)
    refine Lb_w (lb_ld rfl rfl rfl ?_)
    refine Lb_w (lb_get rfl rfl ?_)
    change Lb _ _ _ _ _ _ _ [.int (s1.1 74)] _ _
    refine Lb_w (lb_st [.ref 213, .int a1, .int a2, .int (s1.1 73), .int (s1.1 74), .null, .null, .null, .null, .null] rfl rfl rfl ?_)
    refine Lb_w (lb_ld rfl rfl rfl ?_)
    refine Lb_w (lb_get rfl rfl ?_)
    change Lb _ _ _ _ _ _ _ [.ref 230] _ _
    refine Lb_w (lb_ld rfl rfl rfl ?_)
    refine Lb_w (lb_ial rfl rfl (fun hk => ?_))
    change Lb _ _ _ _ _ _ _ [.int (s1.2.1 230 a1.toInt.toNat)] _ _
    replace h := h (kc_in (x := a1) rfl hk)
    refine Lb_w (lb_ld rfl rfl rfl ?_)
    refine Lb_w (lb_get rfl rfl ?_)
    change Lb _ _ _ _ _ _ _ [.ref 245, .int (s1.2.1 230 a1.toInt.toNat)] _ _
    refine Lb_w (lb_ld rfl rfl rfl ?_)
    refine Lb_w (lb_ial rfl rfl (fun hk => ?_))
    change Lb _ _ _ _ _ _ _ [.int (s1.2.1 245 (s1.1 73).toInt.toNat), .int (s1.2.1 230 a1.toInt.toNat)] _ _
    replace h := h (kc_in (x := s1.1 73) rfl hk)
    refine Lb_w (lb_brN rfl rfl ⟨fun hc => ?_, fun hc => ?_⟩)
    · replace h := h.1 (fun q => hc ((i_eq (x := s1.2.1 230 a1.toInt.toNat) (y := s1.2.1 245 (s1.1 73).toInt.toNat) rfl rfl).mpr q))
      exact lk_226_76  h
    · replace h := h.2 ((i_eq (x := s1.2.1 230 a1.toInt.toNat) (y := s1.2.1 245 (s1.1 73).toInt.toNat) rfl rfl).mp hc)
      refine Lb_w (lb_ld rfl rfl rfl ?_)
      refine Lb_w (lb_get rfl rfl ?_)
      change Lb _ _ _ _ _ _ _ [.ref 226] _ _
      refine Lb_w (lb_ld rfl rfl rfl ?_)
      refine Lb_w (lb_ial rfl rfl (fun hk => ?_))
      change Lb _ _ _ _ _ _ _ [.int (s1.2.1 226 a1.toInt.toNat)] _ _
      replace h := h (kc_in (x := a1) rfl hk)
      refine Lb_w (lb_ld rfl rfl rfl ?_)
      refine Lb_w (lb_get rfl rfl ?_)
      change Lb _ _ _ _ _ _ _ [.ref 248, .int (s1.2.1 226 a1.toInt.toNat)] _ _
      refine Lb_w (lb_ld rfl rfl rfl ?_)
      refine Lb_w (lb_ial rfl rfl (fun hk => ?_))
      change Lb _ _ _ _ _ _ _ [.int (s1.2.1 248 (s1.1 73).toInt.toNat), .int (s1.2.1 226 a1.toInt.toNat)] _ _
      replace h := h (kc_in (x := s1.1 73) rfl hk)
      refine Lb_w (lb_brP rfl rfl ⟨fun hc => ?_, fun hc => ?_⟩)
      · replace h := h.1 ((i_eq (x := s1.2.1 226 a1.toInt.toNat) (y := s1.2.1 248 (s1.1 73).toInt.toNat) rfl rfl).mp hc)
        exact lk_226_83  h
      · replace h := h.2 (fun q => hc ((i_eq (x := s1.2.1 226 a1.toInt.toNat) (y := s1.2.1 248 (s1.1 73).toInt.toNat) rfl rfl).mpr q))
        exact lk_226_76  h
  · replace h := h.2 ((i_eq (x := x3) (y := 0) rfl (show (0 : Int32).toInt = 0 by decide)).mp hc)
    refine Lb_w (lb_ld rfl rfl rfl ?_)
    refine Lb_w (lb_c [.int 2, .ref 213] (xo_push (.int 2)) rfl rfl ?_)
    refine Lb_w (lb_ld rfl rfl rfl ?_)
    refine Lb_w (lb_get rfl rfl ?_)
    change Lb _ _ _ _ _ _ _ [.ref 222, .int 2, .ref 213] _ _
    refine Lb_w (lb_ld rfl rfl rfl ?_)
    refine Lb_w (lb_ial rfl rfl (fun hk => ?_))
    change Lb _ _ _ _ _ _ _ [.int (s1.2.1 222 a1.toInt.toNat), .int 2, .ref 213] _ _
    replace h := h (kc_in (x := a1) rfl hk)
    refine Lb_w (lb_call [.ref 213, .int 2, .int (s1.2.1 222 a1.toInt.toNat)] [] rfl rfl rfl (Par.imp h (fun v5 s4 h => ?_)))
    obtain ⟨rfl, h⟩ := h
    change Lb _ _ _ _ _ _ _ [] _ _
    exact Lb_w (lb_ret0 rfl h)
def ub_226_0 (T : Nat → List Value → yS → (Option Value → yS → Prop) → Prop)  (a1 : Int32) (s : yS) (P : Option Value → yS → Prop) : Prop :=
  ((0 ≤ a1.toInt ∧ a1.toInt < 12006) → T 217 [.ref 213, .int (s.2.1 227 a1.toInt.toNat)] s (fun v2 s1 => v2 = none ∧ (((s1.1 8).toInt ≤ 0 → T 225 [.ref 213, .int a1] s1 (fun v4 s3 => v4 = none ∧ (((0 ≤ (s3.1 80).toInt ∧ (s3.1 80).toInt < 200000) → T 185 [.int (s3.2.1 264 (s3.1 80).toInt.toNat)] s3 (fun v6 s5 => ∃ x7, v6 = some (.int x7) ∧ ((x7.toInt < 1000 → ub_226_33 T  a1 (s3.1 80)  s5 P) ∧ (¬ (x7.toInt < 1000) → ((0 ≤ (s3.1 80).toInt ∧ (s3.1 80).toInt < 200000) → T 185 [.int (s5.2.1 264 (s3.1 80).toInt.toNat)] s5 (fun v9 s8 => ∃ x10, v9 = some (.int x10) ∧ (T 194 [.ref 213, .int x10] s8 (fun v12 s11 => v12 = none ∧ (ub_226_33 T  a1 (s11.1 71)  s11 P)))))))))))) ∧ (¬ ((s1.1 8).toInt ≤ 0) → P none s1))))
set_option maxRecDepth 20000 in
theorem lk_226_0 {d N0 : Nat}  {a1 : Int32} {s : yS} {P : Option Value → yS → Prop}  (h : ub_226_0 (Par d)  a1 s P) : Lb d N0 8 (none) xE_226 (xE_226.drop 0) [.ref 213, .int a1, .null, .null, .null, .null, .null, .null, .null, .null] [] s P := by
  unfold ub_226_0 at h
  refine Lb_w (lb_ld rfl rfl rfl ?_)
  refine Lb_w (lb_ld rfl rfl rfl ?_)
  refine Lb_w (lb_get rfl rfl ?_)
  change Lb _ _ _ _ _ _ _ [.ref 227, .ref 213] _ _
  refine Lb_w (lb_ld rfl rfl rfl ?_)
  refine Lb_w (lb_ial rfl rfl (fun hk => ?_))
  change Lb _ _ _ _ _ _ _ [.int (s.2.1 227 a1.toInt.toNat), .ref 213] _ _
  replace h := h (kc_in (x := a1) rfl hk)
  refine Lb_w (lb_call [.ref 213, .int (s.2.1 227 a1.toInt.toNat)] [] rfl rfl rfl (Par.imp h (fun v2 s1 h => ?_)))
  obtain ⟨rfl, h⟩ := h
  change Lb _ _ _ _ _ _ _ [] _ _
  refine Lb_w (lb_ld rfl rfl rfl ?_)
  refine Lb_w (lb_get rfl rfl ?_)
  change Lb _ _ _ _ _ _ _ [.int (s1.1 8)] _ _
  refine Lb_w (lb_brP rfl rfl ⟨fun hc => ?_, fun hc => ?_⟩)
  · replace h := h.1 ((i_le (x := s1.1 8) (y := 0) rfl (show (0 : Int32).toInt = 0 by decide)).mp hc)
    refine Lb_w (lb_ld rfl rfl rfl ?_)
    refine Lb_w (lb_ld rfl rfl rfl ?_)
    refine Lb_w (lb_call [.ref 213, .int a1] [] rfl rfl rfl (Par.imp h (fun v4 s3 h => ?_)))
    obtain ⟨rfl, h⟩ := h
    change Lb _ _ _ _ _ _ _ [] _ _
    refine Lb_w (lb_ld rfl rfl rfl ?_)
    refine Lb_w (lb_get rfl rfl ?_)
    change Lb _ _ _ _ _ _ _ [.int (s3.1 80)] _ _
    refine Lb_w (lb_st [.ref 213, .int a1, .int (s3.1 80), .null, .null, .null, .null, .null, .null, .null] rfl rfl rfl ?_)
    refine Lb_w (lb_ld rfl rfl rfl ?_)
    refine Lb_w (lb_get rfl rfl ?_)
    change Lb _ _ _ _ _ _ _ [.ref 264] _ _
    refine Lb_w (lb_ld rfl rfl rfl ?_)
    refine Lb_w (lb_ial rfl rfl (fun hk => ?_))
    change Lb _ _ _ _ _ _ _ [.int (s3.2.1 264 (s3.1 80).toInt.toNat)] _ _
    replace h := h (kc_in (x := s3.1 80) rfl hk)
    refine Lb_w (lb_call [.int (s3.2.1 264 (s3.1 80).toInt.toNat)] [] rfl rfl rfl (Par.imp h (fun v6 s5 h => ?_)))
    obtain ⟨x7, rfl, h⟩ := h
    change Lb _ _ _ _ _ _ _ [.int x7] _ _
    refine Lb_w (lb_c [.int 1000, .int x7] (xo_push (.int 1000)) rfl rfl ?_)
    refine Lb_w (lb_brP rfl rfl ⟨fun hc => ?_, fun hc => ?_⟩)
    · replace h := h.1 ((i_lt (x := x7) (y := 1000) rfl (show (1000 : Int32).toInt = 1000 by decide)).mp hc)
      exact lk_226_33  h
    · replace h := h.2 (fun q => hc ((i_lt (x := x7) (y := 1000) rfl (show (1000 : Int32).toInt = 1000 by decide)).mpr q))
      refine Lb_w (lb_ld rfl rfl rfl ?_)
      refine Lb_w (lb_ld rfl rfl rfl ?_)
      refine Lb_w (lb_get rfl rfl ?_)
      change Lb _ _ _ _ _ _ _ [.ref 264, .ref 213] _ _
      refine Lb_w (lb_ld rfl rfl rfl ?_)
      refine Lb_w (lb_ial rfl rfl (fun hk => ?_))
      change Lb _ _ _ _ _ _ _ [.int (s5.2.1 264 (s3.1 80).toInt.toNat), .ref 213] _ _
      replace h := h (kc_in (x := s3.1 80) rfl hk)
      refine Lb_w (lb_call [.int (s5.2.1 264 (s3.1 80).toInt.toNat)] [.ref 213] rfl rfl rfl (Par.imp h (fun v9 s8 h => ?_)))
      obtain ⟨x10, rfl, h⟩ := h
      change Lb _ _ _ _ _ _ _ [.int x10, .ref 213] _ _
      refine Lb_w (lb_call [.ref 213, .int x10] [] rfl rfl rfl (Par.imp h (fun v12 s11 h => ?_)))
      obtain ⟨rfl, h⟩ := h
      change Lb _ _ _ _ _ _ _ [] _ _
      refine Lb_w (lb_ld rfl rfl rfl ?_)
      refine Lb_w (lb_get rfl rfl ?_)
      change Lb _ _ _ _ _ _ _ [.int (s11.1 71)] _ _
      refine Lb_w (lb_st [.ref 213, .int a1, .int (s11.1 71), .null, .null, .null, .null, .null, .null, .null] rfl rfl rfl ?_)
      exact lk_226_33  h
  · replace h := h.2 (fun q => hc ((i_le (x := s1.1 8) (y := 0) rfl (show (0 : Int32).toInt = 0 by decide)).mpr q))
    exact Lb_w (lb_ret0 rfl h)
theorem pb_226 {d : Nat} {a1 : Int32} {s : yS} {P : Option Value → yS → Prop} (h : ub_226_0 (Par d) a1 s P) : Par (d + 1) 226 [.ref 213, .int a1] s P := par_of (E := xE_226) (ml := 8) (ret := none) rfl (fun _ => lk_226_0 h)
/-! told -/
def ub_227_27 (T : Nat → List Value → yS → (Option Value → yS → Prop) → Prop) (R27 : Int32 → Int32 → Int32 → Int32 → Int32 → yS → Prop) (a1 : Int32) (a2 : Int32) (a3 : Int32) (a4 : Int32) (a5 : Int32) (s : yS) (P : Option Value → yS → Prop) : Prop :=
  (a5.toInt < 0 → P none s) ∧ (¬ (a5.toInt < 0) → ((-2147483648 ≤ 6 * a4.toInt ∧ 6 * a4.toInt ≤ 2147483647) → ∀ x1 : Int32, x1.toInt = 6 * a4.toInt → ((0 ≤ a4.toInt ∧ a4.toInt < 600) → ((-2147483648 ≤ x1.toInt + (s.2.1 266 a4.toInt.toNat).toInt ∧ x1.toInt + (s.2.1 266 a4.toInt.toNat).toInt ≤ 2147483647) → ∀ x2 : Int32, x2.toInt = x1.toInt + (s.2.1 266 a4.toInt.toNat).toInt → ((0 ≤ a5.toInt ∧ a5.toInt < 12006) → ((0 ≤ x2.toInt ∧ x2.toInt < 3600) → ∀ s3, s3 = sa s 267 x2.toInt.toNat (s.2.1 231 a5.toInt.toNat) → ((-2147483648 ≤ 6 * a4.toInt ∧ 6 * a4.toInt ≤ 2147483647) → ∀ x4 : Int32, x4.toInt = 6 * a4.toInt → ((0 ≤ a4.toInt ∧ a4.toInt < 600) → ((-2147483648 ≤ x4.toInt + (s3.2.1 266 a4.toInt.toNat).toInt ∧ x4.toInt + (s3.2.1 266 a4.toInt.toNat).toInt ≤ 2147483647) → ∀ x5 : Int32, x5.toInt = x4.toInt + (s3.2.1 266 a4.toInt.toNat).toInt → ((0 ≤ a5.toInt ∧ a5.toInt < 12006) → ((0 ≤ x5.toInt ∧ x5.toInt < 3600) → ∀ s6, s6 = sa s3 268 x5.toInt.toNat (s3.2.1 232 a5.toInt.toNat) → ((0 ≤ a4.toInt ∧ a4.toInt < 600) → ((-2147483648 ≤ (s6.2.1 266 a4.toInt.toNat).toInt + 1 ∧ (s6.2.1 266 a4.toInt.toNat).toInt + 1 ≤ 2147483647) → ∀ x7 : Int32, x7.toInt = (s6.2.1 266 a4.toInt.toNat).toInt + 1 → ((0 ≤ a4.toInt ∧ a4.toInt < 600) → ∀ s8, s8 = sa s6 266 a4.toInt.toNat x7 → ((0 ≤ a5.toInt ∧ a5.toInt < 12006) → R27 a1 a2 a3 a4 (s8.2.1 225 a5.toInt.toNat)  s8)))))))))))))))
set_option maxRecDepth 20000 in
theorem lk_227_27 {d N0 : Nat} {R27 : Int32 → Int32 → Int32 → Int32 → Int32 → yS → Prop} {a1 : Int32} {a2 : Int32} {a3 : Int32} {a4 : Int32} {a5 : Int32} {s : yS} {P : Option Value → yS → Prop} (r27 : ∀ a1 a2 a3 a4 a5 s, R27 a1 a2 a3 a4 a5 s → Lb d N0 6 (none) xE_227 (xE_227.drop 27) [.ref 213, .int a1, .int a2, .int a3, .int a4, .int a5, .null, .null, .null, .null] [] s P) (h : ub_227_27 (Par d) R27 a1 a2 a3 a4 a5 s P) : Lb d (N0 + 1) 6 (none) xE_227 (xE_227.drop 27) [.ref 213, .int a1, .int a2, .int a3, .int a4, .int a5, .null, .null, .null, .null] [] s P := by
  unfold ub_227_27 at h
  refine lb_ld rfl rfl rfl ?_
  refine Lb_w (lb_brP rfl rfl ⟨fun hc => ?_, fun hc => ?_⟩)
  · replace h := h.1 ((i_lt (x := a5) (y := 0) rfl (show (0 : Int32).toInt = 0 by decide)).mp hc)
    exact Lb_w (lb_ret0 rfl h)
  · replace h := h.2 (fun q => hc ((i_lt (x := a5) (y := 0) rfl (show (0 : Int32).toInt = 0 by decide)).mpr q))
    refine Lb_w (lb_ld rfl rfl rfl ?_)
    refine Lb_w (lb_get rfl rfl ?_)
    change Lb _ _ _ _ _ _ _ [.ref 267] _ _
    refine Lb_w (lb_c [.int 6, .ref 267] (xo_push (.int 6)) rfl rfl ?_)
    refine Lb_w (lb_ld rfl rfl rfl ?_)
    refine Lb_w (lb_ca [.int (6 * a4), .ref 267] xo_imul rfl rfl (fun _ hk => ?_))
    replace hk := kc_mul (x := 6) (y := a4) (show (6 : Int32).toInt = 6 by decide) rfl hk
    replace h := h hk _ (i_mul (x := 6) (y := a4) (show (6 : Int32).toInt = 6 by decide) rfl hk)
    refine Lb_w (lb_ld rfl rfl rfl ?_)
    refine Lb_w (lb_get rfl rfl ?_)
    change Lb _ _ _ _ _ _ _ [.ref 266, .int (6 * a4), .ref 267] _ _
    refine Lb_w (lb_ld rfl rfl rfl ?_)
    refine Lb_w (lb_ial rfl rfl (fun hk => ?_))
    change Lb _ _ _ _ _ _ _ [.int (s.2.1 266 a4.toInt.toNat), .int (6 * a4), .ref 267] _ _
    replace h := h (kc_in (x := a4) rfl hk)
    refine Lb_w (lb_ca [.int ((6 * a4) + (s.2.1 266 a4.toInt.toNat)), .ref 267] xo_iadd rfl rfl (fun _ hk => ?_))
    replace hk := kc_add (x := (6 * a4)) (y := s.2.1 266 a4.toInt.toNat) rfl rfl hk
    replace h := h hk _ (i_add (x := (6 * a4)) (y := s.2.1 266 a4.toInt.toNat) rfl rfl hk)
    refine Lb_w (lb_ld rfl rfl rfl ?_)
    refine Lb_w (lb_get rfl rfl ?_)
    change Lb _ _ _ _ _ _ _ [.ref 231, .int ((6 * a4) + (s.2.1 266 a4.toInt.toNat)), .ref 267] _ _
    refine Lb_w (lb_ld rfl rfl rfl ?_)
    refine Lb_w (lb_ial rfl rfl (fun hk => ?_))
    change Lb _ _ _ _ _ _ _ [.int (s.2.1 231 a5.toInt.toNat), .int ((6 * a4) + (s.2.1 266 a4.toInt.toNat)), .ref 267] _ _
    replace h := h (kc_in (x := a5) rfl hk)
    refine Lb_w (lb_ias rfl rfl (fun hk => ?_))
    replace h := h (kc_in (x := ((6 * a4) + (s.2.1 266 a4.toInt.toNat))) rfl hk)
    replace h := h _ rfl
    refine Lb_w (lb_ld rfl rfl rfl ?_)
    refine Lb_w (lb_get rfl rfl ?_)
    change Lb _ _ _ _ _ _ _ [.ref 268] _ _
    refine Lb_w (lb_c [.int 6, .ref 268] (xo_push (.int 6)) rfl rfl ?_)
    refine Lb_w (lb_ld rfl rfl rfl ?_)
    refine Lb_w (lb_ca [.int (6 * a4), .ref 268] xo_imul rfl rfl (fun _ hk => ?_))
    replace hk := kc_mul (x := 6) (y := a4) (show (6 : Int32).toInt = 6 by decide) rfl hk
    replace h := h hk _ (i_mul (x := 6) (y := a4) (show (6 : Int32).toInt = 6 by decide) rfl hk)
    refine Lb_w (lb_ld rfl rfl rfl ?_)
    refine Lb_w (lb_get rfl rfl ?_)
    change Lb _ _ _ _ _ _ _ [.ref 266, .int (6 * a4), .ref 268] _ _
    refine Lb_w (lb_ld rfl rfl rfl ?_)
    refine Lb_w (lb_ial rfl rfl (fun hk => ?_))
    change Lb _ _ _ _ _ _ _ [.int ((sa s 267 ((6 * a4) + (s.2.1 266 a4.toInt.toNat)).toInt.toNat (s.2.1 231 a5.toInt.toNat)).2.1 266 a4.toInt.toNat), .int (6 * a4), .ref 268] _ _
    replace h := h (kc_in (x := a4) rfl hk)
    refine Lb_w (lb_ca [.int ((6 * a4) + ((sa s 267 ((6 * a4) + (s.2.1 266 a4.toInt.toNat)).toInt.toNat (s.2.1 231 a5.toInt.toNat)).2.1 266 a4.toInt.toNat)), .ref 268] xo_iadd rfl rfl (fun _ hk => ?_))
    replace hk := kc_add (x := (6 * a4)) (y := (sa s 267 ((6 * a4) + (s.2.1 266 a4.toInt.toNat)).toInt.toNat (s.2.1 231 a5.toInt.toNat)).2.1 266 a4.toInt.toNat) rfl rfl hk
    replace h := h hk _ (i_add (x := (6 * a4)) (y := (sa s 267 ((6 * a4) + (s.2.1 266 a4.toInt.toNat)).toInt.toNat (s.2.1 231 a5.toInt.toNat)).2.1 266 a4.toInt.toNat) rfl rfl hk)
    refine Lb_w (lb_ld rfl rfl rfl ?_)
    refine Lb_w (lb_get rfl rfl ?_)
    change Lb _ _ _ _ _ _ _ [.ref 232, .int ((6 * a4) + ((sa s 267 ((6 * a4) + (s.2.1 266 a4.toInt.toNat)).toInt.toNat (s.2.1 231 a5.toInt.toNat)).2.1 266 a4.toInt.toNat)), .ref 268] _ _
    refine Lb_w (lb_ld rfl rfl rfl ?_)
    refine Lb_w (lb_ial rfl rfl (fun hk => ?_))
    change Lb _ _ _ _ _ _ _ [.int ((sa s 267 ((6 * a4) + (s.2.1 266 a4.toInt.toNat)).toInt.toNat (s.2.1 231 a5.toInt.toNat)).2.1 232 a5.toInt.toNat), .int ((6 * a4) + ((sa s 267 ((6 * a4) + (s.2.1 266 a4.toInt.toNat)).toInt.toNat (s.2.1 231 a5.toInt.toNat)).2.1 266 a4.toInt.toNat)), .ref 268] _ _
    replace h := h (kc_in (x := a5) rfl hk)
    refine Lb_w (lb_ias rfl rfl (fun hk => ?_))
    replace h := h (kc_in (x := ((6 * a4) + ((sa s 267 ((6 * a4) + (s.2.1 266 a4.toInt.toNat)).toInt.toNat (s.2.1 231 a5.toInt.toNat)).2.1 266 a4.toInt.toNat))) rfl hk)
    replace h := h _ rfl
    refine Lb_w (lb_ld rfl rfl rfl ?_)
    refine Lb_w (lb_get rfl rfl ?_)
    change Lb _ _ _ _ _ _ _ [.ref 266] _ _
    refine Lb_w (lb_ld rfl rfl rfl ?_)
    refine Lb_w (lb_c [.int a4, .ref 266, .int a4, .ref 266] xo_dup2 rfl rfl ?_)
    refine Lb_w (lb_ial rfl rfl (fun hk => ?_))
    change Lb _ _ _ _ _ _ _ [.int ((sa (sa s 267 ((6 * a4) + (s.2.1 266 a4.toInt.toNat)).toInt.toNat (s.2.1 231 a5.toInt.toNat)) 268 ((6 * a4) + ((sa s 267 ((6 * a4) + (s.2.1 266 a4.toInt.toNat)).toInt.toNat (s.2.1 231 a5.toInt.toNat)).2.1 266 a4.toInt.toNat)).toInt.toNat ((sa s 267 ((6 * a4) + (s.2.1 266 a4.toInt.toNat)).toInt.toNat (s.2.1 231 a5.toInt.toNat)).2.1 232 a5.toInt.toNat)).2.1 266 a4.toInt.toNat), .int a4, .ref 266] _ _
    replace h := h (kc_in (x := a4) rfl hk)
    refine Lb_w (lb_c [.int 1, .int ((sa (sa s 267 ((6 * a4) + (s.2.1 266 a4.toInt.toNat)).toInt.toNat (s.2.1 231 a5.toInt.toNat)) 268 ((6 * a4) + ((sa s 267 ((6 * a4) + (s.2.1 266 a4.toInt.toNat)).toInt.toNat (s.2.1 231 a5.toInt.toNat)).2.1 266 a4.toInt.toNat)).toInt.toNat ((sa s 267 ((6 * a4) + (s.2.1 266 a4.toInt.toNat)).toInt.toNat (s.2.1 231 a5.toInt.toNat)).2.1 232 a5.toInt.toNat)).2.1 266 a4.toInt.toNat), .int a4, .ref 266] (xo_push (.int 1)) rfl rfl ?_)
    refine Lb_w (lb_ca [.int (((sa (sa s 267 ((6 * a4) + (s.2.1 266 a4.toInt.toNat)).toInt.toNat (s.2.1 231 a5.toInt.toNat)) 268 ((6 * a4) + ((sa s 267 ((6 * a4) + (s.2.1 266 a4.toInt.toNat)).toInt.toNat (s.2.1 231 a5.toInt.toNat)).2.1 266 a4.toInt.toNat)).toInt.toNat ((sa s 267 ((6 * a4) + (s.2.1 266 a4.toInt.toNat)).toInt.toNat (s.2.1 231 a5.toInt.toNat)).2.1 232 a5.toInt.toNat)).2.1 266 a4.toInt.toNat) + 1), .int a4, .ref 266] xo_iadd rfl rfl (fun _ hk => ?_))
    replace hk := kc_add (x := (sa (sa s 267 ((6 * a4) + (s.2.1 266 a4.toInt.toNat)).toInt.toNat (s.2.1 231 a5.toInt.toNat)) 268 ((6 * a4) + ((sa s 267 ((6 * a4) + (s.2.1 266 a4.toInt.toNat)).toInt.toNat (s.2.1 231 a5.toInt.toNat)).2.1 266 a4.toInt.toNat)).toInt.toNat ((sa s 267 ((6 * a4) + (s.2.1 266 a4.toInt.toNat)).toInt.toNat (s.2.1 231 a5.toInt.toNat)).2.1 232 a5.toInt.toNat)).2.1 266 a4.toInt.toNat) (y := 1) rfl (show (1 : Int32).toInt = 1 by decide) hk
    replace h := h hk _ (i_add (x := (sa (sa s 267 ((6 * a4) + (s.2.1 266 a4.toInt.toNat)).toInt.toNat (s.2.1 231 a5.toInt.toNat)) 268 ((6 * a4) + ((sa s 267 ((6 * a4) + (s.2.1 266 a4.toInt.toNat)).toInt.toNat (s.2.1 231 a5.toInt.toNat)).2.1 266 a4.toInt.toNat)).toInt.toNat ((sa s 267 ((6 * a4) + (s.2.1 266 a4.toInt.toNat)).toInt.toNat (s.2.1 231 a5.toInt.toNat)).2.1 232 a5.toInt.toNat)).2.1 266 a4.toInt.toNat) (y := 1) rfl (show (1 : Int32).toInt = 1 by decide) hk)
    refine Lb_w (lb_ias rfl rfl (fun hk => ?_))
    replace h := h (kc_in (x := a4) rfl hk)
    replace h := h _ rfl
    refine Lb_w (lb_ld rfl rfl rfl ?_)
    refine Lb_w (lb_get rfl rfl ?_)
    change Lb _ _ _ _ _ _ _ [.ref 225] _ _
    refine Lb_w (lb_ld rfl rfl rfl ?_)
    refine Lb_w (lb_ial rfl rfl (fun hk => ?_))
    change Lb _ _ _ _ _ _ _ [.int ((sa (sa (sa s 267 ((6 * a4) + (s.2.1 266 a4.toInt.toNat)).toInt.toNat (s.2.1 231 a5.toInt.toNat)) 268 ((6 * a4) + ((sa s 267 ((6 * a4) + (s.2.1 266 a4.toInt.toNat)).toInt.toNat (s.2.1 231 a5.toInt.toNat)).2.1 266 a4.toInt.toNat)).toInt.toNat ((sa s 267 ((6 * a4) + (s.2.1 266 a4.toInt.toNat)).toInt.toNat (s.2.1 231 a5.toInt.toNat)).2.1 232 a5.toInt.toNat)) 266 a4.toInt.toNat (((sa (sa s 267 ((6 * a4) + (s.2.1 266 a4.toInt.toNat)).toInt.toNat (s.2.1 231 a5.toInt.toNat)) 268 ((6 * a4) + ((sa s 267 ((6 * a4) + (s.2.1 266 a4.toInt.toNat)).toInt.toNat (s.2.1 231 a5.toInt.toNat)).2.1 266 a4.toInt.toNat)).toInt.toNat ((sa s 267 ((6 * a4) + (s.2.1 266 a4.toInt.toNat)).toInt.toNat (s.2.1 231 a5.toInt.toNat)).2.1 232 a5.toInt.toNat)).2.1 266 a4.toInt.toNat) + 1)).2.1 225 a5.toInt.toNat)] _ _
    replace h := h (kc_in (x := a5) rfl hk)
    refine Lb_w (lb_st [.ref 213, .int a1, .int a2, .int a3, .int a4, .int ((sa (sa (sa s 267 ((6 * a4) + (s.2.1 266 a4.toInt.toNat)).toInt.toNat (s.2.1 231 a5.toInt.toNat)) 268 ((6 * a4) + ((sa s 267 ((6 * a4) + (s.2.1 266 a4.toInt.toNat)).toInt.toNat (s.2.1 231 a5.toInt.toNat)).2.1 266 a4.toInt.toNat)).toInt.toNat ((sa s 267 ((6 * a4) + (s.2.1 266 a4.toInt.toNat)).toInt.toNat (s.2.1 231 a5.toInt.toNat)).2.1 232 a5.toInt.toNat)) 266 a4.toInt.toNat (((sa (sa s 267 ((6 * a4) + (s.2.1 266 a4.toInt.toNat)).toInt.toNat (s.2.1 231 a5.toInt.toNat)) 268 ((6 * a4) + ((sa s 267 ((6 * a4) + (s.2.1 266 a4.toInt.toNat)).toInt.toNat (s.2.1 231 a5.toInt.toNat)).2.1 266 a4.toInt.toNat)).toInt.toNat ((sa s 267 ((6 * a4) + (s.2.1 266 a4.toInt.toNat)).toInt.toNat (s.2.1 231 a5.toInt.toNat)).2.1 232 a5.toInt.toNat)).2.1 266 a4.toInt.toNat) + 1)).2.1 225 a5.toInt.toNat), .null, .null, .null, .null] rfl rfl rfl ?_)
    refine Lb_w (lb_go rfl ?_)
    exact r27 a1 a2 a3 a4 ((sa (sa (sa s 267 ((6 * a4) + (s.2.1 266 a4.toInt.toNat)).toInt.toNat (s.2.1 231 a5.toInt.toNat)) 268 ((6 * a4) + ((sa s 267 ((6 * a4) + (s.2.1 266 a4.toInt.toNat)).toInt.toNat (s.2.1 231 a5.toInt.toNat)).2.1 266 a4.toInt.toNat)).toInt.toNat ((sa s 267 ((6 * a4) + (s.2.1 266 a4.toInt.toNat)).toInt.toNat (s.2.1 231 a5.toInt.toNat)).2.1 232 a5.toInt.toNat)) 266 a4.toInt.toNat (((sa (sa s 267 ((6 * a4) + (s.2.1 266 a4.toInt.toNat)).toInt.toNat (s.2.1 231 a5.toInt.toNat)) 268 ((6 * a4) + ((sa s 267 ((6 * a4) + (s.2.1 266 a4.toInt.toNat)).toInt.toNat (s.2.1 231 a5.toInt.toNat)).2.1 266 a4.toInt.toNat)).toInt.toNat ((sa s 267 ((6 * a4) + (s.2.1 266 a4.toInt.toNat)).toInt.toNat (s.2.1 231 a5.toInt.toNat)).2.1 232 a5.toInt.toNat)).2.1 266 a4.toInt.toNat) + 1)).2.1 225 a5.toInt.toNat)  (sa (sa (sa s 267 ((6 * a4) + (s.2.1 266 a4.toInt.toNat)).toInt.toNat (s.2.1 231 a5.toInt.toNat)) 268 ((6 * a4) + ((sa s 267 ((6 * a4) + (s.2.1 266 a4.toInt.toNat)).toInt.toNat (s.2.1 231 a5.toInt.toNat)).2.1 266 a4.toInt.toNat)).toInt.toNat ((sa s 267 ((6 * a4) + (s.2.1 266 a4.toInt.toNat)).toInt.toNat (s.2.1 231 a5.toInt.toNat)).2.1 232 a5.toInt.toNat)) 266 a4.toInt.toNat (((sa (sa s 267 ((6 * a4) + (s.2.1 266 a4.toInt.toNat)).toInt.toNat (s.2.1 231 a5.toInt.toNat)) 268 ((6 * a4) + ((sa s 267 ((6 * a4) + (s.2.1 266 a4.toInt.toNat)).toInt.toNat (s.2.1 231 a5.toInt.toNat)).2.1 266 a4.toInt.toNat)).toInt.toNat ((sa s 267 ((6 * a4) + (s.2.1 266 a4.toInt.toNat)).toInt.toNat (s.2.1 231 a5.toInt.toNat)).2.1 232 a5.toInt.toNat)).2.1 266 a4.toInt.toNat) + 1)) h
def ubl_227_27 (T : Nat → List Value → yS → (Option Value → yS → Prop) → Prop)  (a1 : Int32) (a2 : Int32) (a3 : Int32) (a4 : Int32) (a5 : Int32) (s : yS) (P : Option Value → yS → Prop) : Prop :=
  ∃ (I : Int32 → Int32 → Int32 → Int32 → Int32 → yS → Prop), I a1 a2 a3 a4 a5 s ∧ ∀ (a1 : Int32) (a2 : Int32) (a3 : Int32) (a4 : Int32) (a5 : Int32) (s : yS), I a1 a2 a3 a4 a5 s → ub_227_27 T I a1 a2 a3 a4 a5 s P
theorem lkl_227_27 {d N0 : Nat}  {a1 : Int32} {a2 : Int32} {a3 : Int32} {a4 : Int32} {a5 : Int32} {s : yS} {P : Option Value → yS → Prop}  (h : ubl_227_27 (Par d)  a1 a2 a3 a4 a5 s P) : Lb d N0 6 (none) xE_227 (xE_227.drop 27) [.ref 213, .int a1, .int a2, .int a3, .int a4, .int a5, .null, .null, .null, .null] [] s P := by
  obtain ⟨I, h0, h1⟩ := h
  have key : ∀ (m : Nat), m ≤ N0 → ∀ (a1 : Int32) (a2 : Int32) (a3 : Int32) (a4 : Int32) (a5 : Int32) (s : yS), I a1 a2 a3 a4 a5 s → Lb d m 6 (none) xE_227 (xE_227.drop 27) [.ref 213, .int a1, .int a2, .int a3, .int a4, .int a5, .null, .null, .null, .null] [] s P := by
    intro m
    induction m with
    | zero => exact fun _ a1 a2 a3 a4 a5 s _ => Lb_0
    | succ m ih =>
      intro hm
      replace hm : m ≤ N0 := Nat.le_of_succ_le hm
      replace ih := ih hm
      intro a1 a2 a3 a4 a5 s hI
      exact lk_227_27 ih (h1 a1 a2 a3 a4 a5 s hI)
  exact key N0 (Nat.le_refl _) a1 a2 a3 a4 a5 s h0
def ub_227_0 (T : Nat → List Value → yS → (Option Value → yS → Prop) → Prop)  (a1 : Int32) (a2 : Int32) (a3 : Int32) (s : yS) (P : Option Value → yS → Prop) : Prop :=
  ((-2147483648 ≤ 2 * a1.toInt ∧ 2 * a1.toInt ≤ 2147483647) → ∀ x1 : Int32, x1.toInt = 2 * a1.toInt → ((-2147483648 ≤ x1.toInt + 1 ∧ x1.toInt + 1 ≤ 2147483647) → ∀ x2 : Int32, x2.toInt = x1.toInt + 1 → ((-2147483648 ≤ 204 * (s.1 75).toInt ∧ 204 * (s.1 75).toInt ≤ 2147483647) → ∀ x3 : Int32, x3.toInt = 204 * (s.1 75).toInt → ((-2147483648 ≤ a2.toInt - x3.toInt ∧ a2.toInt - x3.toInt ≤ 2147483647) → ∀ x4 : Int32, x4.toInt = a2.toInt - x3.toInt → ((-2147483648 ≤ 6 * x4.toInt ∧ 6 * x4.toInt ≤ 2147483647) → ∀ x5 : Int32, x5.toInt = 6 * x4.toInt → ((-2147483648 ≤ 2000 + x5.toInt ∧ 2000 + x5.toInt ≤ 2147483647) → ∀ x6 : Int32, x6.toInt = 2000 + x5.toInt → ((0 ≤ x2.toInt ∧ x2.toInt < 600) → ∀ s7, s7 = sa s 265 x2.toInt.toNat x6 → ((0 ≤ x2.toInt ∧ x2.toInt < 600) → ∀ s8, s8 = sa s7 266 x2.toInt.toNat 0 → ubl_227_27 T  a1 a2 a3 x2 a3  s8 P))))))))
set_option maxRecDepth 20000 in
theorem lk_227_0 {d N0 : Nat}  {a1 : Int32} {a2 : Int32} {a3 : Int32} {s : yS} {P : Option Value → yS → Prop}  (h : ub_227_0 (Par d)  a1 a2 a3 s P) : Lb d N0 6 (none) xE_227 (xE_227.drop 0) [.ref 213, .int a1, .int a2, .int a3, .null, .null, .null, .null, .null, .null] [] s P := by
  unfold ub_227_0 at h
  refine Lb_w (lb_c [.int 2] (xo_push (.int 2)) rfl rfl ?_)
  refine Lb_w (lb_ld rfl rfl rfl ?_)
  refine Lb_w (lb_ca [.int (2 * a1)] xo_imul rfl rfl (fun _ hk => ?_))
  replace hk := kc_mul (x := 2) (y := a1) (show (2 : Int32).toInt = 2 by decide) rfl hk
  replace h := h hk _ (i_mul (x := 2) (y := a1) (show (2 : Int32).toInt = 2 by decide) rfl hk)
  refine Lb_w (lb_c [.int 1, .int (2 * a1)] (xo_push (.int 1)) rfl rfl ?_)
  refine Lb_w (lb_ca [.int ((2 * a1) + 1)] xo_iadd rfl rfl (fun _ hk => ?_))
  replace hk := kc_add (x := (2 * a1)) (y := 1) rfl (show (1 : Int32).toInt = 1 by decide) hk
  replace h := h hk _ (i_add (x := (2 * a1)) (y := 1) rfl (show (1 : Int32).toInt = 1 by decide) hk)
  refine Lb_w (lb_st [.ref 213, .int a1, .int a2, .int a3, .int ((2 * a1) + 1), .null, .null, .null, .null, .null] rfl rfl rfl ?_)
  refine Lb_w (lb_ld rfl rfl rfl ?_)
  refine Lb_w (lb_get rfl rfl ?_)
  change Lb _ _ _ _ _ _ _ [.ref 265] _ _
  refine Lb_w (lb_ld rfl rfl rfl ?_)
  refine Lb_w (lb_c [.int 2000, .int ((2 * a1) + 1), .ref 265] (xo_push (.int 2000)) rfl rfl ?_)
  refine Lb_w (lb_c [.int 6, .int 2000, .int ((2 * a1) + 1), .ref 265] (xo_push (.int 6)) rfl rfl ?_)
  refine Lb_w (lb_ld rfl rfl rfl ?_)
  refine Lb_w (lb_c [.int 204, .int a2, .int 6, .int 2000, .int ((2 * a1) + 1), .ref 265] (xo_push (.int 204)) rfl rfl ?_)
  refine Lb_w (lb_ld rfl rfl rfl ?_)
  refine Lb_w (lb_get rfl rfl ?_)
  change Lb _ _ _ _ _ _ _ [.int (s.1 75), .int 204, .int a2, .int 6, .int 2000, .int ((2 * a1) + 1), .ref 265] _ _
  refine Lb_w (lb_ca [.int (204 * (s.1 75)), .int a2, .int 6, .int 2000, .int ((2 * a1) + 1), .ref 265] xo_imul rfl rfl (fun _ hk => ?_))
  replace hk := kc_mul (x := 204) (y := s.1 75) (show (204 : Int32).toInt = 204 by decide) rfl hk
  replace h := h hk _ (i_mul (x := 204) (y := s.1 75) (show (204 : Int32).toInt = 204 by decide) rfl hk)
  refine Lb_w (lb_ca [.int (a2 - (204 * (s.1 75))), .int 6, .int 2000, .int ((2 * a1) + 1), .ref 265] xo_isub rfl rfl (fun _ hk => ?_))
  replace hk := kc_sub (x := a2) (y := (204 * (s.1 75))) rfl rfl hk
  replace h := h hk _ (i_sub (x := a2) (y := (204 * (s.1 75))) rfl rfl hk)
  refine Lb_w (lb_ca [.int (6 * (a2 - (204 * (s.1 75)))), .int 2000, .int ((2 * a1) + 1), .ref 265] xo_imul rfl rfl (fun _ hk => ?_))
  replace hk := kc_mul (x := 6) (y := (a2 - (204 * (s.1 75)))) (show (6 : Int32).toInt = 6 by decide) rfl hk
  replace h := h hk _ (i_mul (x := 6) (y := (a2 - (204 * (s.1 75)))) (show (6 : Int32).toInt = 6 by decide) rfl hk)
  refine Lb_w (lb_ca [.int (2000 + (6 * (a2 - (204 * (s.1 75))))), .int ((2 * a1) + 1), .ref 265] xo_iadd rfl rfl (fun _ hk => ?_))
  replace hk := kc_add (x := 2000) (y := (6 * (a2 - (204 * (s.1 75))))) (show (2000 : Int32).toInt = 2000 by decide) rfl hk
  replace h := h hk _ (i_add (x := 2000) (y := (6 * (a2 - (204 * (s.1 75))))) (show (2000 : Int32).toInt = 2000 by decide) rfl hk)
  refine Lb_w (lb_ias rfl rfl (fun hk => ?_))
  replace h := h (kc_in (x := ((2 * a1) + 1)) rfl hk)
  replace h := h _ rfl
  refine Lb_w (lb_ld rfl rfl rfl ?_)
  refine Lb_w (lb_get rfl rfl ?_)
  change Lb _ _ _ _ _ _ _ [.ref 266] _ _
  refine Lb_w (lb_ld rfl rfl rfl ?_)
  refine Lb_w (lb_c [.int 0, .int ((2 * a1) + 1), .ref 266] (xo_push (.int 0)) rfl rfl ?_)
  refine Lb_w (lb_ias rfl rfl (fun hk => ?_))
  replace h := h (kc_in (x := ((2 * a1) + 1)) rfl hk)
  replace h := h _ rfl
  refine Lb_w (lb_ld rfl rfl rfl ?_)
  refine Lb_w (lb_st [.ref 213, .int a1, .int a2, .int a3, .int ((2 * a1) + 1), .int a3, .null, .null, .null, .null] rfl rfl rfl ?_)
  exact lkl_227_27  h
theorem pb_227 {d : Nat} {a1 : Int32} {a2 : Int32} {a3 : Int32} {s : yS} {P : Option Value → yS → Prop} (h : ub_227_0 (Par d) a1 a2 a3 s P) : Par (d + 1) 227 [.ref 213, .int a1, .int a2, .int a3] s P := par_of (E := xE_227) (ml := 6) (ret := none) rfl (fun _ => lk_227_0 h)
/-! typeAssert -/
def ub_228_101 (T : Nat → List Value → yS → (Option Value → yS → Prop) → Prop)  (a1 : Int32) (a2 : Int32) (a3 : Int32) (a4 : Int32) (s : yS) (P : Option Value → yS → Prop) : Prop :=
  ((0 ≤ a4.toInt ∧ a4.toInt < 12006) → ((0 ≤ a4.toInt ∧ a4.toInt < 12006) → T 216 [.ref 213, .int (s.2.1 231 a4.toInt.toNat), .int (s.2.1 232 a4.toInt.toNat)] s (fun v2 s1 => v2 = none ∧ (P none s1))))
set_option maxRecDepth 20000 in
theorem lk_228_101 {d N0 : Nat}  {a1 : Int32} {a2 : Int32} {a3 : Int32} {a4 : Int32} {s : yS} {P : Option Value → yS → Prop}  (h : ub_228_101 (Par d)  a1 a2 a3 a4 s P) : Lb d N0 6 (none) xE_228 (xE_228.drop 101) [.ref 213, .int a1, .int a2, .int a3, .int a4, .null, .null, .null] [] s P := by
  unfold ub_228_101 at h
  refine Lb_w (lb_ld rfl rfl rfl ?_)
  refine Lb_w (lb_ld rfl rfl rfl ?_)
  refine Lb_w (lb_get rfl rfl ?_)
  change Lb _ _ _ _ _ _ _ [.ref 231, .ref 213] _ _
  refine Lb_w (lb_ld rfl rfl rfl ?_)
  refine Lb_w (lb_ial rfl rfl (fun hk => ?_))
  change Lb _ _ _ _ _ _ _ [.int (s.2.1 231 a4.toInt.toNat), .ref 213] _ _
  replace h := h (kc_in (x := a4) rfl hk)
  refine Lb_w (lb_ld rfl rfl rfl ?_)
  refine Lb_w (lb_get rfl rfl ?_)
  change Lb _ _ _ _ _ _ _ [.ref 232, .int (s.2.1 231 a4.toInt.toNat), .ref 213] _ _
  refine Lb_w (lb_ld rfl rfl rfl ?_)
  refine Lb_w (lb_ial rfl rfl (fun hk => ?_))
  change Lb _ _ _ _ _ _ _ [.int (s.2.1 232 a4.toInt.toNat), .int (s.2.1 231 a4.toInt.toNat), .ref 213] _ _
  replace h := h (kc_in (x := a4) rfl hk)
  refine Lb_w (lb_call [.ref 213, .int (s.2.1 231 a4.toInt.toNat), .int (s.2.1 232 a4.toInt.toNat)] [] rfl rfl rfl (Par.imp h (fun v2 s1 h => ?_)))
  obtain ⟨rfl, h⟩ := h
  change Lb _ _ _ _ _ _ _ [] _ _
  exact Lb_w (lb_ret0 rfl h)
def ub_228_96 (T : Nat → List Value → yS → (Option Value → yS → Prop) → Prop)  (a1 : Int32) (a2 : Int32) (a3 : Int32) (a4 : Int32) (a5 : Int32) (t1 : Int32) (s : yS) (P : Option Value → yS → Prop) : Prop :=
  ((0 ≤ a4.toInt ∧ a4.toInt < 12006) → T 163 [.ref 213, .int t1, .int (s.2.1 222 a4.toInt.toNat)] s (fun v2 s1 => v2 = none ∧ (ub_228_101 T  a1 a2 a3 a4  s1 P)))
set_option maxRecDepth 20000 in
theorem lk_228_96 {d N0 : Nat}  {a1 : Int32} {a2 : Int32} {a3 : Int32} {a4 : Int32} {a5 : Int32} {t1 : Int32} {s : yS} {P : Option Value → yS → Prop}  (h : ub_228_96 (Par d)  a1 a2 a3 a4 a5 t1 s P) : Lb d N0 6 (none) xE_228 (xE_228.drop 96) [.ref 213, .int a1, .int a2, .int a3, .int a4, .int a5, .null, .null] [.int t1, .ref 213] s P := by
  unfold ub_228_96 at h
  refine Lb_w (lb_ld rfl rfl rfl ?_)
  refine Lb_w (lb_get rfl rfl ?_)
  change Lb _ _ _ _ _ _ _ [.ref 222, .int t1, .ref 213] _ _
  refine Lb_w (lb_ld rfl rfl rfl ?_)
  refine Lb_w (lb_ial rfl rfl (fun hk => ?_))
  change Lb _ _ _ _ _ _ _ [.int (s.2.1 222 a4.toInt.toNat), .int t1, .ref 213] _ _
  replace h := h (kc_in (x := a4) rfl hk)
  refine Lb_w (lb_call [.ref 213, .int t1, .int (s.2.1 222 a4.toInt.toNat)] [] rfl rfl rfl (Par.imp h (fun v2 s1 h => ?_)))
  obtain ⟨rfl, h⟩ := h
  change Lb _ _ _ _ _ _ _ [] _ _
  refine lb_fg 5 ?_
  exact lk_228_101  h
def ub_228_74 (T : Nat → List Value → yS → (Option Value → yS → Prop) → Prop)  (a1 : Int32) (a2 : Int32) (a3 : Int32) (a4 : Int32) (s : yS) (P : Option Value → yS → Prop) : Prop :=
  ((0 ≤ a4.toInt ∧ a4.toInt < 12006) → ((0 ≤ a4.toInt ∧ a4.toInt < 12006) → T 195 [.ref 213, .int (s.2.1 231 a4.toInt.toNat), .int (s.2.1 232 a4.toInt.toNat), .int a2, .int a3] s (fun v2 s1 => ∃ x3, v2 = some (.int x3) ∧ ((x3.toInt = 1 → ub_228_101 T  a1 a2 a3 a4  s1 P) ∧ (¬ (x3.toInt = 1) → (¬ (x3.toInt = 0) → ub_228_96 T  a1 a2 a3 a4 x3 9 s1 P) ∧ (x3.toInt = 0 → ub_228_96 T  a1 a2 a3 a4 x3 7 s1 P))))))
set_option maxRecDepth 20000 in
theorem lk_228_74 {d N0 : Nat}  {a1 : Int32} {a2 : Int32} {a3 : Int32} {a4 : Int32} {s : yS} {P : Option Value → yS → Prop}  (h : ub_228_74 (Par d)  a1 a2 a3 a4 s P) : Lb d N0 6 (none) xE_228 (xE_228.drop 74) [.ref 213, .int a1, .int a2, .int a3, .int a4, .null, .null, .null] [] s P := by
  unfold ub_228_74 at h
  refine Lb_w (lb_ld rfl rfl rfl ?_)
  refine Lb_w (lb_ld rfl rfl rfl ?_)
  refine Lb_w (lb_get rfl rfl ?_)
  change Lb _ _ _ _ _ _ _ [.ref 231, .ref 213] _ _
  refine Lb_w (lb_ld rfl rfl rfl ?_)
  refine Lb_w (lb_ial rfl rfl (fun hk => ?_))
  change Lb _ _ _ _ _ _ _ [.int (s.2.1 231 a4.toInt.toNat), .ref 213] _ _
  replace h := h (kc_in (x := a4) rfl hk)
  refine Lb_w (lb_ld rfl rfl rfl ?_)
  refine Lb_w (lb_get rfl rfl ?_)
  change Lb _ _ _ _ _ _ _ [.ref 232, .int (s.2.1 231 a4.toInt.toNat), .ref 213] _ _
  refine Lb_w (lb_ld rfl rfl rfl ?_)
  refine Lb_w (lb_ial rfl rfl (fun hk => ?_))
  change Lb _ _ _ _ _ _ _ [.int (s.2.1 232 a4.toInt.toNat), .int (s.2.1 231 a4.toInt.toNat), .ref 213] _ _
  replace h := h (kc_in (x := a4) rfl hk)
  refine Lb_w (lb_ld rfl rfl rfl ?_)
  refine Lb_w (lb_ld rfl rfl rfl ?_)
  refine Lb_w (lb_call [.ref 213, .int (s.2.1 231 a4.toInt.toNat), .int (s.2.1 232 a4.toInt.toNat), .int a2, .int a3] [] rfl rfl rfl (Par.imp h (fun v2 s1 h => ?_)))
  obtain ⟨x3, rfl, h⟩ := h
  change Lb _ _ _ _ _ _ _ [.int x3] _ _
  refine Lb_w (lb_st [.ref 213, .int a1, .int a2, .int a3, .int a4, .int x3, .null, .null] rfl rfl rfl ?_)
  refine Lb_w (lb_ld rfl rfl rfl ?_)
  refine Lb_w (lb_c [.int 1, .int x3] (xo_push (.int 1)) rfl rfl ?_)
  refine Lb_w (lb_brP rfl rfl ⟨fun hc => ?_, fun hc => ?_⟩)
  · replace h := h.1 ((i_eq (x := x3) (y := 1) rfl (show (1 : Int32).toInt = 1 by decide)).mp hc)
    refine lb_fg 5 ?_
    exact lk_228_101  h
  · replace h := h.2 (fun q => hc ((i_eq (x := x3) (y := 1) rfl (show (1 : Int32).toInt = 1 by decide)).mpr q))
    refine Lb_w (lb_ld rfl rfl rfl ?_)
    refine Lb_w (lb_ld rfl rfl rfl ?_)
    refine Lb_w (lb_brN rfl rfl ⟨fun hc => ?_, fun hc => ?_⟩)
    · replace h := h.1 (fun q => hc ((i_eq (x := x3) (y := 0) rfl (show (0 : Int32).toInt = 0 by decide)).mpr q))
      refine Lb_w (lb_c [.int 9, .ref 213] (xo_push (.int 9)) rfl rfl ?_)
      exact lk_228_96  h
    · replace h := h.2 ((i_eq (x := x3) (y := 0) rfl (show (0 : Int32).toInt = 0 by decide)).mp hc)
      refine Lb_w (lb_c [.int 7, .ref 213] (xo_push (.int 7)) rfl rfl ?_)
      refine Lb_w (lb_go rfl ?_)
      exact lk_228_96  h
def ub_228_43 (T : Nat → List Value → yS → (Option Value → yS → Prop) → Prop)  (a1 : Int32) (a2 : Int32) (a3 : Int32) (a4 : Int32) (s : yS) (P : Option Value → yS → Prop) : Prop :=
  ((s.1 8).toInt ≤ 0 → ((0 ≤ a4.toInt ∧ a4.toInt < 12006) → T 220 [.ref 213, .int (s.2.1 231 a4.toInt.toNat)] s (fun v2 s1 => ∃ x3, v2 = some (.int x3) ∧ ((x3.toInt = 0 → ub_228_101 T  a1 a2 a3 a4  s1 P) ∧ (¬ (x3.toInt = 0) → ((0 ≤ a2.toInt ∧ a2.toInt < 200000) → T 185 [.int (s1.2.1 264 a2.toInt.toNat)] s1 (fun v5 s4 => ∃ x6, v5 = some (.int x6) ∧ ((x6.toInt < 1000 → ub_228_74 T  a1 a2 a3 a4  s4 P) ∧ (¬ (x6.toInt < 1000) → ((0 ≤ a2.toInt ∧ a2.toInt < 200000) → T 185 [.int (s4.2.1 264 a2.toInt.toNat)] s4 (fun v8 s7 => ∃ x9, v8 = some (.int x9) ∧ (T 194 [.ref 213, .int x9] s7 (fun v11 s10 => v11 = none ∧ (ub_228_74 T  a1 (s10.1 71) (s10.1 72) a4  s10 P)))))))))))))) ∧ (¬ ((s.1 8).toInt ≤ 0) → P none s)
set_option maxRecDepth 20000 in
theorem lk_228_43 {d N0 : Nat}  {a1 : Int32} {a2 : Int32} {a3 : Int32} {a4 : Int32} {s : yS} {P : Option Value → yS → Prop}  (h : ub_228_43 (Par d)  a1 a2 a3 a4 s P) : Lb d N0 6 (none) xE_228 (xE_228.drop 43) [.ref 213, .int a1, .int a2, .int a3, .int a4, .null, .null, .null] [] s P := by
  unfold ub_228_43 at h
  refine Lb_w (lb_ld rfl rfl rfl ?_)
  refine Lb_w (lb_get rfl rfl ?_)
  change Lb _ _ _ _ _ _ _ [.int (s.1 8)] _ _
  refine Lb_w (lb_brP rfl rfl ⟨fun hc => ?_, fun hc => ?_⟩)
  · replace h := h.1 ((i_le (x := s.1 8) (y := 0) rfl (show (0 : Int32).toInt = 0 by decide)).mp hc)
    refine Lb_w (lb_ld rfl rfl rfl ?_)
    refine Lb_w (lb_ld rfl rfl rfl ?_)
    refine Lb_w (lb_get rfl rfl ?_)
    change Lb _ _ _ _ _ _ _ [.ref 231, .ref 213] _ _
    refine Lb_w (lb_ld rfl rfl rfl ?_)
    refine Lb_w (lb_ial rfl rfl (fun hk => ?_))
    change Lb _ _ _ _ _ _ _ [.int (s.2.1 231 a4.toInt.toNat), .ref 213] _ _
    replace h := h (kc_in (x := a4) rfl hk)
    refine Lb_w (lb_call [.ref 213, .int (s.2.1 231 a4.toInt.toNat)] [] rfl rfl rfl (Par.imp h (fun v2 s1 h => ?_)))
    obtain ⟨x3, rfl, h⟩ := h
    change Lb _ _ _ _ _ _ _ [.int x3] _ _
    refine Lb_w (lb_brP rfl rfl ⟨fun hc => ?_, fun hc => ?_⟩)
    · replace h := h.1 ((i_eq (x := x3) (y := 0) rfl (show (0 : Int32).toInt = 0 by decide)).mp hc)
      exact lk_228_101  h
    · replace h := h.2 (fun q => hc ((i_eq (x := x3) (y := 0) rfl (show (0 : Int32).toInt = 0 by decide)).mpr q))
      refine Lb_w (lb_ld rfl rfl rfl ?_)
      refine Lb_w (lb_get rfl rfl ?_)
      change Lb _ _ _ _ _ _ _ [.ref 264] _ _
      refine Lb_w (lb_ld rfl rfl rfl ?_)
      refine Lb_w (lb_ial rfl rfl (fun hk => ?_))
      change Lb _ _ _ _ _ _ _ [.int (s1.2.1 264 a2.toInt.toNat)] _ _
      replace h := h (kc_in (x := a2) rfl hk)
      refine Lb_w (lb_call [.int (s1.2.1 264 a2.toInt.toNat)] [] rfl rfl rfl (Par.imp h (fun v5 s4 h => ?_)))
      obtain ⟨x6, rfl, h⟩ := h
      change Lb _ _ _ _ _ _ _ [.int x6] _ _
      refine Lb_w (lb_c [.int 1000, .int x6] (xo_push (.int 1000)) rfl rfl ?_)
      refine Lb_w (lb_brP rfl rfl ⟨fun hc => ?_, fun hc => ?_⟩)
      · replace h := h.1 ((i_lt (x := x6) (y := 1000) rfl (show (1000 : Int32).toInt = 1000 by decide)).mp hc)
        exact lk_228_74  h
      · replace h := h.2 (fun q => hc ((i_lt (x := x6) (y := 1000) rfl (show (1000 : Int32).toInt = 1000 by decide)).mpr q))
        refine Lb_w (lb_ld rfl rfl rfl ?_)
        refine Lb_w (lb_ld rfl rfl rfl ?_)
        refine Lb_w (lb_get rfl rfl ?_)
        change Lb _ _ _ _ _ _ _ [.ref 264, .ref 213] _ _
        refine Lb_w (lb_ld rfl rfl rfl ?_)
        refine Lb_w (lb_ial rfl rfl (fun hk => ?_))
        change Lb _ _ _ _ _ _ _ [.int (s4.2.1 264 a2.toInt.toNat), .ref 213] _ _
        replace h := h (kc_in (x := a2) rfl hk)
        refine Lb_w (lb_call [.int (s4.2.1 264 a2.toInt.toNat)] [.ref 213] rfl rfl rfl (Par.imp h (fun v8 s7 h => ?_)))
        obtain ⟨x9, rfl, h⟩ := h
        change Lb _ _ _ _ _ _ _ [.int x9, .ref 213] _ _
        refine Lb_w (lb_call [.ref 213, .int x9] [] rfl rfl rfl (Par.imp h (fun v11 s10 h => ?_)))
        obtain ⟨rfl, h⟩ := h
        change Lb _ _ _ _ _ _ _ [] _ _
        refine Lb_w (lb_ld rfl rfl rfl ?_)
        refine Lb_w (lb_get rfl rfl ?_)
        change Lb _ _ _ _ _ _ _ [.int (s10.1 71)] _ _
        refine Lb_w (lb_st [.ref 213, .int a1, .int (s10.1 71), .int a3, .int a4, .null, .null, .null] rfl rfl rfl ?_)
        refine Lb_w (lb_ld rfl rfl rfl ?_)
        refine Lb_w (lb_get rfl rfl ?_)
        change Lb _ _ _ _ _ _ _ [.int (s10.1 72)] _ _
        refine Lb_w (lb_st [.ref 213, .int a1, .int (s10.1 71), .int (s10.1 72), .int a4, .null, .null, .null] rfl rfl rfl ?_)
        exact lk_228_74  h
  · replace h := h.2 (fun q => hc ((i_le (x := s.1 8) (y := 0) rfl (show (0 : Int32).toInt = 0 by decide)).mpr q))
    exact Lb_w (lb_ret0 rfl h)
def ub_228_0 (T : Nat → List Value → yS → (Option Value → yS → Prop) → Prop)  (a1 : Int32) (s : yS) (P : Option Value → yS → Prop) : Prop :=
  ((0 ≤ a1.toInt ∧ a1.toInt < 12006) → T 217 [.ref 213, .int (s.2.1 227 a1.toInt.toNat)] s (fun v2 s1 => v2 = none ∧ (((s1.1 8).toInt ≤ 0 → T 220 [.ref 213, .int (s1.1 80)] s1 (fun v4 s3 => ∃ x5, v4 = some (.int x5) ∧ ((x5.toInt = 0 → ((0 ≤ a1.toInt ∧ a1.toInt < 12006) → T 204 [.ref 213, .int (s3.2.1 229 a1.toInt.toNat), .int 0] s3 (fun v7 s6 => v7 = none ∧ ((¬ ((s6.1 8).toInt = 0) → ub_228_43 T  a1 (s1.1 80) (s1.1 81) (s3.2.1 229 a1.toInt.toNat)  s6 P) ∧ ((s6.1 8).toInt = 0 → T 211 [.ref 213, .int (s3.2.1 229 a1.toInt.toNat)] s6 (fun v9 s8 => v9 = none ∧ (ub_228_43 T  a1 (s1.1 80) (s1.1 81) (s3.2.1 229 a1.toInt.toNat)  s8 P))))))) ∧ (¬ (x5.toInt = 0) → ((0 ≤ a1.toInt ∧ a1.toInt < 12006) → T 163 [.ref 213, .int 6, .int (s3.2.1 223 a1.toInt.toNat)] s3 (fun v11 s10 => v11 = none ∧ (P none s10))))))) ∧ (¬ ((s1.1 8).toInt ≤ 0) → P none s1))))
set_option maxRecDepth 20000 in
theorem lk_228_0 {d N0 : Nat}  {a1 : Int32} {s : yS} {P : Option Value → yS → Prop}  (h : ub_228_0 (Par d)  a1 s P) : Lb d N0 6 (none) xE_228 (xE_228.drop 0) [.ref 213, .int a1, .null, .null, .null, .null, .null, .null] [] s P := by
  unfold ub_228_0 at h
  refine Lb_w (lb_ld rfl rfl rfl ?_)
  refine Lb_w (lb_ld rfl rfl rfl ?_)
  refine Lb_w (lb_get rfl rfl ?_)
  change Lb _ _ _ _ _ _ _ [.ref 227, .ref 213] _ _
  refine Lb_w (lb_ld rfl rfl rfl ?_)
  refine Lb_w (lb_ial rfl rfl (fun hk => ?_))
  change Lb _ _ _ _ _ _ _ [.int (s.2.1 227 a1.toInt.toNat), .ref 213] _ _
  replace h := h (kc_in (x := a1) rfl hk)
  refine Lb_w (lb_call [.ref 213, .int (s.2.1 227 a1.toInt.toNat)] [] rfl rfl rfl (Par.imp h (fun v2 s1 h => ?_)))
  obtain ⟨rfl, h⟩ := h
  change Lb _ _ _ _ _ _ _ [] _ _
  refine Lb_w (lb_ld rfl rfl rfl ?_)
  refine Lb_w (lb_get rfl rfl ?_)
  change Lb _ _ _ _ _ _ _ [.int (s1.1 8)] _ _
  refine Lb_w (lb_brP rfl rfl ⟨fun hc => ?_, fun hc => ?_⟩)
  · replace h := h.1 ((i_le (x := s1.1 8) (y := 0) rfl (show (0 : Int32).toInt = 0 by decide)).mp hc)
    refine Lb_w (lb_ld rfl rfl rfl ?_)
    refine Lb_w (lb_get rfl rfl ?_)
    change Lb _ _ _ _ _ _ _ [.int (s1.1 80)] _ _
    refine Lb_w (lb_st [.ref 213, .int a1, .int (s1.1 80), .null, .null, .null, .null, .null] rfl rfl rfl ?_)
    refine Lb_w (lb_ld rfl rfl rfl ?_)
    refine Lb_w (lb_get rfl rfl ?_)
    change Lb _ _ _ _ _ _ _ [.int (s1.1 81)] _ _
    refine Lb_w (lb_st [.ref 213, .int a1, .int (s1.1 80), .int (s1.1 81), .null, .null, .null, .null] rfl rfl rfl ?_)
    refine Lb_w (lb_ld rfl rfl rfl ?_)
    refine Lb_w (lb_ld rfl rfl rfl ?_)
    refine Lb_w (lb_call [.ref 213, .int (s1.1 80)] [] rfl rfl rfl (Par.imp h (fun v4 s3 h => ?_)))
    obtain ⟨x5, rfl, h⟩ := h
    change Lb _ _ _ _ _ _ _ [.int x5] _ _
    refine Lb_w (lb_brP rfl rfl ⟨fun hc => ?_, fun hc => ?_⟩)
    · replace h := h.1 ((i_eq (x := x5) (y := 0) rfl (show (0 : Int32).toInt = 0 by decide)).mp hc)
      refine Lb_w (lb_ld rfl rfl rfl ?_)
      refine Lb_w (lb_get rfl rfl ?_)
      change Lb _ _ _ _ _ _ _ [.ref 229] _ _
      refine Lb_w (lb_ld rfl rfl rfl ?_)
      refine Lb_w (lb_ial rfl rfl (fun hk => ?_))
      change Lb _ _ _ _ _ _ _ [.int (s3.2.1 229 a1.toInt.toNat)] _ _
      replace h := h (kc_in (x := a1) rfl hk)
      refine Lb_w (lb_st [.ref 213, .int a1, .int (s1.1 80), .int (s1.1 81), .int (s3.2.1 229 a1.toInt.toNat), .null, .null, .null] rfl rfl rfl ?_)
      refine Lb_w (lb_ld rfl rfl rfl ?_)
      refine Lb_w (lb_ld rfl rfl rfl ?_)
      refine Lb_w (lb_c [.int 0, .int (s3.2.1 229 a1.toInt.toNat), .ref 213] (xo_push (.int 0)) rfl rfl ?_)
      refine Lb_w (lb_call [.ref 213, .int (s3.2.1 229 a1.toInt.toNat), .int 0] [] rfl rfl rfl (Par.imp h (fun v7 s6 h => ?_)))
      obtain ⟨rfl, h⟩ := h
      change Lb _ _ _ _ _ _ _ [] _ _
      refine Lb_w (lb_ld rfl rfl rfl ?_)
      refine Lb_w (lb_get rfl rfl ?_)
      change Lb _ _ _ _ _ _ _ [.int (s6.1 8)] _ _
      refine Lb_w (lb_brN rfl rfl ⟨fun hc => ?_, fun hc => ?_⟩)
      · replace h := h.1 (fun q => hc ((i_eq (x := s6.1 8) (y := 0) rfl (show (0 : Int32).toInt = 0 by decide)).mpr q))
        exact lk_228_43  h
      · replace h := h.2 ((i_eq (x := s6.1 8) (y := 0) rfl (show (0 : Int32).toInt = 0 by decide)).mp hc)
        refine Lb_w (lb_ld rfl rfl rfl ?_)
        refine Lb_w (lb_ld rfl rfl rfl ?_)
        refine Lb_w (lb_call [.ref 213, .int (s3.2.1 229 a1.toInt.toNat)] [] rfl rfl rfl (Par.imp h (fun v9 s8 h => ?_)))
        obtain ⟨rfl, h⟩ := h
        change Lb _ _ _ _ _ _ _ [] _ _
        exact lk_228_43  h
    · replace h := h.2 (fun q => hc ((i_eq (x := x5) (y := 0) rfl (show (0 : Int32).toInt = 0 by decide)).mpr q))
      refine Lb_w (lb_ld rfl rfl rfl ?_)
      refine Lb_w (lb_c [.int 6, .ref 213] (xo_push (.int 6)) rfl rfl ?_)
      refine Lb_w (lb_ld rfl rfl rfl ?_)
      refine Lb_w (lb_get rfl rfl ?_)
      change Lb _ _ _ _ _ _ _ [.ref 223, .int 6, .ref 213] _ _
      refine Lb_w (lb_ld rfl rfl rfl ?_)
      refine Lb_w (lb_ial rfl rfl (fun hk => ?_))
      change Lb _ _ _ _ _ _ _ [.int (s3.2.1 223 a1.toInt.toNat), .int 6, .ref 213] _ _
      replace h := h (kc_in (x := a1) rfl hk)
      refine Lb_w (lb_call [.ref 213, .int 6, .int (s3.2.1 223 a1.toInt.toNat)] [] rfl rfl rfl (Par.imp h (fun v11 s10 h => ?_)))
      obtain ⟨rfl, h⟩ := h
      change Lb _ _ _ _ _ _ _ [] _ _
      exact Lb_w (lb_ret0 rfl h)
  · replace h := h.2 (fun q => hc ((i_le (x := s1.1 8) (y := 0) rfl (show (0 : Int32).toInt = 0 by decide)).mpr q))
    exact Lb_w (lb_ret0 rfl h)
theorem pb_228 {d : Nat} {a1 : Int32} {s : yS} {P : Option Value → yS → Prop} (h : ub_228_0 (Par d) a1 s P) : Par (d + 1) 228 [.ref 213, .int a1] s P := par_of (E := xE_228) (ml := 6) (ret := none) rfl (fun _ => lk_228_0 h)
/-! typeFunc -/
def ub_229_52 (T : Nat → List Value → yS → (Option Value → yS → Prop) → Prop)  (a1 : Int32) (s : yS) (P : Option Value → yS → Prop) : Prop :=
  P none s
set_option maxRecDepth 20000 in
theorem lk_229_52 {d N0 : Nat}  {a1 : Int32} {s : yS} {P : Option Value → yS → Prop}  (h : ub_229_52 (Par d)  a1 s P) : Lb d N0 3 (none) xE_229 (xE_229.drop 52) [.ref 213, .int a1, .null, .null, .null] [] s P := by
  unfold ub_229_52 at h
  exact Lb_w (lb_ret0 rfl h)
def ub_229_0 (T : Nat → List Value → yS → (Option Value → yS → Prop) → Prop)  (a1 : Int32) (s : yS) (P : Option Value → yS → Prop) : Prop :=
  ((0 ≤ a1.toInt ∧ a1.toInt < 120) → T 206 [.ref 213, .int (-1), .int (s.2.1 257 a1.toInt.toNat), .int a1] s (fun v2 s1 => v2 = none ∧ (∀ s3, s3 = sf s1 64 100000 → ∀ s4, s4 = sf s3 70 0 → ((0 ≤ a1.toInt ∧ a1.toInt < 120) → T 217 [.ref 213, .int (s4.2.1 258 a1.toInt.toNat)] s4 (fun v6 s5 => v6 = none ∧ ((¬ ((s5.1 8).toInt = 0) → ub_229_52 T  a1  s5 P) ∧ ((s5.1 8).toInt = 0 → T 188 [.ref 213] s5 (fun v8 s7 => ∃ x9, v8 = some (.int x9) ∧ (((0 ≤ a1.toInt ∧ a1.toInt < 120) → ((0 ≤ (s7.2.1 257 a1.toInt.toNat).toInt ∧ (s7.2.1 257 a1.toInt.toNat).toInt < 408) → ((0 ≤ a1.toInt ∧ a1.toInt < 120) → T 178 [.ref 213, .int (s7.2.1 258 a1.toInt.toNat)] s7 (fun v11 s10 => ∃ x12, v11 = some (.int x12) ∧ (T 212 [.ref 213, .int (s7.1 80), .int (s7.1 81), .int (s7.2.1 251 (s7.2.1 257 a1.toInt.toNat).toInt.toNat), .int x9, .int x12] s10 (fun v14 s13 => v14 = none ∧ (((-2147483648 ≤ (s13.1 70).toInt - 1 ∧ (s13.1 70).toInt - 1 ≤ 2147483647) → ∀ x15 : Int32, x15.toInt = (s13.1 70).toInt - 1 → ∀ s16, s16 = sf s13 70 x15 → ub_229_52 T  a1  s16 P)))))))))))))))))
set_option maxRecDepth 20000 in
theorem lk_229_0 {d N0 : Nat}  {a1 : Int32} {s : yS} {P : Option Value → yS → Prop}  (h : ub_229_0 (Par d)  a1 s P) : Lb d N0 3 (none) xE_229 (xE_229.drop 0) [.ref 213, .int a1, .null, .null, .null] [] s P := by
  unfold ub_229_0 at h
  refine Lb_w (lb_ld rfl rfl rfl ?_)
  refine Lb_w (lb_c [.int (-1), .ref 213] (xo_push (.int (-1))) rfl rfl ?_)
  refine Lb_w (lb_ld rfl rfl rfl ?_)
  refine Lb_w (lb_get rfl rfl ?_)
  change Lb _ _ _ _ _ _ _ [.ref 257, .int (-1), .ref 213] _ _
  refine Lb_w (lb_ld rfl rfl rfl ?_)
  refine Lb_w (lb_ial rfl rfl (fun hk => ?_))
  change Lb _ _ _ _ _ _ _ [.int (s.2.1 257 a1.toInt.toNat), .int (-1), .ref 213] _ _
  replace h := h (kc_in (x := a1) rfl hk)
  refine Lb_w (lb_ld rfl rfl rfl ?_)
  refine Lb_w (lb_call [.ref 213, .int (-1), .int (s.2.1 257 a1.toInt.toNat), .int a1] [] rfl rfl rfl (Par.imp h (fun v2 s1 h => ?_)))
  obtain ⟨rfl, h⟩ := h
  change Lb _ _ _ _ _ _ _ [] _ _
  refine Lb_w (lb_ld rfl rfl rfl ?_)
  refine Lb_w (lb_c [.int 100000, .ref 213] (xo_push (.int 100000)) rfl rfl ?_)
  refine Lb_w (lb_put rfl rfl (fun hk => ?_))
  replace h := h _ rfl
  refine Lb_w (lb_ld rfl rfl rfl ?_)
  refine Lb_w (lb_c [.int 0, .ref 213] (xo_push (.int 0)) rfl rfl ?_)
  refine Lb_w (lb_put rfl rfl (fun hk => ?_))
  replace h := h _ rfl
  refine Lb_w (lb_ld rfl rfl rfl ?_)
  refine Lb_w (lb_ld rfl rfl rfl ?_)
  refine Lb_w (lb_get rfl rfl ?_)
  change Lb _ _ _ _ _ _ _ [.ref 258, .ref 213] _ _
  refine Lb_w (lb_ld rfl rfl rfl ?_)
  refine Lb_w (lb_ial rfl rfl (fun hk => ?_))
  change Lb _ _ _ _ _ _ _ [.int ((sf (sf s1 64 100000) 70 0).2.1 258 a1.toInt.toNat), .ref 213] _ _
  replace h := h (kc_in (x := a1) rfl hk)
  refine Lb_w (lb_call [.ref 213, .int ((sf (sf s1 64 100000) 70 0).2.1 258 a1.toInt.toNat)] [] rfl rfl rfl (Par.imp h (fun v6 s5 h => ?_)))
  obtain ⟨rfl, h⟩ := h
  change Lb _ _ _ _ _ _ _ [] _ _
  refine Lb_w (lb_ld rfl rfl rfl ?_)
  refine Lb_w (lb_get rfl rfl ?_)
  change Lb _ _ _ _ _ _ _ [.int (s5.1 8)] _ _
  refine Lb_w (lb_brN rfl rfl ⟨fun hc => ?_, fun hc => ?_⟩)
  · replace h := h.1 (fun q => hc ((i_eq (x := s5.1 8) (y := 0) rfl (show (0 : Int32).toInt = 0 by decide)).mpr q))
    exact lk_229_52  h
  · replace h := h.2 ((i_eq (x := s5.1 8) (y := 0) rfl (show (0 : Int32).toInt = 0 by decide)).mp hc)
    refine Lb_w (lb_ld rfl rfl rfl ?_)
    refine Lb_w (lb_call [.ref 213] [] rfl rfl rfl (Par.imp h (fun v8 s7 h => ?_)))
    obtain ⟨x9, rfl, h⟩ := h
    change Lb _ _ _ _ _ _ _ [.int x9] _ _
    refine Lb_w (lb_st [.ref 213, .int a1, .int x9, .null, .null] rfl rfl rfl ?_)
    refine Lb_w (lb_ld rfl rfl rfl ?_)
    refine Lb_w (lb_ld rfl rfl rfl ?_)
    refine Lb_w (lb_get rfl rfl ?_)
    change Lb _ _ _ _ _ _ _ [.int (s7.1 80), .ref 213] _ _
    refine Lb_w (lb_ld rfl rfl rfl ?_)
    refine Lb_w (lb_get rfl rfl ?_)
    change Lb _ _ _ _ _ _ _ [.int (s7.1 81), .int (s7.1 80), .ref 213] _ _
    refine Lb_w (lb_ld rfl rfl rfl ?_)
    refine Lb_w (lb_get rfl rfl ?_)
    change Lb _ _ _ _ _ _ _ [.ref 251, .int (s7.1 81), .int (s7.1 80), .ref 213] _ _
    refine Lb_w (lb_ld rfl rfl rfl ?_)
    refine Lb_w (lb_get rfl rfl ?_)
    change Lb _ _ _ _ _ _ _ [.ref 257, .ref 251, .int (s7.1 81), .int (s7.1 80), .ref 213] _ _
    refine Lb_w (lb_ld rfl rfl rfl ?_)
    refine Lb_w (lb_ial rfl rfl (fun hk => ?_))
    change Lb _ _ _ _ _ _ _ [.int (s7.2.1 257 a1.toInt.toNat), .ref 251, .int (s7.1 81), .int (s7.1 80), .ref 213] _ _
    replace h := h (kc_in (x := a1) rfl hk)
    refine Lb_w (lb_ial rfl rfl (fun hk => ?_))
    change Lb _ _ _ _ _ _ _ [.int (s7.2.1 251 (s7.2.1 257 a1.toInt.toNat).toInt.toNat), .int (s7.1 81), .int (s7.1 80), .ref 213] _ _
    replace h := h (kc_in (x := s7.2.1 257 a1.toInt.toNat) rfl hk)
    refine Lb_w (lb_ld rfl rfl rfl ?_)
    refine Lb_w (lb_ld rfl rfl rfl ?_)
    refine Lb_w (lb_ld rfl rfl rfl ?_)
    refine Lb_w (lb_get rfl rfl ?_)
    change Lb _ _ _ _ _ _ _ [.ref 258, .ref 213, .int x9, .int (s7.2.1 251 (s7.2.1 257 a1.toInt.toNat).toInt.toNat), .int (s7.1 81), .int (s7.1 80), .ref 213] _ _
    refine Lb_w (lb_ld rfl rfl rfl ?_)
    refine Lb_w (lb_ial rfl rfl (fun hk => ?_))
    change Lb _ _ _ _ _ _ _ [.int (s7.2.1 258 a1.toInt.toNat), .ref 213, .int x9, .int (s7.2.1 251 (s7.2.1 257 a1.toInt.toNat).toInt.toNat), .int (s7.1 81), .int (s7.1 80), .ref 213] _ _
    replace h := h (kc_in (x := a1) rfl hk)
    refine Lb_w (lb_call [.ref 213, .int (s7.2.1 258 a1.toInt.toNat)] [.int x9, .int (s7.2.1 251 (s7.2.1 257 a1.toInt.toNat).toInt.toNat), .int (s7.1 81), .int (s7.1 80), .ref 213] rfl rfl rfl (Par.imp h (fun v11 s10 h => ?_)))
    obtain ⟨x12, rfl, h⟩ := h
    change Lb _ _ _ _ _ _ _ [.int x12, .int x9, .int (s7.2.1 251 (s7.2.1 257 a1.toInt.toNat).toInt.toNat), .int (s7.1 81), .int (s7.1 80), .ref 213] _ _
    refine Lb_w (lb_call [.ref 213, .int (s7.1 80), .int (s7.1 81), .int (s7.2.1 251 (s7.2.1 257 a1.toInt.toNat).toInt.toNat), .int x9, .int x12] [] rfl rfl rfl (Par.imp h (fun v14 s13 h => ?_)))
    obtain ⟨rfl, h⟩ := h
    change Lb _ _ _ _ _ _ _ [] _ _
    refine Lb_w (lb_ld rfl rfl rfl ?_)
    refine Lb_w (lb_c [.ref 213, .ref 213] xo_dup rfl rfl ?_)
    refine Lb_w (lb_get rfl rfl ?_)
    change Lb _ _ _ _ _ _ _ [.int (s13.1 70), .ref 213] _ _
    refine Lb_w (lb_c [.int 1, .int (s13.1 70), .ref 213] (xo_push (.int 1)) rfl rfl ?_)
    refine Lb_w (lb_ca [.int ((s13.1 70) - 1), .ref 213] xo_isub rfl rfl (fun _ hk => ?_))
    replace hk := kc_sub (x := s13.1 70) (y := 1) rfl (show (1 : Int32).toInt = 1 by decide) hk
    replace h := h hk _ (i_sub (x := s13.1 70) (y := 1) rfl (show (1 : Int32).toInt = 1 by decide) hk)
    refine Lb_w (lb_put rfl rfl (fun hk => ?_))
    replace h := h _ rfl
    refine lb_fg 2 ?_
    exact lk_229_52  h
theorem pb_229 {d : Nat} {a1 : Int32} {s : yS} {P : Option Value → yS → Prop} (h : ub_229_0 (Par d) a1 s P) : Par (d + 1) 229 [.ref 213, .int a1] s P := par_of (E := xE_229) (ml := 3) (ret := none) rfl (fun _ => lk_229_0 h)
/-! program -/
def ub_230_207 (T : Nat → List Value → yS → (Option Value → yS → Prop) → Prop)  (a1 : Int32) (s : yS) (P : Option Value → yS → Prop) : Prop :=
  ∀ s1, s1 = sf s 75 (s.1 29) → P (some (.int (s1.1 8))) s1
set_option maxRecDepth 20000 in
theorem lk_230_207 {d N0 : Nat}  {a1 : Int32} {s : yS} {P : Option Value → yS → Prop}  (h : ub_230_207 (Par d)  a1 s P) : Lb d N0 3 (some .int) xE_230 (xE_230.drop 207) [.ref 213, .int a1, .null, .null] [] s P := by
  unfold ub_230_207 at h
  refine Lb_w (lb_ld rfl rfl rfl ?_)
  refine Lb_w (lb_ld rfl rfl rfl ?_)
  refine Lb_w (lb_get rfl rfl ?_)
  change Lb _ _ _ _ _ _ _ [.int (s.1 29), .ref 213] _ _
  refine Lb_w (lb_put rfl rfl (fun hk => ?_))
  replace h := h _ rfl
  refine Lb_w (lb_ld rfl rfl rfl ?_)
  refine Lb_w (lb_get rfl rfl ?_)
  change Lb _ _ _ _ _ _ _ [.int ((sf s 75 (s.1 29)).1 8)] _ _
  exact Lb_w (lb_retI rfl h)
def ub_230_172 (T : Nat → List Value → yS → (Option Value → yS → Prop) → Prop) (R172 : Int32 → yS → Prop) (a1 : Int32) (s : yS) (P : Option Value → yS → Prop) : Prop :=
  ((s.1 81).toInt ≤ a1.toInt → ((0 ≤ (s.1 30).toInt ∧ (s.1 30).toInt < 2) → ∀ s1, s1 = sa s 274 (s.1 30).toInt.toNat (s.1 81) → ∀ s2, s2 = sf s1 29 (s1.1 30) → T 232 [.ref 213] s2 (fun v4 s3 => v4 = none ∧ (ub_230_207 T  a1  s3 P)))) ∧ (¬ ((s.1 81).toInt ≤ a1.toInt) → ((-2147483648 ≤ 60 * (s.1 30).toInt ∧ 60 * (s.1 30).toInt ≤ 2147483647) → ∀ x5 : Int32, x5.toInt = 60 * (s.1 30).toInt → ((-2147483648 ≤ x5.toInt + a1.toInt ∧ x5.toInt + a1.toInt ≤ 2147483647) → ∀ x6 : Int32, x6.toInt = x5.toInt + a1.toInt → ((-2147483648 ≤ (s.1 80).toInt + a1.toInt ∧ (s.1 80).toInt + a1.toInt ≤ 2147483647) → ∀ x7 : Int32, x7.toInt = (s.1 80).toInt + a1.toInt → ((0 ≤ x7.toInt ∧ x7.toInt < 200000) → ((0 ≤ x6.toInt ∧ x6.toInt < 120) → ∀ s8, s8 = sa s 273 x6.toInt.toNat (s.2.1 264 x7.toInt.toNat) → ((-2147483648 ≤ a1.toInt + 1 ∧ a1.toInt + 1 ≤ 2147483647) → ∀ x9 : Int32, x9.toInt = a1.toInt + 1 → R172 x9  s8)))))))
set_option maxRecDepth 20000 in
theorem lk_230_172 {d N0 : Nat} {R172 : Int32 → yS → Prop} {a1 : Int32} {s : yS} {P : Option Value → yS → Prop} (r172 : ∀ a1 s, R172 a1 s → Lb d N0 3 (some .int) xE_230 (xE_230.drop 172) [.ref 213, .int a1, .null, .null] [] s P) (h : ub_230_172 (Par d) R172 a1 s P) : Lb d (N0 + 1) 3 (some .int) xE_230 (xE_230.drop 172) [.ref 213, .int a1, .null, .null] [] s P := by
  unfold ub_230_172 at h
  refine lb_ld rfl rfl rfl ?_
  refine Lb_w (lb_ld rfl rfl rfl ?_)
  refine Lb_w (lb_get rfl rfl ?_)
  change Lb _ _ _ _ _ _ _ [.int (s.1 81), .int a1] _ _
  refine Lb_w (lb_brP rfl rfl ⟨fun hc => ?_, fun hc => ?_⟩)
  · replace h := h.1 ((i_le (x := s.1 81) (y := a1) rfl rfl).mp hc)
    refine Lb_w (lb_ld rfl rfl rfl ?_)
    refine Lb_w (lb_get rfl rfl ?_)
    change Lb _ _ _ _ _ _ _ [.ref 274] _ _
    refine Lb_w (lb_ld rfl rfl rfl ?_)
    refine Lb_w (lb_get rfl rfl ?_)
    change Lb _ _ _ _ _ _ _ [.int (s.1 30), .ref 274] _ _
    refine Lb_w (lb_ld rfl rfl rfl ?_)
    refine Lb_w (lb_get rfl rfl ?_)
    change Lb _ _ _ _ _ _ _ [.int (s.1 81), .int (s.1 30), .ref 274] _ _
    refine Lb_w (lb_ias rfl rfl (fun hk => ?_))
    replace h := h (kc_in (x := s.1 30) rfl hk)
    replace h := h _ rfl
    refine Lb_w (lb_ld rfl rfl rfl ?_)
    refine Lb_w (lb_ld rfl rfl rfl ?_)
    refine Lb_w (lb_get rfl rfl ?_)
    change Lb _ _ _ _ _ _ _ [.int ((sa s 274 (s.1 30).toInt.toNat (s.1 81)).1 30), .ref 213] _ _
    refine Lb_w (lb_put rfl rfl (fun hk => ?_))
    replace h := h _ rfl
    refine Lb_w (lb_ld rfl rfl rfl ?_)
    refine Lb_w (lb_call [.ref 213] [] rfl rfl rfl (Par.imp h (fun v4 s3 h => ?_)))
    obtain ⟨rfl, h⟩ := h
    change Lb _ _ _ _ _ _ _ [] _ _
    exact lk_230_207  h
  · replace h := h.2 (fun q => hc ((i_le (x := s.1 81) (y := a1) rfl rfl).mpr q))
    refine Lb_w (lb_ld rfl rfl rfl ?_)
    refine Lb_w (lb_get rfl rfl ?_)
    change Lb _ _ _ _ _ _ _ [.ref 273] _ _
    refine Lb_w (lb_c [.int 60, .ref 273] (xo_push (.int 60)) rfl rfl ?_)
    refine Lb_w (lb_ld rfl rfl rfl ?_)
    refine Lb_w (lb_get rfl rfl ?_)
    change Lb _ _ _ _ _ _ _ [.int (s.1 30), .int 60, .ref 273] _ _
    refine Lb_w (lb_ca [.int (60 * (s.1 30)), .ref 273] xo_imul rfl rfl (fun _ hk => ?_))
    replace hk := kc_mul (x := 60) (y := s.1 30) (show (60 : Int32).toInt = 60 by decide) rfl hk
    replace h := h hk _ (i_mul (x := 60) (y := s.1 30) (show (60 : Int32).toInt = 60 by decide) rfl hk)
    refine Lb_w (lb_ld rfl rfl rfl ?_)
    refine Lb_w (lb_ca [.int ((60 * (s.1 30)) + a1), .ref 273] xo_iadd rfl rfl (fun _ hk => ?_))
    replace hk := kc_add (x := (60 * (s.1 30))) (y := a1) rfl rfl hk
    replace h := h hk _ (i_add (x := (60 * (s.1 30))) (y := a1) rfl rfl hk)
    refine Lb_w (lb_ld rfl rfl rfl ?_)
    refine Lb_w (lb_get rfl rfl ?_)
    change Lb _ _ _ _ _ _ _ [.ref 264, .int ((60 * (s.1 30)) + a1), .ref 273] _ _
    refine Lb_w (lb_ld rfl rfl rfl ?_)
    refine Lb_w (lb_get rfl rfl ?_)
    change Lb _ _ _ _ _ _ _ [.int (s.1 80), .ref 264, .int ((60 * (s.1 30)) + a1), .ref 273] _ _
    refine Lb_w (lb_ld rfl rfl rfl ?_)
    refine Lb_w (lb_ca [.int ((s.1 80) + a1), .ref 264, .int ((60 * (s.1 30)) + a1), .ref 273] xo_iadd rfl rfl (fun _ hk => ?_))
    replace hk := kc_add (x := s.1 80) (y := a1) rfl rfl hk
    replace h := h hk _ (i_add (x := s.1 80) (y := a1) rfl rfl hk)
    refine Lb_w (lb_ial rfl rfl (fun hk => ?_))
    change Lb _ _ _ _ _ _ _ [.int (s.2.1 264 ((s.1 80) + a1).toInt.toNat), .int ((60 * (s.1 30)) + a1), .ref 273] _ _
    replace h := h (kc_in (x := ((s.1 80) + a1)) rfl hk)
    refine Lb_w (lb_ias rfl rfl (fun hk => ?_))
    replace h := h (kc_in (x := ((60 * (s.1 30)) + a1)) rfl hk)
    replace h := h _ rfl
    refine Lb_w (lb_inc [.ref 213, .int (a1 + 1), .null, .null] rfl rfl rfl rfl (fun hk => ?_))
    replace hk := kc_inc (x := a1) (n := 1) rfl hk
    replace h := h hk _ (i_add (x := a1) (y := 1) rfl (show (1 : Int32).toInt = 1 by decide) hk)
    refine Lb_w (lb_go rfl ?_)
    exact r172 (a1 + 1)  (sa s 273 ((60 * (s.1 30)) + a1).toInt.toNat (s.2.1 264 ((s.1 80) + a1).toInt.toNat)) h
def ubl_230_172 (T : Nat → List Value → yS → (Option Value → yS → Prop) → Prop)  (a1 : Int32) (s : yS) (P : Option Value → yS → Prop) : Prop :=
  ∃ (I : Int32 → yS → Prop), I a1 s ∧ ∀ (a1 : Int32) (s : yS), I a1 s → ub_230_172 T I a1 s P
theorem lkl_230_172 {d N0 : Nat}  {a1 : Int32} {s : yS} {P : Option Value → yS → Prop}  (h : ubl_230_172 (Par d)  a1 s P) : Lb d N0 3 (some .int) xE_230 (xE_230.drop 172) [.ref 213, .int a1, .null, .null] [] s P := by
  obtain ⟨I, h0, h1⟩ := h
  have key : ∀ (m : Nat), m ≤ N0 → ∀ (a1 : Int32) (s : yS), I a1 s → Lb d m 3 (some .int) xE_230 (xE_230.drop 172) [.ref 213, .int a1, .null, .null] [] s P := by
    intro m
    induction m with
    | zero => exact fun _ a1 s _ => Lb_0
    | succ m ih =>
      intro hm
      replace hm : m ≤ N0 := Nat.le_of_succ_le hm
      replace ih := ih hm
      intro a1 s hI
      exact lk_230_172 ih (h1 a1 s hI)
  exact key N0 (Nat.le_refl _) a1 s h0
def ub_230_167 (T : Nat → List Value → yS → (Option Value → yS → Prop) → Prop)  (a1 : Int32) (s : yS) (P : Option Value → yS → Prop) : Prop :=
  (¬ ((s.1 8).toInt = 0) → ub_230_207 T  a1  s P) ∧ ((s.1 8).toInt = 0 → ubl_230_172 T  0  s P)
set_option maxRecDepth 20000 in
theorem lk_230_167 {d N0 : Nat}  {a1 : Int32} {s : yS} {P : Option Value → yS → Prop}  (h : ub_230_167 (Par d)  a1 s P) : Lb d N0 3 (some .int) xE_230 (xE_230.drop 167) [.ref 213, .int a1, .null, .null] [] s P := by
  unfold ub_230_167 at h
  refine Lb_w (lb_ld rfl rfl rfl ?_)
  refine Lb_w (lb_get rfl rfl ?_)
  change Lb _ _ _ _ _ _ _ [.int (s.1 8)] _ _
  refine Lb_w (lb_brN rfl rfl ⟨fun hc => ?_, fun hc => ?_⟩)
  · replace h := h.1 (fun q => hc ((i_eq (x := s.1 8) (y := 0) rfl (show (0 : Int32).toInt = 0 by decide)).mpr q))
    exact lk_230_207  h
  · replace h := h.2 ((i_eq (x := s.1 8) (y := 0) rfl (show (0 : Int32).toInt = 0 by decide)).mp hc)
    refine Lb_w (lb_c [.int 0] (xo_push (.int 0)) rfl rfl ?_)
    refine Lb_w (lb_st [.ref 213, .int 0, .null, .null] rfl rfl rfl ?_)
    exact lkl_230_172  h
def ub_230_149 (T : Nat → List Value → yS → (Option Value → yS → Prop) → Prop)  (a1 : Int32) (s : yS) (P : Option Value → yS → Prop) : Prop :=
  (¬ ((s.1 8).toInt = 0) → ub_230_167 T  a1  s P) ∧ ((s.1 8).toInt = 0 → T 206 [.ref 213, .int (-1), .int (-1), .int (-1)] s (fun v2 s1 => v2 = none ∧ (∀ s3, s3 = sf s1 64 100000 → ((0 ≤ (s3.1 30).toInt ∧ (s3.1 30).toInt < 2) → T 217 [.ref 213, .int (s3.2.1 259 (s3.1 30).toInt.toNat)] s3 (fun v5 s4 => v5 = none ∧ (ub_230_167 T  a1  s4 P))))))
set_option maxRecDepth 20000 in
theorem lk_230_149 {d N0 : Nat}  {a1 : Int32} {s : yS} {P : Option Value → yS → Prop}  (h : ub_230_149 (Par d)  a1 s P) : Lb d N0 3 (some .int) xE_230 (xE_230.drop 149) [.ref 213, .int a1, .null, .null] [] s P := by
  unfold ub_230_149 at h
  refine Lb_w (lb_ld rfl rfl rfl ?_)
  refine Lb_w (lb_get rfl rfl ?_)
  change Lb _ _ _ _ _ _ _ [.int (s.1 8)] _ _
  refine Lb_w (lb_brN rfl rfl ⟨fun hc => ?_, fun hc => ?_⟩)
  · replace h := h.1 (fun q => hc ((i_eq (x := s.1 8) (y := 0) rfl (show (0 : Int32).toInt = 0 by decide)).mpr q))
    exact lk_230_167  h
  · replace h := h.2 ((i_eq (x := s.1 8) (y := 0) rfl (show (0 : Int32).toInt = 0 by decide)).mp hc)
    refine Lb_w (lb_ld rfl rfl rfl ?_)
    refine Lb_w (lb_c [.int (-1), .ref 213] (xo_push (.int (-1))) rfl rfl ?_)
    refine Lb_w (lb_c [.int (-1), .int (-1), .ref 213] (xo_push (.int (-1))) rfl rfl ?_)
    refine Lb_w (lb_c [.int (-1), .int (-1), .int (-1), .ref 213] (xo_push (.int (-1))) rfl rfl ?_)
    refine Lb_w (lb_call [.ref 213, .int (-1), .int (-1), .int (-1)] [] rfl rfl rfl (Par.imp h (fun v2 s1 h => ?_)))
    obtain ⟨rfl, h⟩ := h
    change Lb _ _ _ _ _ _ _ [] _ _
    refine Lb_w (lb_ld rfl rfl rfl ?_)
    refine Lb_w (lb_c [.int 100000, .ref 213] (xo_push (.int 100000)) rfl rfl ?_)
    refine Lb_w (lb_put rfl rfl (fun hk => ?_))
    replace h := h _ rfl
    refine Lb_w (lb_ld rfl rfl rfl ?_)
    refine Lb_w (lb_ld rfl rfl rfl ?_)
    refine Lb_w (lb_get rfl rfl ?_)
    change Lb _ _ _ _ _ _ _ [.ref 259, .ref 213] _ _
    refine Lb_w (lb_ld rfl rfl rfl ?_)
    refine Lb_w (lb_get rfl rfl ?_)
    change Lb _ _ _ _ _ _ _ [.int ((sf s1 64 100000).1 30), .ref 259, .ref 213] _ _
    refine Lb_w (lb_ial rfl rfl (fun hk => ?_))
    change Lb _ _ _ _ _ _ _ [.int ((sf s1 64 100000).2.1 259 ((sf s1 64 100000).1 30).toInt.toNat), .ref 213] _ _
    replace h := h (kc_in (x := (sf s1 64 100000).1 30) rfl hk)
    refine Lb_w (lb_call [.ref 213, .int ((sf s1 64 100000).2.1 259 ((sf s1 64 100000).1 30).toInt.toNat)] [] rfl rfl rfl (Par.imp h (fun v5 s4 h => ?_)))
    obtain ⟨rfl, h⟩ := h
    change Lb _ _ _ _ _ _ _ [] _ _
    exact lk_230_167  h
def ub_230_129 (T : Nat → List Value → yS → (Option Value → yS → Prop) → Prop) (R129 : Int32 → yS → Prop) (a1 : Int32) (s : yS) (P : Option Value → yS → Prop) : Prop :=
  ((0 ≤ (s.1 30).toInt ∧ (s.1 30).toInt < 2) → ((s.2.1 252 (s.1 30).toInt.toNat).toInt ≤ a1.toInt → ub_230_149 T  a1  s P) ∧ (¬ ((s.2.1 252 (s.1 30).toInt.toNat).toInt ≤ a1.toInt) → (¬ ((s.1 8).toInt = 0) → ub_230_149 T  a1  s P) ∧ ((s.1 8).toInt = 0 → ((-2147483648 ≤ 60 * (s.1 30).toInt ∧ 60 * (s.1 30).toInt ≤ 2147483647) → ∀ x1 : Int32, x1.toInt = 60 * (s.1 30).toInt → ((-2147483648 ≤ x1.toInt + a1.toInt ∧ x1.toInt + a1.toInt ≤ 2147483647) → ∀ x2 : Int32, x2.toInt = x1.toInt + a1.toInt → T 229 [.ref 213, .int x2] s (fun v4 s3 => v4 = none ∧ (((-2147483648 ≤ a1.toInt + 1 ∧ a1.toInt + 1 ≤ 2147483647) → ∀ x5 : Int32, x5.toInt = a1.toInt + 1 → R129 x5  s3))))))))
set_option maxRecDepth 20000 in
theorem lk_230_129 {d N0 : Nat} {R129 : Int32 → yS → Prop} {a1 : Int32} {s : yS} {P : Option Value → yS → Prop} (r129 : ∀ a1 s, R129 a1 s → Lb d N0 3 (some .int) xE_230 (xE_230.drop 129) [.ref 213, .int a1, .null, .null] [] s P) (h : ub_230_129 (Par d) R129 a1 s P) : Lb d (N0 + 1) 3 (some .int) xE_230 (xE_230.drop 129) [.ref 213, .int a1, .null, .null] [] s P := by
  unfold ub_230_129 at h
  refine lb_ld rfl rfl rfl ?_
  refine Lb_w (lb_ld rfl rfl rfl ?_)
  refine Lb_w (lb_get rfl rfl ?_)
  change Lb _ _ _ _ _ _ _ [.ref 252, .int a1] _ _
  refine Lb_w (lb_ld rfl rfl rfl ?_)
  refine Lb_w (lb_get rfl rfl ?_)
  change Lb _ _ _ _ _ _ _ [.int (s.1 30), .ref 252, .int a1] _ _
  refine Lb_w (lb_ial rfl rfl (fun hk => ?_))
  change Lb _ _ _ _ _ _ _ [.int (s.2.1 252 (s.1 30).toInt.toNat), .int a1] _ _
  replace h := h (kc_in (x := s.1 30) rfl hk)
  refine Lb_w (lb_brP rfl rfl ⟨fun hc => ?_, fun hc => ?_⟩)
  · replace h := h.1 ((i_le (x := s.2.1 252 (s.1 30).toInt.toNat) (y := a1) rfl rfl).mp hc)
    exact lk_230_149  h
  · replace h := h.2 (fun q => hc ((i_le (x := s.2.1 252 (s.1 30).toInt.toNat) (y := a1) rfl rfl).mpr q))
    refine Lb_w (lb_ld rfl rfl rfl ?_)
    refine Lb_w (lb_get rfl rfl ?_)
    change Lb _ _ _ _ _ _ _ [.int (s.1 8)] _ _
    refine Lb_w (lb_brN rfl rfl ⟨fun hc => ?_, fun hc => ?_⟩)
    · replace h := h.1 (fun q => hc ((i_eq (x := s.1 8) (y := 0) rfl (show (0 : Int32).toInt = 0 by decide)).mpr q))
      exact lk_230_149  h
    · replace h := h.2 ((i_eq (x := s.1 8) (y := 0) rfl (show (0 : Int32).toInt = 0 by decide)).mp hc)
      refine Lb_w (lb_ld rfl rfl rfl ?_)
      refine Lb_w (lb_c [.int 60, .ref 213] (xo_push (.int 60)) rfl rfl ?_)
      refine Lb_w (lb_ld rfl rfl rfl ?_)
      refine Lb_w (lb_get rfl rfl ?_)
      change Lb _ _ _ _ _ _ _ [.int (s.1 30), .int 60, .ref 213] _ _
      refine Lb_w (lb_ca [.int (60 * (s.1 30)), .ref 213] xo_imul rfl rfl (fun _ hk => ?_))
      replace hk := kc_mul (x := 60) (y := s.1 30) (show (60 : Int32).toInt = 60 by decide) rfl hk
      replace h := h hk _ (i_mul (x := 60) (y := s.1 30) (show (60 : Int32).toInt = 60 by decide) rfl hk)
      refine Lb_w (lb_ld rfl rfl rfl ?_)
      refine Lb_w (lb_ca [.int ((60 * (s.1 30)) + a1), .ref 213] xo_iadd rfl rfl (fun _ hk => ?_))
      replace hk := kc_add (x := (60 * (s.1 30))) (y := a1) rfl rfl hk
      replace h := h hk _ (i_add (x := (60 * (s.1 30))) (y := a1) rfl rfl hk)
      refine Lb_w (lb_call [.ref 213, .int ((60 * (s.1 30)) + a1)] [] rfl rfl rfl (Par.imp h (fun v4 s3 h => ?_)))
      obtain ⟨rfl, h⟩ := h
      change Lb _ _ _ _ _ _ _ [] _ _
      refine Lb_w (lb_inc [.ref 213, .int (a1 + 1), .null, .null] rfl rfl rfl rfl (fun hk => ?_))
      replace hk := kc_inc (x := a1) (n := 1) rfl hk
      replace h := h hk _ (i_add (x := a1) (y := 1) rfl (show (1 : Int32).toInt = 1 by decide) hk)
      refine Lb_w (lb_go rfl ?_)
      exact r129 (a1 + 1)  s3 h
def ubl_230_129 (T : Nat → List Value → yS → (Option Value → yS → Prop) → Prop)  (a1 : Int32) (s : yS) (P : Option Value → yS → Prop) : Prop :=
  ∃ (I : Int32 → yS → Prop), I a1 s ∧ ∀ (a1 : Int32) (s : yS), I a1 s → ub_230_129 T I a1 s P
theorem lkl_230_129 {d N0 : Nat}  {a1 : Int32} {s : yS} {P : Option Value → yS → Prop}  (h : ubl_230_129 (Par d)  a1 s P) : Lb d N0 3 (some .int) xE_230 (xE_230.drop 129) [.ref 213, .int a1, .null, .null] [] s P := by
  obtain ⟨I, h0, h1⟩ := h
  have key : ∀ (m : Nat), m ≤ N0 → ∀ (a1 : Int32) (s : yS), I a1 s → Lb d m 3 (some .int) xE_230 (xE_230.drop 129) [.ref 213, .int a1, .null, .null] [] s P := by
    intro m
    induction m with
    | zero => exact fun _ a1 s _ => Lb_0
    | succ m ih =>
      intro hm
      replace hm : m ≤ N0 := Nat.le_of_succ_le hm
      replace ih := ih hm
      intro a1 s hI
      exact lk_230_129 ih (h1 a1 s hI)
  exact key N0 (Nat.le_refl _) a1 s h0
def ub_230_127 (T : Nat → List Value → yS → (Option Value → yS → Prop) → Prop)  (a1 : Int32) (s : yS) (P : Option Value → yS → Prop) : Prop :=
  ubl_230_129 T  0  s P
set_option maxRecDepth 20000 in
theorem lk_230_127 {d N0 : Nat}  {a1 : Int32} {s : yS} {P : Option Value → yS → Prop}  (h : ub_230_127 (Par d)  a1 s P) : Lb d N0 3 (some .int) xE_230 (xE_230.drop 127) [.ref 213, .int a1, .null, .null] [] s P := by
  unfold ub_230_127 at h
  refine Lb_w (lb_c [.int 0] (xo_push (.int 0)) rfl rfl ?_)
  refine Lb_w (lb_st [.ref 213, .int 0, .null, .null] rfl rfl rfl ?_)
  exact lkl_230_129  h
def ub_230_120 (T : Nat → List Value → yS → (Option Value → yS → Prop) → Prop) (R91 : Int32 → yS → Prop) (a1 : Int32) (a2 : Int32) (s : yS) (P : Option Value → yS → Prop) : Prop :=
  ((-2147483648 ≤ a1.toInt + 1 ∧ a1.toInt + 1 ≤ 2147483647) → ∀ x1 : Int32, x1.toInt = a1.toInt + 1 → R91 x1  s)
set_option maxRecDepth 20000 in
theorem lk_230_120 {d N0 : Nat} {R91 : Int32 → yS → Prop} {a1 : Int32} {a2 : Int32} {s : yS} {P : Option Value → yS → Prop} (r91 : ∀ a1 s, R91 a1 s → Lb d N0 3 (some .int) xE_230 (xE_230.drop 91) [.ref 213, .int a1, .null, .null] [] s P) (h : ub_230_120 (Par d) R91 a1 a2 s P) : Lb d N0 3 (some .int) xE_230 (xE_230.drop 120) [.ref 213, .int a1, .int a2, .null] [] s P := by
  unfold ub_230_120 at h
  refine Lb_w (lb_inc [.ref 213, .int (a1 + 1), .int a2, .null] rfl rfl rfl rfl (fun hk => ?_))
  replace hk := kc_inc (x := a1) (n := 1) rfl hk
  replace h := h hk _ (i_add (x := a1) (y := 1) rfl (show (1 : Int32).toInt = 1 by decide) hk)
  refine Lb_w (lb_go rfl ?_)
  refine lb_fg 2 ?_
  exact r91 (a1 + 1)  s h
def ub_230_96 (T : Nat → List Value → yS → (Option Value → yS → Prop) → Prop) (R91 : Int32 → yS → Prop) (R96 : Int32 → Int32 → yS → Prop) (a1 : Int32) (a2 : Int32) (s : yS) (P : Option Value → yS → Prop) : Prop :=
  ((0 ≤ (s.1 30).toInt ∧ (s.1 30).toInt < 2) → ((s.2.1 263 (s.1 30).toInt.toNat).toInt ≤ a2.toInt → ub_230_120 T R91 a1 a2  s P) ∧ (¬ ((s.2.1 263 (s.1 30).toInt.toNat).toInt ≤ a2.toInt) → (¬ ((s.1 8).toInt = 0) → ub_230_120 T R91 a1 a2  s P) ∧ ((s.1 8).toInt = 0 → ((-2147483648 ≤ 84 * (s.1 30).toInt ∧ 84 * (s.1 30).toInt ≤ 2147483647) → ∀ x1 : Int32, x1.toInt = 84 * (s.1 30).toInt → ((-2147483648 ≤ x1.toInt + a2.toInt ∧ x1.toInt + a2.toInt ≤ 2147483647) → ∀ x2 : Int32, x2.toInt = x1.toInt + a2.toInt → ((0 ≤ x2.toInt ∧ x2.toInt < 168) → T 231 [.ref 213, .int a1, .int (s.2.1 262 x2.toInt.toNat)] s (fun v4 s3 => v4 = none ∧ (((-2147483648 ≤ a2.toInt + 1 ∧ a2.toInt + 1 ≤ 2147483647) → ∀ x5 : Int32, x5.toInt = a2.toInt + 1 → R96 a1 x5  s3)))))))))
set_option maxRecDepth 20000 in
theorem lk_230_96 {d N0 : Nat} {R91 : Int32 → yS → Prop} {R96 : Int32 → Int32 → yS → Prop} {a1 : Int32} {a2 : Int32} {s : yS} {P : Option Value → yS → Prop} (r91 : ∀ a1 s, R91 a1 s → Lb d N0 3 (some .int) xE_230 (xE_230.drop 91) [.ref 213, .int a1, .null, .null] [] s P) (r96 : ∀ a1 a2 s, R96 a1 a2 s → Lb d N0 3 (some .int) xE_230 (xE_230.drop 96) [.ref 213, .int a1, .int a2, .null] [] s P) (h : ub_230_96 (Par d) R91 R96 a1 a2 s P) : Lb d (N0 + 1) 3 (some .int) xE_230 (xE_230.drop 96) [.ref 213, .int a1, .int a2, .null] [] s P := by
  unfold ub_230_96 at h
  refine lb_ld rfl rfl rfl ?_
  refine Lb_w (lb_ld rfl rfl rfl ?_)
  refine Lb_w (lb_get rfl rfl ?_)
  change Lb _ _ _ _ _ _ _ [.ref 263, .int a2] _ _
  refine Lb_w (lb_ld rfl rfl rfl ?_)
  refine Lb_w (lb_get rfl rfl ?_)
  change Lb _ _ _ _ _ _ _ [.int (s.1 30), .ref 263, .int a2] _ _
  refine Lb_w (lb_ial rfl rfl (fun hk => ?_))
  change Lb _ _ _ _ _ _ _ [.int (s.2.1 263 (s.1 30).toInt.toNat), .int a2] _ _
  replace h := h (kc_in (x := s.1 30) rfl hk)
  refine Lb_w (lb_brP rfl rfl ⟨fun hc => ?_, fun hc => ?_⟩)
  · replace h := h.1 ((i_le (x := s.2.1 263 (s.1 30).toInt.toNat) (y := a2) rfl rfl).mp hc)
    exact lk_230_120 r91 h
  · replace h := h.2 (fun q => hc ((i_le (x := s.2.1 263 (s.1 30).toInt.toNat) (y := a2) rfl rfl).mpr q))
    refine Lb_w (lb_ld rfl rfl rfl ?_)
    refine Lb_w (lb_get rfl rfl ?_)
    change Lb _ _ _ _ _ _ _ [.int (s.1 8)] _ _
    refine Lb_w (lb_brN rfl rfl ⟨fun hc => ?_, fun hc => ?_⟩)
    · replace h := h.1 (fun q => hc ((i_eq (x := s.1 8) (y := 0) rfl (show (0 : Int32).toInt = 0 by decide)).mpr q))
      exact lk_230_120 r91 h
    · replace h := h.2 ((i_eq (x := s.1 8) (y := 0) rfl (show (0 : Int32).toInt = 0 by decide)).mp hc)
      refine Lb_w (lb_ld rfl rfl rfl ?_)
      refine Lb_w (lb_ld rfl rfl rfl ?_)
      refine Lb_w (lb_ld rfl rfl rfl ?_)
      refine Lb_w (lb_get rfl rfl ?_)
      change Lb _ _ _ _ _ _ _ [.ref 262, .int a1, .ref 213] _ _
      refine Lb_w (lb_c [.int 84, .ref 262, .int a1, .ref 213] (xo_push (.int 84)) rfl rfl ?_)
      refine Lb_w (lb_ld rfl rfl rfl ?_)
      refine Lb_w (lb_get rfl rfl ?_)
      change Lb _ _ _ _ _ _ _ [.int (s.1 30), .int 84, .ref 262, .int a1, .ref 213] _ _
      refine Lb_w (lb_ca [.int (84 * (s.1 30)), .ref 262, .int a1, .ref 213] xo_imul rfl rfl (fun _ hk => ?_))
      replace hk := kc_mul (x := 84) (y := s.1 30) (show (84 : Int32).toInt = 84 by decide) rfl hk
      replace h := h hk _ (i_mul (x := 84) (y := s.1 30) (show (84 : Int32).toInt = 84 by decide) rfl hk)
      refine Lb_w (lb_ld rfl rfl rfl ?_)
      refine Lb_w (lb_ca [.int ((84 * (s.1 30)) + a2), .ref 262, .int a1, .ref 213] xo_iadd rfl rfl (fun _ hk => ?_))
      replace hk := kc_add (x := (84 * (s.1 30))) (y := a2) rfl rfl hk
      replace h := h hk _ (i_add (x := (84 * (s.1 30))) (y := a2) rfl rfl hk)
      refine Lb_w (lb_ial rfl rfl (fun hk => ?_))
      change Lb _ _ _ _ _ _ _ [.int (s.2.1 262 ((84 * (s.1 30)) + a2).toInt.toNat), .int a1, .ref 213] _ _
      replace h := h (kc_in (x := ((84 * (s.1 30)) + a2)) rfl hk)
      refine Lb_w (lb_call [.ref 213, .int a1, .int (s.2.1 262 ((84 * (s.1 30)) + a2).toInt.toNat)] [] rfl rfl rfl (Par.imp h (fun v4 s3 h => ?_)))
      obtain ⟨rfl, h⟩ := h
      change Lb _ _ _ _ _ _ _ [] _ _
      refine Lb_w (lb_inc [.ref 213, .int a1, .int (a2 + 1), .null] rfl rfl rfl rfl (fun hk => ?_))
      replace hk := kc_inc (x := a2) (n := 1) rfl hk
      replace h := h hk _ (i_add (x := a2) (y := 1) rfl (show (1 : Int32).toInt = 1 by decide) hk)
      refine Lb_w (lb_go rfl ?_)
      exact r96 a1 (a2 + 1)  s3 h
def ubl_230_96 (T : Nat → List Value → yS → (Option Value → yS → Prop) → Prop) (R91 : Int32 → yS → Prop) (a1 : Int32) (a2 : Int32) (s : yS) (P : Option Value → yS → Prop) : Prop :=
  ∃ (I : Int32 → Int32 → yS → Prop), I a1 a2 s ∧ ∀ (a1 : Int32) (a2 : Int32) (s : yS), I a1 a2 s → ub_230_96 T R91 I a1 a2 s P
theorem lkl_230_96 {d N0 : Nat} {R91 : Int32 → yS → Prop} {a1 : Int32} {a2 : Int32} {s : yS} {P : Option Value → yS → Prop} (r91 : ∀ a1 s, R91 a1 s → Lb d N0 3 (some .int) xE_230 (xE_230.drop 91) [.ref 213, .int a1, .null, .null] [] s P) (h : ubl_230_96 (Par d) R91 a1 a2 s P) : Lb d N0 3 (some .int) xE_230 (xE_230.drop 96) [.ref 213, .int a1, .int a2, .null] [] s P := by
  obtain ⟨I, h0, h1⟩ := h
  have key : ∀ (m : Nat), m ≤ N0 → ∀ (a1 : Int32) (a2 : Int32) (s : yS), I a1 a2 s → Lb d m 3 (some .int) xE_230 (xE_230.drop 96) [.ref 213, .int a1, .int a2, .null] [] s P := by
    intro m
    induction m with
    | zero => exact fun _ a1 a2 s _ => Lb_0
    | succ m ih =>
      intro hm
      replace hm : m ≤ N0 := Nat.le_of_succ_le hm
      replace ih := ih hm
      intro a1 a2 s hI
      exact lk_230_96 (fun a1 s q => Lb_le hm (r91 a1 s q)) ih (h1 a1 a2 s hI)
  exact key N0 (Nat.le_refl _) a1 a2 s h0
def ub_230_91 (T : Nat → List Value → yS → (Option Value → yS → Prop) → Prop) (R91 : Int32 → yS → Prop) (a1 : Int32) (s : yS) (P : Option Value → yS → Prop) : Prop :=
  (3 ≤ a1.toInt → (¬ ((s.1 8).toInt = 0) → ub_230_127 T  a1  s P) ∧ ((s.1 8).toInt = 0 → T 215 [.ref 213] s (fun v2 s1 => v2 = none ∧ (ub_230_127 T  a1  s1 P)))) ∧ (¬ (3 ≤ a1.toInt) → ubl_230_96 T R91 a1 0  s P)
set_option maxRecDepth 20000 in
theorem lk_230_91 {d N0 : Nat} {R91 : Int32 → yS → Prop} {a1 : Int32} {s : yS} {P : Option Value → yS → Prop} (r91 : ∀ a1 s, R91 a1 s → Lb d N0 3 (some .int) xE_230 (xE_230.drop 91) [.ref 213, .int a1, .null, .null] [] s P) (h : ub_230_91 (Par d) R91 a1 s P) : Lb d (N0 + 1) 3 (some .int) xE_230 (xE_230.drop 91) [.ref 213, .int a1, .null, .null] [] s P := by
  unfold ub_230_91 at h
  refine lb_ld rfl rfl rfl ?_
  refine Lb_w (lb_c [.int 3, .int a1] (xo_push (.int 3)) rfl rfl ?_)
  refine Lb_w (lb_brP rfl rfl ⟨fun hc => ?_, fun hc => ?_⟩)
  · replace h := h.1 ((i_le (x := 3) (y := a1) (show (3 : Int32).toInt = 3 by decide) rfl).mp hc)
    refine Lb_w (lb_ld rfl rfl rfl ?_)
    refine Lb_w (lb_get rfl rfl ?_)
    change Lb _ _ _ _ _ _ _ [.int (s.1 8)] _ _
    refine Lb_w (lb_brN rfl rfl ⟨fun hc => ?_, fun hc => ?_⟩)
    · replace h := h.1 (fun q => hc ((i_eq (x := s.1 8) (y := 0) rfl (show (0 : Int32).toInt = 0 by decide)).mpr q))
      exact lk_230_127  h
    · replace h := h.2 ((i_eq (x := s.1 8) (y := 0) rfl (show (0 : Int32).toInt = 0 by decide)).mp hc)
      refine Lb_w (lb_ld rfl rfl rfl ?_)
      refine Lb_w (lb_call [.ref 213] [] rfl rfl rfl (Par.imp h (fun v2 s1 h => ?_)))
      obtain ⟨rfl, h⟩ := h
      change Lb _ _ _ _ _ _ _ [] _ _
      exact lk_230_127  h
  · replace h := h.2 (fun q => hc ((i_le (x := 3) (y := a1) (show (3 : Int32).toInt = 3 by decide) rfl).mpr q))
    refine Lb_w (lb_c [.int 0] (xo_push (.int 0)) rfl rfl ?_)
    refine Lb_w (lb_st [.ref 213, .int a1, .int 0, .null] rfl rfl rfl ?_)
    exact lkl_230_96 r91 h
def ubl_230_91 (T : Nat → List Value → yS → (Option Value → yS → Prop) → Prop)  (a1 : Int32) (s : yS) (P : Option Value → yS → Prop) : Prop :=
  ∃ (I : Int32 → yS → Prop), I a1 s ∧ ∀ (a1 : Int32) (s : yS), I a1 s → ub_230_91 T I a1 s P
theorem lkl_230_91 {d N0 : Nat}  {a1 : Int32} {s : yS} {P : Option Value → yS → Prop}  (h : ubl_230_91 (Par d)  a1 s P) : Lb d N0 3 (some .int) xE_230 (xE_230.drop 91) [.ref 213, .int a1, .null, .null] [] s P := by
  obtain ⟨I, h0, h1⟩ := h
  have key : ∀ (m : Nat), m ≤ N0 → ∀ (a1 : Int32) (s : yS), I a1 s → Lb d m 3 (some .int) xE_230 (xE_230.drop 91) [.ref 213, .int a1, .null, .null] [] s P := by
    intro m
    induction m with
    | zero => exact fun _ a1 s _ => Lb_0
    | succ m ih =>
      intro hm
      replace hm : m ≤ N0 := Nat.le_of_succ_le hm
      replace ih := ih hm
      intro a1 s hI
      exact lk_230_91 ih (h1 a1 s hI)
  exact key N0 (Nat.le_refl _) a1 s h0
def ub_230_69 (T : Nat → List Value → yS → (Option Value → yS → Prop) → Prop) (R69 : Int32 → yS → Prop) (a1 : Int32) (s : yS) (P : Option Value → yS → Prop) : Prop :=
  (6 ≤ a1.toInt → ∀ s1, s1 = sf s 64 100000 → ∀ s2, s2 = sf s1 70 0 → ubl_230_91 T  0  s2 P) ∧ (¬ (6 ≤ a1.toInt) → ((-2147483648 ≤ 5000 + a1.toInt ∧ 5000 + a1.toInt ≤ 2147483647) → ∀ x3 : Int32, x3.toInt = 5000 + a1.toInt → ((-2147483648 ≤ 8 * x3.toInt ∧ 8 * x3.toInt ≤ 2147483647) → ∀ x4 : Int32, x4.toInt = 8 * x3.toInt → ((0 ≤ a1.toInt ∧ a1.toInt < 200000) → ∀ s5, s5 = sa s 264 a1.toInt.toNat x4 → ((-2147483648 ≤ a1.toInt + 1 ∧ a1.toInt + 1 ≤ 2147483647) → ∀ x6 : Int32, x6.toInt = a1.toInt + 1 → R69 x6  s5)))))
set_option maxRecDepth 20000 in
theorem lk_230_69 {d N0 : Nat} {R69 : Int32 → yS → Prop} {a1 : Int32} {s : yS} {P : Option Value → yS → Prop} (r69 : ∀ a1 s, R69 a1 s → Lb d N0 3 (some .int) xE_230 (xE_230.drop 69) [.ref 213, .int a1, .null, .null] [] s P) (h : ub_230_69 (Par d) R69 a1 s P) : Lb d (N0 + 1) 3 (some .int) xE_230 (xE_230.drop 69) [.ref 213, .int a1, .null, .null] [] s P := by
  unfold ub_230_69 at h
  refine lb_ld rfl rfl rfl ?_
  refine Lb_w (lb_c [.int 6, .int a1] (xo_push (.int 6)) rfl rfl ?_)
  refine Lb_w (lb_brP rfl rfl ⟨fun hc => ?_, fun hc => ?_⟩)
  · replace h := h.1 ((i_le (x := 6) (y := a1) (show (6 : Int32).toInt = 6 by decide) rfl).mp hc)
    refine Lb_w (lb_ld rfl rfl rfl ?_)
    refine Lb_w (lb_c [.int 100000, .ref 213] (xo_push (.int 100000)) rfl rfl ?_)
    refine Lb_w (lb_put rfl rfl (fun hk => ?_))
    replace h := h _ rfl
    refine Lb_w (lb_ld rfl rfl rfl ?_)
    refine Lb_w (lb_c [.int 0, .ref 213] (xo_push (.int 0)) rfl rfl ?_)
    refine Lb_w (lb_put rfl rfl (fun hk => ?_))
    replace h := h _ rfl
    refine Lb_w (lb_c [.int 0] (xo_push (.int 0)) rfl rfl ?_)
    refine Lb_w (lb_st [.ref 213, .int 0, .null, .null] rfl rfl rfl ?_)
    exact lkl_230_91  h
  · replace h := h.2 (fun q => hc ((i_le (x := 6) (y := a1) (show (6 : Int32).toInt = 6 by decide) rfl).mpr q))
    refine Lb_w (lb_ld rfl rfl rfl ?_)
    refine Lb_w (lb_get rfl rfl ?_)
    change Lb _ _ _ _ _ _ _ [.ref 264] _ _
    refine Lb_w (lb_ld rfl rfl rfl ?_)
    refine Lb_w (lb_c [.int 8, .int a1, .ref 264] (xo_push (.int 8)) rfl rfl ?_)
    refine Lb_w (lb_c [.int 5000, .int 8, .int a1, .ref 264] (xo_push (.int 5000)) rfl rfl ?_)
    refine Lb_w (lb_ld rfl rfl rfl ?_)
    refine Lb_w (lb_ca [.int (5000 + a1), .int 8, .int a1, .ref 264] xo_iadd rfl rfl (fun _ hk => ?_))
    replace hk := kc_add (x := 5000) (y := a1) (show (5000 : Int32).toInt = 5000 by decide) rfl hk
    replace h := h hk _ (i_add (x := 5000) (y := a1) (show (5000 : Int32).toInt = 5000 by decide) rfl hk)
    refine Lb_w (lb_ca [.int (8 * (5000 + a1)), .int a1, .ref 264] xo_imul rfl rfl (fun _ hk => ?_))
    replace hk := kc_mul (x := 8) (y := (5000 + a1)) (show (8 : Int32).toInt = 8 by decide) rfl hk
    replace h := h hk _ (i_mul (x := 8) (y := (5000 + a1)) (show (8 : Int32).toInt = 8 by decide) rfl hk)
    refine Lb_w (lb_ias rfl rfl (fun hk => ?_))
    replace h := h (kc_in (x := a1) rfl hk)
    replace h := h _ rfl
    refine Lb_w (lb_inc [.ref 213, .int (a1 + 1), .null, .null] rfl rfl rfl rfl (fun hk => ?_))
    replace hk := kc_inc (x := a1) (n := 1) rfl hk
    replace h := h hk _ (i_add (x := a1) (y := 1) rfl (show (1 : Int32).toInt = 1 by decide) hk)
    refine Lb_w (lb_go rfl ?_)
    exact r69 (a1 + 1)  (sa s 264 a1.toInt.toNat (8 * (5000 + a1))) h
def ubl_230_69 (T : Nat → List Value → yS → (Option Value → yS → Prop) → Prop)  (a1 : Int32) (s : yS) (P : Option Value → yS → Prop) : Prop :=
  ∃ (I : Int32 → yS → Prop), I a1 s ∧ ∀ (a1 : Int32) (s : yS), I a1 s → ub_230_69 T I a1 s P
theorem lkl_230_69 {d N0 : Nat}  {a1 : Int32} {s : yS} {P : Option Value → yS → Prop}  (h : ubl_230_69 (Par d)  a1 s P) : Lb d N0 3 (some .int) xE_230 (xE_230.drop 69) [.ref 213, .int a1, .null, .null] [] s P := by
  obtain ⟨I, h0, h1⟩ := h
  have key : ∀ (m : Nat), m ≤ N0 → ∀ (a1 : Int32) (s : yS), I a1 s → Lb d m 3 (some .int) xE_230 (xE_230.drop 69) [.ref 213, .int a1, .null, .null] [] s P := by
    intro m
    induction m with
    | zero => exact fun _ a1 s _ => Lb_0
    | succ m ih =>
      intro hm
      replace hm : m ≤ N0 := Nat.le_of_succ_le hm
      replace ih := ih hm
      intro a1 s hI
      exact lk_230_69 ih (h1 a1 s hI)
  exact key N0 (Nat.le_refl _) a1 s h0
def ub_230_0 (T : Nat → List Value → yS → (Option Value → yS → Prop) → Prop)   (s : yS) (P : Option Value → yS → Prop) : Prop :=
  ∀ s1, s1 = sf s 0 0 → ((-2147483648 ≤ 1 - (s1.1 29).toInt ∧ 1 - (s1.1 29).toInt ≤ 2147483647) → ∀ x2 : Int32, x2.toInt = 1 - (s1.1 29).toInt → ∀ s3, s3 = sf s1 30 x2 → ∀ s4, s4 = sf s3 9 (s3.1 30) → T 161 [.ref 213] s4 (fun v6 s5 => v6 = none ∧ (T 162 [.ref 213] s5 (fun v8 s7 => v8 = none ∧ (((-2147483648 ≤ 4002 * (s7.1 30).toInt ∧ 4002 * (s7.1 30).toInt ≤ 2147483647) → ∀ x9 : Int32, x9.toInt = 4002 * (s7.1 30).toInt → ∀ s10, s10 = sf s7 26 x9 → ((0 ≤ (s10.1 30).toInt ∧ (s10.1 30).toInt < 2) → ∀ s11, s11 = sa s10 233 (s10.1 30).toInt.toNat 0 → ((0 ≤ (s11.1 30).toInt ∧ (s11.1 30).toInt < 2) → ∀ s12, s12 = sa s11 252 (s11.1 30).toInt.toNat 0 → ((-2147483648 ≤ 204 * (s12.1 30).toInt ∧ 204 * (s12.1 30).toInt ≤ 2147483647) → ∀ x13 : Int32, x13.toInt = 204 * (s12.1 30).toInt → ∀ s14, s14 = sf s12 42 x13 → ((0 ≤ (s14.1 30).toInt ∧ (s14.1 30).toInt < 2) → ∀ s15, s15 = sa s14 263 (s14.1 30).toInt.toNat 0 → T 179 [.ref 213] s15 (fun v17 s16 => v17 = none ∧ (∀ s18, s18 = sf s16 75 (s16.1 30) → ((-2147483648 ≤ 4100 * (s18.1 30).toInt ∧ 4100 * (s18.1 30).toInt ≤ 2147483647) → ∀ x19 : Int32, x19.toInt = 4100 * (s18.1 30).toInt → ((-2147483648 ≤ 10 + x19.toInt ∧ 10 + x19.toInt ≤ 2147483647) → ∀ x20 : Int32, x20.toInt = 10 + x19.toInt → ∀ s21, s21 = sf s18 65 x20 → ((-2147483648 ≤ 60000 * (s21.1 30).toInt ∧ 60000 * (s21.1 30).toInt ≤ 2147483647) → ∀ x22 : Int32, x22.toInt = 60000 * (s21.1 30).toInt → ∀ s23, s23 = sf s21 85 x22 → ubl_230_69 T  0  s23 P)))))))))))))))
set_option maxRecDepth 20000 in
theorem lk_230_0 {d N0 : Nat}   {s : yS} {P : Option Value → yS → Prop}  (h : ub_230_0 (Par d)   s P) : Lb d N0 3 (some .int) xE_230 (xE_230.drop 0) [.ref 213, .null, .null, .null] [] s P := by
  unfold ub_230_0 at h
  refine Lb_w (lb_ld rfl rfl rfl ?_)
  refine Lb_w (lb_c [.int 0, .ref 213] (xo_push (.int 0)) rfl rfl ?_)
  refine Lb_w (lb_put rfl rfl (fun hk => ?_))
  replace h := h _ rfl
  refine Lb_w (lb_ld rfl rfl rfl ?_)
  refine Lb_w (lb_c [.int 1, .ref 213] (xo_push (.int 1)) rfl rfl ?_)
  refine Lb_w (lb_ld rfl rfl rfl ?_)
  refine Lb_w (lb_get rfl rfl ?_)
  change Lb _ _ _ _ _ _ _ [.int ((sf s 0 0).1 29), .int 1, .ref 213] _ _
  refine Lb_w (lb_ca [.int (1 - ((sf s 0 0).1 29)), .ref 213] xo_isub rfl rfl (fun _ hk => ?_))
  replace hk := kc_sub (x := 1) (y := (sf s 0 0).1 29) (show (1 : Int32).toInt = 1 by decide) rfl hk
  replace h := h hk _ (i_sub (x := 1) (y := (sf s 0 0).1 29) (show (1 : Int32).toInt = 1 by decide) rfl hk)
  refine Lb_w (lb_put rfl rfl (fun hk => ?_))
  replace h := h _ rfl
  refine Lb_w (lb_ld rfl rfl rfl ?_)
  refine Lb_w (lb_ld rfl rfl rfl ?_)
  refine Lb_w (lb_get rfl rfl ?_)
  change Lb _ _ _ _ _ _ _ [.int ((sf (sf s 0 0) 30 (1 - ((sf s 0 0).1 29))).1 30), .ref 213] _ _
  refine Lb_w (lb_put rfl rfl (fun hk => ?_))
  replace h := h _ rfl
  refine Lb_w (lb_ld rfl rfl rfl ?_)
  refine Lb_w (lb_call [.ref 213] [] rfl rfl rfl (Par.imp h (fun v6 s5 h => ?_)))
  obtain ⟨rfl, h⟩ := h
  change Lb _ _ _ _ _ _ _ [] _ _
  refine Lb_w (lb_ld rfl rfl rfl ?_)
  refine Lb_w (lb_call [.ref 213] [] rfl rfl rfl (Par.imp h (fun v8 s7 h => ?_)))
  obtain ⟨rfl, h⟩ := h
  change Lb _ _ _ _ _ _ _ [] _ _
  refine Lb_w (lb_ld rfl rfl rfl ?_)
  refine Lb_w (lb_c [.int 4002, .ref 213] (xo_push (.int 4002)) rfl rfl ?_)
  refine Lb_w (lb_ld rfl rfl rfl ?_)
  refine Lb_w (lb_get rfl rfl ?_)
  change Lb _ _ _ _ _ _ _ [.int (s7.1 30), .int 4002, .ref 213] _ _
  refine Lb_w (lb_ca [.int (4002 * (s7.1 30)), .ref 213] xo_imul rfl rfl (fun _ hk => ?_))
  replace hk := kc_mul (x := 4002) (y := s7.1 30) (show (4002 : Int32).toInt = 4002 by decide) rfl hk
  replace h := h hk _ (i_mul (x := 4002) (y := s7.1 30) (show (4002 : Int32).toInt = 4002 by decide) rfl hk)
  refine Lb_w (lb_put rfl rfl (fun hk => ?_))
  replace h := h _ rfl
  refine Lb_w (lb_ld rfl rfl rfl ?_)
  refine Lb_w (lb_get rfl rfl ?_)
  change Lb _ _ _ _ _ _ _ [.ref 233] _ _
  refine Lb_w (lb_ld rfl rfl rfl ?_)
  refine Lb_w (lb_get rfl rfl ?_)
  change Lb _ _ _ _ _ _ _ [.int ((sf s7 26 (4002 * (s7.1 30))).1 30), .ref 233] _ _
  refine Lb_w (lb_c [.int 0, .int ((sf s7 26 (4002 * (s7.1 30))).1 30), .ref 233] (xo_push (.int 0)) rfl rfl ?_)
  refine Lb_w (lb_ias rfl rfl (fun hk => ?_))
  replace h := h (kc_in (x := (sf s7 26 (4002 * (s7.1 30))).1 30) rfl hk)
  replace h := h _ rfl
  refine Lb_w (lb_ld rfl rfl rfl ?_)
  refine Lb_w (lb_get rfl rfl ?_)
  change Lb _ _ _ _ _ _ _ [.ref 252] _ _
  refine Lb_w (lb_ld rfl rfl rfl ?_)
  refine Lb_w (lb_get rfl rfl ?_)
  change Lb _ _ _ _ _ _ _ [.int ((sa (sf s7 26 (4002 * (s7.1 30))) 233 ((sf s7 26 (4002 * (s7.1 30))).1 30).toInt.toNat 0).1 30), .ref 252] _ _
  refine Lb_w (lb_c [.int 0, .int ((sa (sf s7 26 (4002 * (s7.1 30))) 233 ((sf s7 26 (4002 * (s7.1 30))).1 30).toInt.toNat 0).1 30), .ref 252] (xo_push (.int 0)) rfl rfl ?_)
  refine Lb_w (lb_ias rfl rfl (fun hk => ?_))
  replace h := h (kc_in (x := (sa (sf s7 26 (4002 * (s7.1 30))) 233 ((sf s7 26 (4002 * (s7.1 30))).1 30).toInt.toNat 0).1 30) rfl hk)
  replace h := h _ rfl
  refine Lb_w (lb_ld rfl rfl rfl ?_)
  refine Lb_w (lb_c [.int 204, .ref 213] (xo_push (.int 204)) rfl rfl ?_)
  refine Lb_w (lb_ld rfl rfl rfl ?_)
  refine Lb_w (lb_get rfl rfl ?_)
  change Lb _ _ _ _ _ _ _ [.int ((sa (sa (sf s7 26 (4002 * (s7.1 30))) 233 ((sf s7 26 (4002 * (s7.1 30))).1 30).toInt.toNat 0) 252 ((sa (sf s7 26 (4002 * (s7.1 30))) 233 ((sf s7 26 (4002 * (s7.1 30))).1 30).toInt.toNat 0).1 30).toInt.toNat 0).1 30), .int 204, .ref 213] _ _
  refine Lb_w (lb_ca [.int (204 * ((sa (sa (sf s7 26 (4002 * (s7.1 30))) 233 ((sf s7 26 (4002 * (s7.1 30))).1 30).toInt.toNat 0) 252 ((sa (sf s7 26 (4002 * (s7.1 30))) 233 ((sf s7 26 (4002 * (s7.1 30))).1 30).toInt.toNat 0).1 30).toInt.toNat 0).1 30)), .ref 213] xo_imul rfl rfl (fun _ hk => ?_))
  replace hk := kc_mul (x := 204) (y := (sa (sa (sf s7 26 (4002 * (s7.1 30))) 233 ((sf s7 26 (4002 * (s7.1 30))).1 30).toInt.toNat 0) 252 ((sa (sf s7 26 (4002 * (s7.1 30))) 233 ((sf s7 26 (4002 * (s7.1 30))).1 30).toInt.toNat 0).1 30).toInt.toNat 0).1 30) (show (204 : Int32).toInt = 204 by decide) rfl hk
  replace h := h hk _ (i_mul (x := 204) (y := (sa (sa (sf s7 26 (4002 * (s7.1 30))) 233 ((sf s7 26 (4002 * (s7.1 30))).1 30).toInt.toNat 0) 252 ((sa (sf s7 26 (4002 * (s7.1 30))) 233 ((sf s7 26 (4002 * (s7.1 30))).1 30).toInt.toNat 0).1 30).toInt.toNat 0).1 30) (show (204 : Int32).toInt = 204 by decide) rfl hk)
  refine Lb_w (lb_put rfl rfl (fun hk => ?_))
  replace h := h _ rfl
  refine Lb_w (lb_ld rfl rfl rfl ?_)
  refine Lb_w (lb_get rfl rfl ?_)
  change Lb _ _ _ _ _ _ _ [.ref 263] _ _
  refine Lb_w (lb_ld rfl rfl rfl ?_)
  refine Lb_w (lb_get rfl rfl ?_)
  change Lb _ _ _ _ _ _ _ [.int ((sf (sa (sa (sf s7 26 (4002 * (s7.1 30))) 233 ((sf s7 26 (4002 * (s7.1 30))).1 30).toInt.toNat 0) 252 ((sa (sf s7 26 (4002 * (s7.1 30))) 233 ((sf s7 26 (4002 * (s7.1 30))).1 30).toInt.toNat 0).1 30).toInt.toNat 0) 42 (204 * ((sa (sa (sf s7 26 (4002 * (s7.1 30))) 233 ((sf s7 26 (4002 * (s7.1 30))).1 30).toInt.toNat 0) 252 ((sa (sf s7 26 (4002 * (s7.1 30))) 233 ((sf s7 26 (4002 * (s7.1 30))).1 30).toInt.toNat 0).1 30).toInt.toNat 0).1 30))).1 30), .ref 263] _ _
  refine Lb_w (lb_c [.int 0, .int ((sf (sa (sa (sf s7 26 (4002 * (s7.1 30))) 233 ((sf s7 26 (4002 * (s7.1 30))).1 30).toInt.toNat 0) 252 ((sa (sf s7 26 (4002 * (s7.1 30))) 233 ((sf s7 26 (4002 * (s7.1 30))).1 30).toInt.toNat 0).1 30).toInt.toNat 0) 42 (204 * ((sa (sa (sf s7 26 (4002 * (s7.1 30))) 233 ((sf s7 26 (4002 * (s7.1 30))).1 30).toInt.toNat 0) 252 ((sa (sf s7 26 (4002 * (s7.1 30))) 233 ((sf s7 26 (4002 * (s7.1 30))).1 30).toInt.toNat 0).1 30).toInt.toNat 0).1 30))).1 30), .ref 263] (xo_push (.int 0)) rfl rfl ?_)
  refine Lb_w (lb_ias rfl rfl (fun hk => ?_))
  replace h := h (kc_in (x := (sf (sa (sa (sf s7 26 (4002 * (s7.1 30))) 233 ((sf s7 26 (4002 * (s7.1 30))).1 30).toInt.toNat 0) 252 ((sa (sf s7 26 (4002 * (s7.1 30))) 233 ((sf s7 26 (4002 * (s7.1 30))).1 30).toInt.toNat 0).1 30).toInt.toNat 0) 42 (204 * ((sa (sa (sf s7 26 (4002 * (s7.1 30))) 233 ((sf s7 26 (4002 * (s7.1 30))).1 30).toInt.toNat 0) 252 ((sa (sf s7 26 (4002 * (s7.1 30))) 233 ((sf s7 26 (4002 * (s7.1 30))).1 30).toInt.toNat 0).1 30).toInt.toNat 0).1 30))).1 30) rfl hk)
  replace h := h _ rfl
  refine Lb_w (lb_ld rfl rfl rfl ?_)
  refine Lb_w (lb_call [.ref 213] [] rfl rfl rfl (Par.imp h (fun v17 s16 h => ?_)))
  obtain ⟨rfl, h⟩ := h
  change Lb _ _ _ _ _ _ _ [] _ _
  refine Lb_w (lb_ld rfl rfl rfl ?_)
  refine Lb_w (lb_ld rfl rfl rfl ?_)
  refine Lb_w (lb_get rfl rfl ?_)
  change Lb _ _ _ _ _ _ _ [.int (s16.1 30), .ref 213] _ _
  refine Lb_w (lb_put rfl rfl (fun hk => ?_))
  replace h := h _ rfl
  refine Lb_w (lb_ld rfl rfl rfl ?_)
  refine Lb_w (lb_c [.int 10, .ref 213] (xo_push (.int 10)) rfl rfl ?_)
  refine Lb_w (lb_c [.int 4100, .int 10, .ref 213] (xo_push (.int 4100)) rfl rfl ?_)
  refine Lb_w (lb_ld rfl rfl rfl ?_)
  refine Lb_w (lb_get rfl rfl ?_)
  change Lb _ _ _ _ _ _ _ [.int ((sf s16 75 (s16.1 30)).1 30), .int 4100, .int 10, .ref 213] _ _
  refine Lb_w (lb_ca [.int (4100 * ((sf s16 75 (s16.1 30)).1 30)), .int 10, .ref 213] xo_imul rfl rfl (fun _ hk => ?_))
  replace hk := kc_mul (x := 4100) (y := (sf s16 75 (s16.1 30)).1 30) (show (4100 : Int32).toInt = 4100 by decide) rfl hk
  replace h := h hk _ (i_mul (x := 4100) (y := (sf s16 75 (s16.1 30)).1 30) (show (4100 : Int32).toInt = 4100 by decide) rfl hk)
  refine Lb_w (lb_ca [.int (10 + (4100 * ((sf s16 75 (s16.1 30)).1 30))), .ref 213] xo_iadd rfl rfl (fun _ hk => ?_))
  replace hk := kc_add (x := 10) (y := (4100 * ((sf s16 75 (s16.1 30)).1 30))) (show (10 : Int32).toInt = 10 by decide) rfl hk
  replace h := h hk _ (i_add (x := 10) (y := (4100 * ((sf s16 75 (s16.1 30)).1 30))) (show (10 : Int32).toInt = 10 by decide) rfl hk)
  refine Lb_w (lb_put rfl rfl (fun hk => ?_))
  replace h := h _ rfl
  refine Lb_w (lb_ld rfl rfl rfl ?_)
  refine Lb_w (lb_c [.int 60000, .ref 213] (xo_push (.int 60000)) rfl rfl ?_)
  refine Lb_w (lb_ld rfl rfl rfl ?_)
  refine Lb_w (lb_get rfl rfl ?_)
  change Lb _ _ _ _ _ _ _ [.int ((sf (sf s16 75 (s16.1 30)) 65 (10 + (4100 * ((sf s16 75 (s16.1 30)).1 30)))).1 30), .int 60000, .ref 213] _ _
  refine Lb_w (lb_ca [.int (60000 * ((sf (sf s16 75 (s16.1 30)) 65 (10 + (4100 * ((sf s16 75 (s16.1 30)).1 30)))).1 30)), .ref 213] xo_imul rfl rfl (fun _ hk => ?_))
  replace hk := kc_mul (x := 60000) (y := (sf (sf s16 75 (s16.1 30)) 65 (10 + (4100 * ((sf s16 75 (s16.1 30)).1 30)))).1 30) (show (60000 : Int32).toInt = 60000 by decide) rfl hk
  replace h := h hk _ (i_mul (x := 60000) (y := (sf (sf s16 75 (s16.1 30)) 65 (10 + (4100 * ((sf s16 75 (s16.1 30)).1 30)))).1 30) (show (60000 : Int32).toInt = 60000 by decide) rfl hk)
  refine Lb_w (lb_put rfl rfl (fun hk => ?_))
  replace h := h _ rfl
  refine Lb_w (lb_c [.int 0] (xo_push (.int 0)) rfl rfl ?_)
  refine Lb_w (lb_st [.ref 213, .int 0, .null, .null] rfl rfl rfl ?_)
  exact lkl_230_69  h
theorem pb_230 {d : Nat}  {s : yS} {P : Option Value → yS → Prop} (h : ub_230_0 (Par d)  s P) : Par (d + 1) 230 [.ref 213] s P := par_of (E := xE_230) (ml := 3) (ret := some .int) rfl (fun _ => lk_230_0 h)
/-! goThrough -/
def ub_231_56 (T : Nat → List Value → yS → (Option Value → yS → Prop) → Prop)  (a1 : Int32) (a2 : Int32) (a3 : Int32) (a4 : Int32) (s : yS) (P : Option Value → yS → Prop) : Prop :=
  P none s
set_option maxRecDepth 20000 in
theorem lk_231_56 {d N0 : Nat}  {a1 : Int32} {a2 : Int32} {a3 : Int32} {a4 : Int32} {s : yS} {P : Option Value → yS → Prop}  (h : ub_231_56 (Par d)  a1 a2 a3 a4 s P) : Lb d N0 5 (none) xE_231 (xE_231.drop 56) [.ref 213, .int a1, .int a2, .int a3, .int a4, .null, .null, .null] [] s P := by
  unfold ub_231_56 at h
  exact Lb_w (lb_ret0 rfl h)
def ub_231_0 (T : Nat → List Value → yS → (Option Value → yS → Prop) → Prop)  (a1 : Int32) (a2 : Int32) (s : yS) (P : Option Value → yS → Prop) : Prop :=
  ((-2147483648 ≤ 24 * (s.1 30).toInt ∧ 24 * (s.1 30).toInt ≤ 2147483647) → ∀ x1 : Int32, x1.toInt = 24 * (s.1 30).toInt → ((-2147483648 ≤ x1.toInt + a2.toInt ∧ x1.toInt + a2.toInt ≤ 2147483647) → ∀ x2 : Int32, x2.toInt = x1.toInt + a2.toInt → ((-2147483648 ≤ 60 * (s.1 30).toInt ∧ 60 * (s.1 30).toInt ≤ 2147483647) → ∀ x3 : Int32, x3.toInt = 60 * (s.1 30).toInt → ((-2147483648 ≤ x3.toInt + a2.toInt ∧ x3.toInt + a2.toInt ≤ 2147483647) → ∀ x4 : Int32, x4.toInt = x3.toInt + a2.toInt → ((-2147483648 ≤ x4.toInt - 100 ∧ x4.toInt - 100 ≤ 2147483647) → ∀ x5 : Int32, x5.toInt = x4.toInt - 100 → (¬ (a1.toInt = 0) → (¬ (a1.toInt = 1) → (100 ≤ a2.toInt → ((0 ≤ x5.toInt ∧ x5.toInt < 120) → T 213 [.ref 213, .int (s.2.1 257 x5.toInt.toNat)] s (fun v7 s6 => v7 = none ∧ (ub_231_56 T  a1 a2 x2 x5  s6 P)))) ∧ (¬ (100 ≤ a2.toInt) → T 214 [.ref 213, .int x2] s (fun v9 s8 => v9 = none ∧ (ub_231_56 T  a1 a2 x2 x5  s8 P)))) ∧ (a1.toInt = 1 → (100 ≤ a2.toInt → T 210 [.ref 213, .int x5] s (fun v11 s10 => v11 = none ∧ (ub_231_56 T  a1 a2 x2 x5  s10 P))) ∧ (¬ (100 ≤ a2.toInt) → T 209 [.ref 213, .int x2] s (fun v13 s12 => v13 = none ∧ (ub_231_56 T  a1 a2 x2 x5  s12 P))))) ∧ (a1.toInt = 0 → (100 ≤ a2.toInt → T 202 [.ref 213, .int x5] s (fun v15 s14 => v15 = none ∧ (ub_231_56 T  a1 a2 x2 x5  s14 P))) ∧ (¬ (100 ≤ a2.toInt) → T 201 [.ref 213, .int x2] s (fun v17 s16 => v17 = none ∧ (ub_231_56 T  a1 a2 x2 x5  s16 P)))))))))
set_option maxRecDepth 20000 in
theorem lk_231_0 {d N0 : Nat}  {a1 : Int32} {a2 : Int32} {s : yS} {P : Option Value → yS → Prop}  (h : ub_231_0 (Par d)  a1 a2 s P) : Lb d N0 5 (none) xE_231 (xE_231.drop 0) [.ref 213, .int a1, .int a2, .null, .null, .null, .null, .null] [] s P := by
  unfold ub_231_0 at h
  refine Lb_w (lb_c [.int 24] (xo_push (.int 24)) rfl rfl ?_)
  refine Lb_w (lb_ld rfl rfl rfl ?_)
  refine Lb_w (lb_get rfl rfl ?_)
  change Lb _ _ _ _ _ _ _ [.int (s.1 30), .int 24] _ _
  refine Lb_w (lb_ca [.int (24 * (s.1 30))] xo_imul rfl rfl (fun _ hk => ?_))
  replace hk := kc_mul (x := 24) (y := s.1 30) (show (24 : Int32).toInt = 24 by decide) rfl hk
  replace h := h hk _ (i_mul (x := 24) (y := s.1 30) (show (24 : Int32).toInt = 24 by decide) rfl hk)
  refine Lb_w (lb_ld rfl rfl rfl ?_)
  refine Lb_w (lb_ca [.int ((24 * (s.1 30)) + a2)] xo_iadd rfl rfl (fun _ hk => ?_))
  replace hk := kc_add (x := (24 * (s.1 30))) (y := a2) rfl rfl hk
  replace h := h hk _ (i_add (x := (24 * (s.1 30))) (y := a2) rfl rfl hk)
  refine Lb_w (lb_st [.ref 213, .int a1, .int a2, .int ((24 * (s.1 30)) + a2), .null, .null, .null, .null] rfl rfl rfl ?_)
  refine Lb_w (lb_c [.int 60] (xo_push (.int 60)) rfl rfl ?_)
  refine Lb_w (lb_ld rfl rfl rfl ?_)
  refine Lb_w (lb_get rfl rfl ?_)
  change Lb _ _ _ _ _ _ _ [.int (s.1 30), .int 60] _ _
  refine Lb_w (lb_ca [.int (60 * (s.1 30))] xo_imul rfl rfl (fun _ hk => ?_))
  replace hk := kc_mul (x := 60) (y := s.1 30) (show (60 : Int32).toInt = 60 by decide) rfl hk
  replace h := h hk _ (i_mul (x := 60) (y := s.1 30) (show (60 : Int32).toInt = 60 by decide) rfl hk)
  refine Lb_w (lb_ld rfl rfl rfl ?_)
  refine Lb_w (lb_ca [.int ((60 * (s.1 30)) + a2)] xo_iadd rfl rfl (fun _ hk => ?_))
  replace hk := kc_add (x := (60 * (s.1 30))) (y := a2) rfl rfl hk
  replace h := h hk _ (i_add (x := (60 * (s.1 30))) (y := a2) rfl rfl hk)
  refine Lb_w (lb_c [.int 100, .int ((60 * (s.1 30)) + a2)] (xo_push (.int 100)) rfl rfl ?_)
  refine Lb_w (lb_ca [.int (((60 * (s.1 30)) + a2) - 100)] xo_isub rfl rfl (fun _ hk => ?_))
  replace hk := kc_sub (x := ((60 * (s.1 30)) + a2)) (y := 100) rfl (show (100 : Int32).toInt = 100 by decide) hk
  replace h := h hk _ (i_sub (x := ((60 * (s.1 30)) + a2)) (y := 100) rfl (show (100 : Int32).toInt = 100 by decide) hk)
  refine Lb_w (lb_st [.ref 213, .int a1, .int a2, .int ((24 * (s.1 30)) + a2), .int (((60 * (s.1 30)) + a2) - 100), .null, .null, .null] rfl rfl rfl ?_)
  refine Lb_w (lb_ld rfl rfl rfl ?_)
  refine Lb_w (lb_brN rfl rfl ⟨fun hc => ?_, fun hc => ?_⟩)
  · replace h := h.1 (fun q => hc ((i_eq (x := a1) (y := 0) rfl (show (0 : Int32).toInt = 0 by decide)).mpr q))
    refine Lb_w (lb_ld rfl rfl rfl ?_)
    refine Lb_w (lb_c [.int 1, .int a1] (xo_push (.int 1)) rfl rfl ?_)
    refine Lb_w (lb_brN rfl rfl ⟨fun hc => ?_, fun hc => ?_⟩)
    · replace h := h.1 (fun q => hc ((i_eq (x := a1) (y := 1) rfl (show (1 : Int32).toInt = 1 by decide)).mpr q))
      refine Lb_w (lb_ld rfl rfl rfl ?_)
      refine Lb_w (lb_c [.int 100, .int a2] (xo_push (.int 100)) rfl rfl ?_)
      refine Lb_w (lb_brP rfl rfl ⟨fun hc => ?_, fun hc => ?_⟩)
      · replace h := h.1 ((i_le (x := 100) (y := a2) (show (100 : Int32).toInt = 100 by decide) rfl).mp hc)
        refine Lb_w (lb_ld rfl rfl rfl ?_)
        refine Lb_w (lb_ld rfl rfl rfl ?_)
        refine Lb_w (lb_get rfl rfl ?_)
        change Lb _ _ _ _ _ _ _ [.ref 257, .ref 213] _ _
        refine Lb_w (lb_ld rfl rfl rfl ?_)
        refine Lb_w (lb_ial rfl rfl (fun hk => ?_))
        change Lb _ _ _ _ _ _ _ [.int (s.2.1 257 (((60 * (s.1 30)) + a2) - 100).toInt.toNat), .ref 213] _ _
        replace h := h (kc_in (x := (((60 * (s.1 30)) + a2) - 100)) rfl hk)
        refine Lb_w (lb_call [.ref 213, .int (s.2.1 257 (((60 * (s.1 30)) + a2) - 100).toInt.toNat)] [] rfl rfl rfl (Par.imp h (fun v7 s6 h => ?_)))
        obtain ⟨rfl, h⟩ := h
        change Lb _ _ _ _ _ _ _ [] _ _
        exact lk_231_56  h
      · replace h := h.2 (fun q => hc ((i_le (x := 100) (y := a2) (show (100 : Int32).toInt = 100 by decide) rfl).mpr q))
        refine Lb_w (lb_ld rfl rfl rfl ?_)
        refine Lb_w (lb_ld rfl rfl rfl ?_)
        refine Lb_w (lb_call [.ref 213, .int ((24 * (s.1 30)) + a2)] [] rfl rfl rfl (Par.imp h (fun v9 s8 h => ?_)))
        obtain ⟨rfl, h⟩ := h
        change Lb _ _ _ _ _ _ _ [] _ _
        refine Lb_w (lb_go rfl ?_)
        exact lk_231_56  h
    · replace h := h.2 ((i_eq (x := a1) (y := 1) rfl (show (1 : Int32).toInt = 1 by decide)).mp hc)
      refine Lb_w (lb_ld rfl rfl rfl ?_)
      refine Lb_w (lb_c [.int 100, .int a2] (xo_push (.int 100)) rfl rfl ?_)
      refine Lb_w (lb_brP rfl rfl ⟨fun hc => ?_, fun hc => ?_⟩)
      · replace h := h.1 ((i_le (x := 100) (y := a2) (show (100 : Int32).toInt = 100 by decide) rfl).mp hc)
        refine Lb_w (lb_ld rfl rfl rfl ?_)
        refine Lb_w (lb_ld rfl rfl rfl ?_)
        refine Lb_w (lb_call [.ref 213, .int (((60 * (s.1 30)) + a2) - 100)] [] rfl rfl rfl (Par.imp h (fun v11 s10 h => ?_)))
        obtain ⟨rfl, h⟩ := h
        change Lb _ _ _ _ _ _ _ [] _ _
        refine Lb_w (lb_go rfl ?_)
        exact lk_231_56  h
      · replace h := h.2 (fun q => hc ((i_le (x := 100) (y := a2) (show (100 : Int32).toInt = 100 by decide) rfl).mpr q))
        refine Lb_w (lb_ld rfl rfl rfl ?_)
        refine Lb_w (lb_ld rfl rfl rfl ?_)
        refine Lb_w (lb_call [.ref 213, .int ((24 * (s.1 30)) + a2)] [] rfl rfl rfl (Par.imp h (fun v13 s12 h => ?_)))
        obtain ⟨rfl, h⟩ := h
        change Lb _ _ _ _ _ _ _ [] _ _
        refine Lb_w (lb_go rfl ?_)
        exact lk_231_56  h
  · replace h := h.2 ((i_eq (x := a1) (y := 0) rfl (show (0 : Int32).toInt = 0 by decide)).mp hc)
    refine Lb_w (lb_ld rfl rfl rfl ?_)
    refine Lb_w (lb_c [.int 100, .int a2] (xo_push (.int 100)) rfl rfl ?_)
    refine Lb_w (lb_brP rfl rfl ⟨fun hc => ?_, fun hc => ?_⟩)
    · replace h := h.1 ((i_le (x := 100) (y := a2) (show (100 : Int32).toInt = 100 by decide) rfl).mp hc)
      refine Lb_w (lb_ld rfl rfl rfl ?_)
      refine Lb_w (lb_ld rfl rfl rfl ?_)
      refine Lb_w (lb_call [.ref 213, .int (((60 * (s.1 30)) + a2) - 100)] [] rfl rfl rfl (Par.imp h (fun v15 s14 h => ?_)))
      obtain ⟨rfl, h⟩ := h
      change Lb _ _ _ _ _ _ _ [] _ _
      refine Lb_w (lb_go rfl ?_)
      exact lk_231_56  h
    · replace h := h.2 (fun q => hc ((i_le (x := 100) (y := a2) (show (100 : Int32).toInt = 100 by decide) rfl).mpr q))
      refine Lb_w (lb_ld rfl rfl rfl ?_)
      refine Lb_w (lb_ld rfl rfl rfl ?_)
      refine Lb_w (lb_call [.ref 213, .int ((24 * (s.1 30)) + a2)] [] rfl rfl rfl (Par.imp h (fun v17 s16 h => ?_)))
      obtain ⟨rfl, h⟩ := h
      change Lb _ _ _ _ _ _ _ [] _ _
      refine Lb_w (lb_go rfl ?_)
      exact lk_231_56  h
theorem pb_231 {d : Nat} {a1 : Int32} {a2 : Int32} {s : yS} {P : Option Value → yS → Prop} (h : ub_231_0 (Par d) a1 a2 s P) : Par (d + 1) 231 [.ref 213, .int a1, .int a2] s P := par_of (E := xE_231) (ml := 5) (ret := none) rfl (fun _ => lk_231_0 h)
/-! forget -/
def ub_232_0 (T : Nat → List Value → yS → (Option Value → yS → Prop) → Prop)   (s : yS) (P : Option Value → yS → Prop) : Prop :=
  ∀ s1, s1 = sf s 90 1 → ∀ s2, s2 = sf s1 91 (-1) → ∀ s3, s3 = sf s2 92 (-1) → ∀ s4, s4 = sf s3 93 0 → ∀ s5, s5 = sf s4 95 0 → ∀ s6, s6 = sf s5 109 (-1) → ∀ s7, s7 = sf s6 110 0 → P none s7
set_option maxRecDepth 20000 in
theorem lk_232_0 {d N0 : Nat}   {s : yS} {P : Option Value → yS → Prop}  (h : ub_232_0 (Par d)   s P) : Lb d N0 1 (none) xE_232 (xE_232.drop 0) [.ref 213, .null] [] s P := by
  unfold ub_232_0 at h
  refine Lb_w (lb_ld rfl rfl rfl ?_)
  refine Lb_w (lb_c [.int 1, .ref 213] (xo_push (.int 1)) rfl rfl ?_)
  refine Lb_w (lb_put rfl rfl (fun hk => ?_))
  replace h := h _ rfl
  refine Lb_w (lb_ld rfl rfl rfl ?_)
  refine Lb_w (lb_c [.int (-1), .ref 213] (xo_push (.int (-1))) rfl rfl ?_)
  refine Lb_w (lb_put rfl rfl (fun hk => ?_))
  replace h := h _ rfl
  refine Lb_w (lb_ld rfl rfl rfl ?_)
  refine Lb_w (lb_c [.int (-1), .ref 213] (xo_push (.int (-1))) rfl rfl ?_)
  refine Lb_w (lb_put rfl rfl (fun hk => ?_))
  replace h := h _ rfl
  refine Lb_w (lb_ld rfl rfl rfl ?_)
  refine Lb_w (lb_c [.int 0, .ref 213] (xo_push (.int 0)) rfl rfl ?_)
  refine Lb_w (lb_put rfl rfl (fun hk => ?_))
  replace h := h _ rfl
  refine Lb_w (lb_ld rfl rfl rfl ?_)
  refine Lb_w (lb_c [.int 0, .ref 213] (xo_push (.int 0)) rfl rfl ?_)
  refine Lb_w (lb_put rfl rfl (fun hk => ?_))
  replace h := h _ rfl
  refine Lb_w (lb_ld rfl rfl rfl ?_)
  refine Lb_w (lb_c [.int (-1), .ref 213] (xo_push (.int (-1))) rfl rfl ?_)
  refine Lb_w (lb_put rfl rfl (fun hk => ?_))
  replace h := h _ rfl
  refine Lb_w (lb_ld rfl rfl rfl ?_)
  refine Lb_w (lb_c [.int 0, .ref 213] (xo_push (.int 0)) rfl rfl ?_)
  refine Lb_w (lb_put rfl rfl (fun hk => ?_))
  replace h := h _ rfl
  exact Lb_w (lb_ret0 rfl h)
theorem pb_232 {d : Nat}  {s : yS} {P : Option Value → yS → Prop} (h : ub_232_0 (Par d)  s P) : Par (d + 1) 232 [.ref 213] s P := par_of (E := xE_232) (ml := 1) (ret := none) rfl (fun _ => lk_232_0 h)
