/-! say -/
def ub_261_16 (T : Nat → List Value → yS → (Option Value → yS → Prop) → Prop)  (a1 : Int32) (s : yS) (P : Option Value → yS → Prop) : Prop :=
  P none s
set_option maxRecDepth 20000 in
theorem lk_261_16 {d N0 : Nat}  {a1 : Int32} {s : yS} {P : Option Value → yS → Prop}  (h : ub_261_16 (Par d)  a1 s P) : Lb d N0 2 (none) xE_261 (xE_261.drop 16) [.ref 213, .int a1, .null, .null] [] s P := by
  unfold ub_261_16 at h
  exact Lb_w (lb_ret0 rfl h)
def ub_261_0 (T : Nat → List Value → yS → (Option Value → yS → Prop) → Prop)  (a1 : Int32) (s : yS) (P : Option Value → yS → Prop) : Prop :=
  (2000 ≤ (s.1 120).toInt → ub_261_16 T  a1  s P) ∧ (¬ (2000 ≤ (s.1 120).toInt) → ((0 ≤ (s.1 120).toInt ∧ (s.1 120).toInt < 2000) → ∀ s1, s1 = sa s 284 (s.1 120).toInt.toNat a1 → ((-2147483648 ≤ (s1.1 120).toInt + 1 ∧ (s1.1 120).toInt + 1 ≤ 2147483647) → ∀ x2 : Int32, x2.toInt = (s1.1 120).toInt + 1 → ∀ s3, s3 = sf s1 120 x2 → ub_261_16 T  a1  s3 P)))
set_option maxRecDepth 20000 in
theorem lk_261_0 {d N0 : Nat}  {a1 : Int32} {s : yS} {P : Option Value → yS → Prop}  (h : ub_261_0 (Par d)  a1 s P) : Lb d N0 2 (none) xE_261 (xE_261.drop 0) [.ref 213, .int a1, .null, .null] [] s P := by
  unfold ub_261_0 at h
  refine Lb_w (lb_ld rfl rfl rfl ?_)
  refine Lb_w (lb_get rfl rfl ?_)
  change Lb _ _ _ _ _ _ _ [.int (s.1 120)] _ _
  refine Lb_w (lb_c [.int 2000, .int (s.1 120)] (xo_push (.int 2000)) rfl rfl ?_)
  refine Lb_w (lb_brP rfl rfl ⟨fun hc => ?_, fun hc => ?_⟩)
  · replace h := h.1 ((i_le (x := 2000) (y := s.1 120) (show (2000 : Int32).toInt = 2000 by decide) rfl).mp hc)
    exact lk_261_16  h
  · replace h := h.2 (fun q => hc ((i_le (x := 2000) (y := s.1 120) (show (2000 : Int32).toInt = 2000 by decide) rfl).mpr q))
    refine Lb_w (lb_ld rfl rfl rfl ?_)
    refine Lb_w (lb_get rfl rfl ?_)
    change Lb _ _ _ _ _ _ _ [.ref 284] _ _
    refine Lb_w (lb_ld rfl rfl rfl ?_)
    refine Lb_w (lb_get rfl rfl ?_)
    change Lb _ _ _ _ _ _ _ [.int (s.1 120), .ref 284] _ _
    refine Lb_w (lb_ld rfl rfl rfl ?_)
    refine Lb_w (lb_ias rfl rfl (fun hk => ?_))
    replace h := h (kc_in (x := s.1 120) rfl hk)
    replace h := h _ rfl
    refine Lb_w (lb_ld rfl rfl rfl ?_)
    refine Lb_w (lb_c [.ref 213, .ref 213] xo_dup rfl rfl ?_)
    refine Lb_w (lb_get rfl rfl ?_)
    change Lb _ _ _ _ _ _ _ [.int ((sa s 284 (s.1 120).toInt.toNat a1).1 120), .ref 213] _ _
    refine Lb_w (lb_c [.int 1, .int ((sa s 284 (s.1 120).toInt.toNat a1).1 120), .ref 213] (xo_push (.int 1)) rfl rfl ?_)
    refine Lb_w (lb_ca [.int (((sa s 284 (s.1 120).toInt.toNat a1).1 120) + 1), .ref 213] xo_iadd rfl rfl (fun _ hk => ?_))
    replace hk := kc_add (x := (sa s 284 (s.1 120).toInt.toNat a1).1 120) (y := 1) rfl (show (1 : Int32).toInt = 1 by decide) hk
    replace h := h hk _ (i_add (x := (sa s 284 (s.1 120).toInt.toNat a1).1 120) (y := 1) rfl (show (1 : Int32).toInt = 1 by decide) hk)
    refine Lb_w (lb_put rfl rfl (fun hk => ?_))
    replace h := h _ rfl
    exact lk_261_16  h
theorem pb_261 {d : Nat} {a1 : Int32} {s : yS} {P : Option Value → yS → Prop} (h : ub_261_0 (Par d) a1 s P) : Par (d + 1) 261 [.ref 213, .int a1] s P := par_of (E := xE_261) (ml := 2) (ret := none) rfl (fun _ => lk_261_0 h)
/-! signOf -/
def ub_262_23 (T : Nat → List Value → yS → (Option Value → yS → Prop) → Prop)  (a0 : Int32) (t0 : Int32) (s : yS) (P : Option Value → yS → Prop) : Prop :=
  P (some (.int t0)) s
set_option maxRecDepth 20000 in
theorem lk_262_23 {d N0 : Nat}  {a0 : Int32} {t0 : Int32} {s : yS} {P : Option Value → yS → Prop}  (h : ub_262_23 (Par d)  a0 t0 s P) : Lb d N0 1 (some .int) xE_262 (xE_262.drop 23) [.int a0, .null] [.int t0] s P := by
  unfold ub_262_23 at h
  exact Lb_w (lb_retI rfl h)
def ub_262_0 (T : Nat → List Value → yS → (Option Value → yS → Prop) → Prop)  (a0 : Int32) (s : yS) (P : Option Value → yS → Prop) : Prop :=
  (27 ≤ a0.toInt → (53 ≤ a0.toInt → ((-2147483648 ≤ 48 + a0.toInt ∧ 48 + a0.toInt ≤ 2147483647) → ∀ x1 : Int32, x1.toInt = 48 + a0.toInt → ((-2147483648 ≤ x1.toInt - 53 ∧ x1.toInt - 53 ≤ 2147483647) → ∀ x2 : Int32, x2.toInt = x1.toInt - 53 → ub_262_23 T  a0 x2 s P))) ∧ (¬ (53 ≤ a0.toInt) → ((-2147483648 ≤ 65 + a0.toInt ∧ 65 + a0.toInt ≤ 2147483647) → ∀ x3 : Int32, x3.toInt = 65 + a0.toInt → ((-2147483648 ≤ x3.toInt - 27 ∧ x3.toInt - 27 ≤ 2147483647) → ∀ x4 : Int32, x4.toInt = x3.toInt - 27 → ub_262_23 T  a0 x4 s P)))) ∧ (¬ (27 ≤ a0.toInt) → ((-2147483648 ≤ 97 + a0.toInt ∧ 97 + a0.toInt ≤ 2147483647) → ∀ x5 : Int32, x5.toInt = 97 + a0.toInt → ((-2147483648 ≤ x5.toInt - 1 ∧ x5.toInt - 1 ≤ 2147483647) → ∀ x6 : Int32, x6.toInt = x5.toInt - 1 → ub_262_23 T  a0 x6 s P)))
set_option maxRecDepth 20000 in
theorem lk_262_0 {d N0 : Nat}  {a0 : Int32} {s : yS} {P : Option Value → yS → Prop}  (h : ub_262_0 (Par d)  a0 s P) : Lb d N0 1 (some .int) xE_262 (xE_262.drop 0) [.int a0, .null] [] s P := by
  unfold ub_262_0 at h
  refine Lb_w (lb_ld rfl rfl rfl ?_)
  refine Lb_w (lb_c [.int 27, .int a0] (xo_push (.int 27)) rfl rfl ?_)
  refine Lb_w (lb_brP rfl rfl ⟨fun hc => ?_, fun hc => ?_⟩)
  · replace h := h.1 ((i_le (x := 27) (y := a0) (show (27 : Int32).toInt = 27 by decide) rfl).mp hc)
    refine Lb_w (lb_ld rfl rfl rfl ?_)
    refine Lb_w (lb_c [.int 53, .int a0] (xo_push (.int 53)) rfl rfl ?_)
    refine Lb_w (lb_brP rfl rfl ⟨fun hc => ?_, fun hc => ?_⟩)
    · replace h := h.1 ((i_le (x := 53) (y := a0) (show (53 : Int32).toInt = 53 by decide) rfl).mp hc)
      refine Lb_w (lb_c [.int 48] (xo_push (.int 48)) rfl rfl ?_)
      refine Lb_w (lb_ld rfl rfl rfl ?_)
      refine Lb_w (lb_ca [.int (48 + a0)] xo_iadd rfl rfl (fun _ hk => ?_))
      replace hk := kc_add (x := 48) (y := a0) (show (48 : Int32).toInt = 48 by decide) rfl hk
      replace h := h hk _ (i_add (x := 48) (y := a0) (show (48 : Int32).toInt = 48 by decide) rfl hk)
      refine Lb_w (lb_c [.int 53, .int (48 + a0)] (xo_push (.int 53)) rfl rfl ?_)
      refine Lb_w (lb_ca [.int ((48 + a0) - 53)] xo_isub rfl rfl (fun _ hk => ?_))
      replace hk := kc_sub (x := (48 + a0)) (y := 53) rfl (show (53 : Int32).toInt = 53 by decide) hk
      replace h := h hk _ (i_sub (x := (48 + a0)) (y := 53) rfl (show (53 : Int32).toInt = 53 by decide) hk)
      exact lk_262_23  h
    · replace h := h.2 (fun q => hc ((i_le (x := 53) (y := a0) (show (53 : Int32).toInt = 53 by decide) rfl).mpr q))
      refine Lb_w (lb_c [.int 65] (xo_push (.int 65)) rfl rfl ?_)
      refine Lb_w (lb_ld rfl rfl rfl ?_)
      refine Lb_w (lb_ca [.int (65 + a0)] xo_iadd rfl rfl (fun _ hk => ?_))
      replace hk := kc_add (x := 65) (y := a0) (show (65 : Int32).toInt = 65 by decide) rfl hk
      replace h := h hk _ (i_add (x := 65) (y := a0) (show (65 : Int32).toInt = 65 by decide) rfl hk)
      refine Lb_w (lb_c [.int 27, .int (65 + a0)] (xo_push (.int 27)) rfl rfl ?_)
      refine Lb_w (lb_ca [.int ((65 + a0) - 27)] xo_isub rfl rfl (fun _ hk => ?_))
      replace hk := kc_sub (x := (65 + a0)) (y := 27) rfl (show (27 : Int32).toInt = 27 by decide) hk
      replace h := h hk _ (i_sub (x := (65 + a0)) (y := 27) rfl (show (27 : Int32).toInt = 27 by decide) hk)
      refine Lb_w (lb_go rfl ?_)
      exact lk_262_23  h
  · replace h := h.2 (fun q => hc ((i_le (x := 27) (y := a0) (show (27 : Int32).toInt = 27 by decide) rfl).mpr q))
    refine Lb_w (lb_c [.int 97] (xo_push (.int 97)) rfl rfl ?_)
    refine Lb_w (lb_ld rfl rfl rfl ?_)
    refine Lb_w (lb_ca [.int (97 + a0)] xo_iadd rfl rfl (fun _ hk => ?_))
    replace hk := kc_add (x := 97) (y := a0) (show (97 : Int32).toInt = 97 by decide) rfl hk
    replace h := h hk _ (i_add (x := 97) (y := a0) (show (97 : Int32).toInt = 97 by decide) rfl hk)
    refine Lb_w (lb_c [.int 1, .int (97 + a0)] (xo_push (.int 1)) rfl rfl ?_)
    refine Lb_w (lb_ca [.int ((97 + a0) - 1)] xo_isub rfl rfl (fun _ hk => ?_))
    replace hk := kc_sub (x := (97 + a0)) (y := 1) rfl (show (1 : Int32).toInt = 1 by decide) hk
    replace h := h hk _ (i_sub (x := (97 + a0)) (y := 1) rfl (show (1 : Int32).toInt = 1 by decide) hk)
    refine Lb_w (lb_go rfl ?_)
    exact lk_262_23  h
theorem pb_262 {d : Nat} {a0 : Int32} {s : yS} {P : Option Value → yS → Prop} (h : ub_262_0 (Par d) a0 s P) : Par (d + 1) 262 [.int a0] s P := par_of (E := xE_262) (ml := 1) (ret := some .int) rfl (fun _ => lk_262_0 h)
/-! sayWord -/
def ub_264_0 (T : Nat → List Value → yS → (Option Value → yS → Prop) → Prop)  (a1 : Int32) (s : yS) (P : Option Value → yS → Prop) : Prop :=
  ((-2147483648 ≤ 2100 * (s.1 29).toInt ∧ 2100 * (s.1 29).toInt ≤ 2147483647) → ∀ x1 : Int32, x1.toInt = 2100 * (s.1 29).toInt → ((-2147483648 ≤ x1.toInt + a1.toInt ∧ x1.toInt + a1.toInt ≤ 2147483647) → ∀ x2 : Int32, x2.toInt = x1.toInt + a1.toInt → ((0 ≤ x2.toInt ∧ x2.toInt < 6300) → T 263 [.ref 213, .long (s.2.2 218 x2.toInt.toNat)] s (fun v4 s3 => v4 = none ∧ (((-2147483648 ≤ 2100 * (s3.1 29).toInt ∧ 2100 * (s3.1 29).toInt ≤ 2147483647) → ∀ x5 : Int32, x5.toInt = 2100 * (s3.1 29).toInt → ((-2147483648 ≤ x5.toInt + a1.toInt ∧ x5.toInt + a1.toInt ≤ 2147483647) → ∀ x6 : Int32, x6.toInt = x5.toInt + a1.toInt → ((0 ≤ x6.toInt ∧ x6.toInt < 6300) → T 263 [.ref 213, .long (s3.2.2 219 x6.toInt.toNat)] s3 (fun v8 s7 => v8 = none ∧ (P none s7))))))))))
set_option maxRecDepth 20000 in
theorem lk_264_0 {d N0 : Nat}  {a1 : Int32} {s : yS} {P : Option Value → yS → Prop}  (h : ub_264_0 (Par d)  a1 s P) : Lb d N0 2 (none) xE_264 (xE_264.drop 0) [.ref 213, .int a1, .null, .null] [] s P := by
  unfold ub_264_0 at h
  refine Lb_w (lb_ld rfl rfl rfl ?_)
  refine Lb_w (lb_ld rfl rfl rfl ?_)
  refine Lb_w (lb_get rfl rfl ?_)
  change Lb _ _ _ _ _ _ _ [.ref 218, .ref 213] _ _
  refine Lb_w (lb_c [.int 2100, .ref 218, .ref 213] (xo_push (.int 2100)) rfl rfl ?_)
  refine Lb_w (lb_ld rfl rfl rfl ?_)
  refine Lb_w (lb_get rfl rfl ?_)
  change Lb _ _ _ _ _ _ _ [.int (s.1 29), .int 2100, .ref 218, .ref 213] _ _
  refine Lb_w (lb_ca [.int (2100 * (s.1 29)), .ref 218, .ref 213] xo_imul rfl rfl (fun _ hk => ?_))
  replace hk := kc_mul (x := 2100) (y := s.1 29) (show (2100 : Int32).toInt = 2100 by decide) rfl hk
  replace h := h hk _ (i_mul (x := 2100) (y := s.1 29) (show (2100 : Int32).toInt = 2100 by decide) rfl hk)
  refine Lb_w (lb_ld rfl rfl rfl ?_)
  refine Lb_w (lb_ca [.int ((2100 * (s.1 29)) + a1), .ref 218, .ref 213] xo_iadd rfl rfl (fun _ hk => ?_))
  replace hk := kc_add (x := (2100 * (s.1 29))) (y := a1) rfl rfl hk
  replace h := h hk _ (i_add (x := (2100 * (s.1 29))) (y := a1) rfl rfl hk)
  refine Lb_w (lb_lal rfl rfl (fun hk => ?_))
  change Lb _ _ _ _ _ _ _ [.long (s.2.2 218 ((2100 * (s.1 29)) + a1).toInt.toNat), .ref 213] _ _
  replace h := h (kc_in (x := ((2100 * (s.1 29)) + a1)) rfl hk)
  refine Lb_w (lb_call [.ref 213, .long (s.2.2 218 ((2100 * (s.1 29)) + a1).toInt.toNat)] [] rfl rfl rfl (Par.imp h (fun v4 s3 h => ?_)))
  obtain ⟨rfl, h⟩ := h
  change Lb _ _ _ _ _ _ _ [] _ _
  refine Lb_w (lb_ld rfl rfl rfl ?_)
  refine Lb_w (lb_ld rfl rfl rfl ?_)
  refine Lb_w (lb_get rfl rfl ?_)
  change Lb _ _ _ _ _ _ _ [.ref 219, .ref 213] _ _
  refine Lb_w (lb_c [.int 2100, .ref 219, .ref 213] (xo_push (.int 2100)) rfl rfl ?_)
  refine Lb_w (lb_ld rfl rfl rfl ?_)
  refine Lb_w (lb_get rfl rfl ?_)
  change Lb _ _ _ _ _ _ _ [.int (s3.1 29), .int 2100, .ref 219, .ref 213] _ _
  refine Lb_w (lb_ca [.int (2100 * (s3.1 29)), .ref 219, .ref 213] xo_imul rfl rfl (fun _ hk => ?_))
  replace hk := kc_mul (x := 2100) (y := s3.1 29) (show (2100 : Int32).toInt = 2100 by decide) rfl hk
  replace h := h hk _ (i_mul (x := 2100) (y := s3.1 29) (show (2100 : Int32).toInt = 2100 by decide) rfl hk)
  refine Lb_w (lb_ld rfl rfl rfl ?_)
  refine Lb_w (lb_ca [.int ((2100 * (s3.1 29)) + a1), .ref 219, .ref 213] xo_iadd rfl rfl (fun _ hk => ?_))
  replace hk := kc_add (x := (2100 * (s3.1 29))) (y := a1) rfl rfl hk
  replace h := h hk _ (i_add (x := (2100 * (s3.1 29))) (y := a1) rfl rfl hk)
  refine Lb_w (lb_lal rfl rfl (fun hk => ?_))
  change Lb _ _ _ _ _ _ _ [.long (s3.2.2 219 ((2100 * (s3.1 29)) + a1).toInt.toNat), .ref 213] _ _
  replace h := h (kc_in (x := ((2100 * (s3.1 29)) + a1)) rfl hk)
  refine Lb_w (lb_call [.ref 213, .long (s3.2.2 219 ((2100 * (s3.1 29)) + a1).toInt.toNat)] [] rfl rfl rfl (Par.imp h (fun v8 s7 h => ?_)))
  obtain ⟨rfl, h⟩ := h
  change Lb _ _ _ _ _ _ _ [] _ _
  exact Lb_w (lb_ret0 rfl h)
theorem pb_264 {d : Nat} {a1 : Int32} {s : yS} {P : Option Value → yS → Prop} (h : ub_264_0 (Par d) a1 s P) : Par (d + 1) 264 [.ref 213, .int a1] s P := par_of (E := xE_264) (ml := 2) (ret := none) rfl (fun _ => lk_264_0 h)
/-! sayType -/
def ub_265_54 (T : Nat → List Value → yS → (Option Value → yS → Prop) → Prop)  (a1 : Int32) (a2 : Int32) (a3 : Int32) (a4 : Int32) (a5 : Int32) (s : yS) (P : Option Value → yS → Prop) : Prop :=
  P (some (.int a4)) s
set_option maxRecDepth 20000 in
theorem lk_265_54 {d N0 : Nat}  {a1 : Int32} {a2 : Int32} {a3 : Int32} {a4 : Int32} {a5 : Int32} {s : yS} {P : Option Value → yS → Prop}  (h : ub_265_54 (Par d)  a1 a2 a3 a4 a5 s P) : Lb d N0 6 (some .int) xE_265 (xE_265.drop 54) [.ref 213, .int a1, .int a2, .int a3, .int a4, .int a5, .null, .null] [] s P := by
  unfold ub_265_54 at h
  refine Lb_w (lb_ld rfl rfl rfl ?_)
  exact Lb_w (lb_retI rfl h)
def ub_265_42 (T : Nat → List Value → yS → (Option Value → yS → Prop) → Prop) (R33 : Int32 → Int32 → Int32 → Int32 → Int32 → yS → Prop) (a1 : Int32) (a2 : Int32) (a3 : Int32) (a4 : Int32) (a5 : Int32) (t1 : Int32) (s : yS) (P : Option Value → yS → Prop) : Prop :=
  T 261 [.ref 213, .int t1] s (fun v2 s1 => v2 = none ∧ (T 265 [.ref 213, .int a4] s1 (fun v4 s3 => ∃ x5, v4 = some (.int x5) ∧ (((-2147483648 ≤ a5.toInt + 1 ∧ a5.toInt + 1 ≤ 2147483647) → ∀ x6 : Int32, x6.toInt = a5.toInt + 1 → R33 a1 a2 a3 x5 x6  s3)))))
set_option maxRecDepth 20000 in
theorem lk_265_42 {d N0 : Nat} {R33 : Int32 → Int32 → Int32 → Int32 → Int32 → yS → Prop} {a1 : Int32} {a2 : Int32} {a3 : Int32} {a4 : Int32} {a5 : Int32} {t1 : Int32} {s : yS} {P : Option Value → yS → Prop} (r33 : ∀ a1 a2 a3 a4 a5 s, R33 a1 a2 a3 a4 a5 s → Lb d N0 6 (some .int) xE_265 (xE_265.drop 33) [.ref 213, .int a1, .int a2, .int a3, .int a4, .int a5, .null, .null] [] s P) (h : ub_265_42 (Par d) R33 a1 a2 a3 a4 a5 t1 s P) : Lb d N0 6 (some .int) xE_265 (xE_265.drop 42) [.ref 213, .int a1, .int a2, .int a3, .int a4, .int a5, .null, .null] [.int t1, .ref 213] s P := by
  unfold ub_265_42 at h
  refine Lb_w (lb_call [.ref 213, .int t1] [] rfl rfl rfl (Par.imp h (fun v2 s1 h => ?_)))
  obtain ⟨rfl, h⟩ := h
  change Lb _ _ _ _ _ _ _ [] _ _
  refine Lb_w (lb_ld rfl rfl rfl ?_)
  refine Lb_w (lb_ld rfl rfl rfl ?_)
  refine Lb_w (lb_call [.ref 213, .int a4] [] rfl rfl rfl (Par.imp h (fun v4 s3 h => ?_)))
  obtain ⟨x5, rfl, h⟩ := h
  change Lb _ _ _ _ _ _ _ [.int x5] _ _
  refine Lb_w (lb_st [.ref 213, .int a1, .int a2, .int a3, .int x5, .int a5, .null, .null] rfl rfl rfl ?_)
  refine Lb_w (lb_inc [.ref 213, .int a1, .int a2, .int a3, .int x5, .int (a5 + 1), .null, .null] rfl rfl rfl rfl (fun hk => ?_))
  replace hk := kc_inc (x := a5) (n := 1) rfl hk
  replace h := h hk _ (i_add (x := a5) (y := 1) rfl (show (1 : Int32).toInt = 1 by decide) hk)
  refine Lb_w (lb_go rfl ?_)
  exact r33 a1 a2 a3 x5 (a5 + 1)  s3 h
def ub_265_33 (T : Nat → List Value → yS → (Option Value → yS → Prop) → Prop) (R33 : Int32 → Int32 → Int32 → Int32 → Int32 → yS → Prop) (a1 : Int32) (a2 : Int32) (a3 : Int32) (a4 : Int32) (a5 : Int32) (s : yS) (P : Option Value → yS → Prop) : Prop :=
  (a3.toInt ≤ a5.toInt → (a3.toInt ≤ 0 → ub_265_54 T  a1 a2 a3 a4 a5  s P) ∧ (¬ (a3.toInt ≤ 0) → T 261 [.ref 213, .int 93] s (fun v2 s1 => v2 = none ∧ (ub_265_54 T  a1 a2 a3 a4 a5  s1 P)))) ∧ (¬ (a3.toInt ≤ a5.toInt) → (¬ (a5.toInt = 0) → ub_265_42 T R33 a1 a2 a3 a4 a5 44 s P) ∧ (a5.toInt = 0 → ub_265_42 T R33 a1 a2 a3 a4 a5 91 s P))
set_option maxRecDepth 20000 in
theorem lk_265_33 {d N0 : Nat} {R33 : Int32 → Int32 → Int32 → Int32 → Int32 → yS → Prop} {a1 : Int32} {a2 : Int32} {a3 : Int32} {a4 : Int32} {a5 : Int32} {s : yS} {P : Option Value → yS → Prop} (r33 : ∀ a1 a2 a3 a4 a5 s, R33 a1 a2 a3 a4 a5 s → Lb d N0 6 (some .int) xE_265 (xE_265.drop 33) [.ref 213, .int a1, .int a2, .int a3, .int a4, .int a5, .null, .null] [] s P) (h : ub_265_33 (Par d) R33 a1 a2 a3 a4 a5 s P) : Lb d (N0 + 1) 6 (some .int) xE_265 (xE_265.drop 33) [.ref 213, .int a1, .int a2, .int a3, .int a4, .int a5, .null, .null] [] s P := by
  unfold ub_265_33 at h
  refine lb_ld rfl rfl rfl ?_
  refine Lb_w (lb_ld rfl rfl rfl ?_)
  refine Lb_w (lb_brP rfl rfl ⟨fun hc => ?_, fun hc => ?_⟩)
  · replace h := h.1 ((i_le (x := a3) (y := a5) rfl rfl).mp hc)
    refine Lb_w (lb_ld rfl rfl rfl ?_)
    refine Lb_w (lb_brP rfl rfl ⟨fun hc => ?_, fun hc => ?_⟩)
    · replace h := h.1 ((i_le (x := a3) (y := 0) rfl (show (0 : Int32).toInt = 0 by decide)).mp hc)
      exact lk_265_54  h
    · replace h := h.2 (fun q => hc ((i_le (x := a3) (y := 0) rfl (show (0 : Int32).toInt = 0 by decide)).mpr q))
      refine Lb_w (lb_ld rfl rfl rfl ?_)
      refine Lb_w (lb_c [.int 93, .ref 213] (xo_push (.int 93)) rfl rfl ?_)
      refine Lb_w (lb_call [.ref 213, .int 93] [] rfl rfl rfl (Par.imp h (fun v2 s1 h => ?_)))
      obtain ⟨rfl, h⟩ := h
      change Lb _ _ _ _ _ _ _ [] _ _
      exact lk_265_54  h
  · replace h := h.2 (fun q => hc ((i_le (x := a3) (y := a5) rfl rfl).mpr q))
    refine Lb_w (lb_ld rfl rfl rfl ?_)
    refine Lb_w (lb_ld rfl rfl rfl ?_)
    refine Lb_w (lb_brN rfl rfl ⟨fun hc => ?_, fun hc => ?_⟩)
    · replace h := h.1 (fun q => hc ((i_eq (x := a5) (y := 0) rfl (show (0 : Int32).toInt = 0 by decide)).mpr q))
      refine Lb_w (lb_c [.int 44, .ref 213] (xo_push (.int 44)) rfl rfl ?_)
      exact lk_265_42 r33 h
    · replace h := h.2 ((i_eq (x := a5) (y := 0) rfl (show (0 : Int32).toInt = 0 by decide)).mp hc)
      refine Lb_w (lb_c [.int 91, .ref 213] (xo_push (.int 91)) rfl rfl ?_)
      refine Lb_w (lb_go rfl ?_)
      exact lk_265_42 r33 h
def ubl_265_33 (T : Nat → List Value → yS → (Option Value → yS → Prop) → Prop)  (a1 : Int32) (a2 : Int32) (a3 : Int32) (a4 : Int32) (a5 : Int32) (s : yS) (P : Option Value → yS → Prop) : Prop :=
  ∃ (I : Int32 → Int32 → Int32 → Int32 → Int32 → yS → Prop), I a1 a2 a3 a4 a5 s ∧ ∀ (a1 : Int32) (a2 : Int32) (a3 : Int32) (a4 : Int32) (a5 : Int32) (s : yS), I a1 a2 a3 a4 a5 s → ub_265_33 T I a1 a2 a3 a4 a5 s P
theorem lkl_265_33 {d N0 : Nat}  {a1 : Int32} {a2 : Int32} {a3 : Int32} {a4 : Int32} {a5 : Int32} {s : yS} {P : Option Value → yS → Prop}  (h : ubl_265_33 (Par d)  a1 a2 a3 a4 a5 s P) : Lb d N0 6 (some .int) xE_265 (xE_265.drop 33) [.ref 213, .int a1, .int a2, .int a3, .int a4, .int a5, .null, .null] [] s P := by
  obtain ⟨I, h0, h1⟩ := h
  have key : ∀ (m : Nat), m ≤ N0 → ∀ (a1 : Int32) (a2 : Int32) (a3 : Int32) (a4 : Int32) (a5 : Int32) (s : yS), I a1 a2 a3 a4 a5 s → Lb d m 6 (some .int) xE_265 (xE_265.drop 33) [.ref 213, .int a1, .int a2, .int a3, .int a4, .int a5, .null, .null] [] s P := by
    intro m
    induction m with
    | zero => exact fun _ a1 a2 a3 a4 a5 s _ => Lb_0
    | succ m ih =>
      intro hm
      replace hm : m ≤ N0 := Nat.le_of_succ_le hm
      replace ih := ih hm
      intro a1 a2 a3 a4 a5 s hI
      exact lk_265_33 ih (h1 a1 a2 a3 a4 a5 s hI)
  exact key N0 (Nat.le_refl _) a1 a2 a3 a4 a5 s h0
def ub_265_0 (T : Nat → List Value → yS → (Option Value → yS → Prop) → Prop)  (a1 : Int32) (s : yS) (P : Option Value → yS → Prop) : Prop :=
  ((0 ≤ a1.toInt ∧ a1.toInt < 60) → T 185 [.int (s.2.1 285 a1.toInt.toNat)] s (fun v2 s1 => ∃ x3, v2 = some (.int x3) ∧ (((0 ≤ a1.toInt ∧ a1.toInt < 60) → (0 ≤ (s1.2.1 285 a1.toInt.toNat).toInt → ∀ x4 : Int32, x4.toInt = (s1.2.1 285 a1.toInt.toNat).toInt % 8 → ((-2147483648 ≤ 24 * (s1.1 29).toInt ∧ 24 * (s1.1 29).toInt ≤ 2147483647) → ∀ x5 : Int32, x5.toInt = 24 * (s1.1 29).toInt → ((-2147483648 ≤ x5.toInt + x3.toInt ∧ x5.toInt + x3.toInt ≤ 2147483647) → ∀ x6 : Int32, x6.toInt = x5.toInt + x3.toInt → ((0 ≤ x6.toInt ∧ x6.toInt < 48) → ((0 ≤ (s1.2.1 234 x6.toInt.toNat).toInt ∧ (s1.2.1 234 x6.toInt.toNat).toInt < 12006) → T 264 [.ref 213, .int (s1.2.1 217 (s1.2.1 234 x6.toInt.toNat).toInt.toNat)] s1 (fun v8 s7 => v8 = none ∧ (((-2147483648 ≤ a1.toInt + 1 ∧ a1.toInt + 1 ≤ 2147483647) → ∀ x9 : Int32, x9.toInt = a1.toInt + 1 → ubl_265_33 T  a1 x3 x4 x9 0  s7 P))))))))))))
set_option maxRecDepth 20000 in
theorem lk_265_0 {d N0 : Nat}  {a1 : Int32} {s : yS} {P : Option Value → yS → Prop}  (h : ub_265_0 (Par d)  a1 s P) : Lb d N0 6 (some .int) xE_265 (xE_265.drop 0) [.ref 213, .int a1, .null, .null, .null, .null, .null, .null] [] s P := by
  unfold ub_265_0 at h
  refine Lb_w (lb_ld rfl rfl rfl ?_)
  refine Lb_w (lb_get rfl rfl ?_)
  change Lb _ _ _ _ _ _ _ [.ref 285] _ _
  refine Lb_w (lb_ld rfl rfl rfl ?_)
  refine Lb_w (lb_ial rfl rfl (fun hk => ?_))
  change Lb _ _ _ _ _ _ _ [.int (s.2.1 285 a1.toInt.toNat)] _ _
  replace h := h (kc_in (x := a1) rfl hk)
  refine Lb_w (lb_call [.int (s.2.1 285 a1.toInt.toNat)] [] rfl rfl rfl (Par.imp h (fun v2 s1 h => ?_)))
  obtain ⟨x3, rfl, h⟩ := h
  change Lb _ _ _ _ _ _ _ [.int x3] _ _
  refine Lb_w (lb_st [.ref 213, .int a1, .int x3, .null, .null, .null, .null, .null] rfl rfl rfl ?_)
  refine Lb_w (lb_ld rfl rfl rfl ?_)
  refine Lb_w (lb_get rfl rfl ?_)
  change Lb _ _ _ _ _ _ _ [.ref 285] _ _
  refine Lb_w (lb_ld rfl rfl rfl ?_)
  refine Lb_w (lb_ial rfl rfl (fun hk => ?_))
  change Lb _ _ _ _ _ _ _ [.int (s1.2.1 285 a1.toInt.toNat)] _ _
  replace h := h (kc_in (x := a1) rfl hk)
  refine Lb_w (lb_c [.int 7, .int (s1.2.1 285 a1.toInt.toNat)] (xo_push (.int 7)) rfl rfl ?_)
  refine Lb_w (lb_ca [.int ((s1.2.1 285 a1.toInt.toNat) &&& 7)] xo_iand rfl rfl (fun _ hk => ?_))
  replace hk := kc_and (x := s1.2.1 285 a1.toInt.toNat) (y := 7) rfl (by decide) hk
  replace h := h hk _ (i_and7 (x := s1.2.1 285 a1.toInt.toNat) rfl hk)
  refine Lb_w (lb_st [.ref 213, .int a1, .int x3, .int ((s1.2.1 285 a1.toInt.toNat) &&& 7), .null, .null, .null, .null] rfl rfl rfl ?_)
  refine Lb_w (lb_ld rfl rfl rfl ?_)
  refine Lb_w (lb_ld rfl rfl rfl ?_)
  refine Lb_w (lb_get rfl rfl ?_)
  change Lb _ _ _ _ _ _ _ [.ref 217, .ref 213] _ _
  refine Lb_w (lb_ld rfl rfl rfl ?_)
  refine Lb_w (lb_get rfl rfl ?_)
  change Lb _ _ _ _ _ _ _ [.ref 234, .ref 217, .ref 213] _ _
  refine Lb_w (lb_c [.int 24, .ref 234, .ref 217, .ref 213] (xo_push (.int 24)) rfl rfl ?_)
  refine Lb_w (lb_ld rfl rfl rfl ?_)
  refine Lb_w (lb_get rfl rfl ?_)
  change Lb _ _ _ _ _ _ _ [.int (s1.1 29), .int 24, .ref 234, .ref 217, .ref 213] _ _
  refine Lb_w (lb_ca [.int (24 * (s1.1 29)), .ref 234, .ref 217, .ref 213] xo_imul rfl rfl (fun _ hk => ?_))
  replace hk := kc_mul (x := 24) (y := s1.1 29) (show (24 : Int32).toInt = 24 by decide) rfl hk
  replace h := h hk _ (i_mul (x := 24) (y := s1.1 29) (show (24 : Int32).toInt = 24 by decide) rfl hk)
  refine Lb_w (lb_ld rfl rfl rfl ?_)
  refine Lb_w (lb_ca [.int ((24 * (s1.1 29)) + x3), .ref 234, .ref 217, .ref 213] xo_iadd rfl rfl (fun _ hk => ?_))
  replace hk := kc_add (x := (24 * (s1.1 29))) (y := x3) rfl rfl hk
  replace h := h hk _ (i_add (x := (24 * (s1.1 29))) (y := x3) rfl rfl hk)
  refine Lb_w (lb_ial rfl rfl (fun hk => ?_))
  change Lb _ _ _ _ _ _ _ [.int (s1.2.1 234 ((24 * (s1.1 29)) + x3).toInt.toNat), .ref 217, .ref 213] _ _
  replace h := h (kc_in (x := ((24 * (s1.1 29)) + x3)) rfl hk)
  refine Lb_w (lb_ial rfl rfl (fun hk => ?_))
  change Lb _ _ _ _ _ _ _ [.int (s1.2.1 217 (s1.2.1 234 ((24 * (s1.1 29)) + x3).toInt.toNat).toInt.toNat), .ref 213] _ _
  replace h := h (kc_in (x := s1.2.1 234 ((24 * (s1.1 29)) + x3).toInt.toNat) rfl hk)
  refine Lb_w (lb_call [.ref 213, .int (s1.2.1 217 (s1.2.1 234 ((24 * (s1.1 29)) + x3).toInt.toNat).toInt.toNat)] [] rfl rfl rfl (Par.imp h (fun v8 s7 h => ?_)))
  obtain ⟨rfl, h⟩ := h
  change Lb _ _ _ _ _ _ _ [] _ _
  refine Lb_w (lb_ld rfl rfl rfl ?_)
  refine Lb_w (lb_c [.int 1, .int a1] (xo_push (.int 1)) rfl rfl ?_)
  refine Lb_w (lb_ca [.int (a1 + 1)] xo_iadd rfl rfl (fun _ hk => ?_))
  replace hk := kc_add (x := a1) (y := 1) rfl (show (1 : Int32).toInt = 1 by decide) hk
  replace h := h hk _ (i_add (x := a1) (y := 1) rfl (show (1 : Int32).toInt = 1 by decide) hk)
  refine Lb_w (lb_st [.ref 213, .int a1, .int x3, .int ((s1.2.1 285 a1.toInt.toNat) &&& 7), .int (a1 + 1), .null, .null, .null] rfl rfl rfl ?_)
  refine Lb_w (lb_c [.int 0] (xo_push (.int 0)) rfl rfl ?_)
  refine Lb_w (lb_st [.ref 213, .int a1, .int x3, .int ((s1.2.1 285 a1.toInt.toNat) &&& 7), .int (a1 + 1), .int 0, .null, .null] rfl rfl rfl ?_)
  exact lkl_265_33  h
theorem pb_265 {d : Nat} {a1 : Int32} {s : yS} {P : Option Value → yS → Prop} (h : ub_265_0 (Par d) a1 s P) : Par (d + 1) 265 [.ref 213, .int a1] s P := par_of (E := xE_265) (ml := 6) (ret := some .int) rfl (fun _ => lk_265_0 h)
/-! beginValue -/
def ub_266_2 (T : Nat → List Value → yS → (Option Value → yS → Prop) → Prop) (R2 : Int32 → Int32 → yS → Prop) (a1 : Int32) (a2 : Int32) (s : yS) (P : Option Value → yS → Prop) : Prop :=
  ((0 ≤ a1.toInt ∧ a1.toInt < 5100) → ((s.2.1 276 a1.toInt.toNat).toInt ≤ a2.toInt → T 265 [.ref 213, .int 0] s (fun v2 s1 => ∃ x3, v2 = some (.int x3) ∧ (T 261 [.ref 213, .int 123] s1 (fun v5 s4 => v5 = none ∧ (((0 ≤ (s4.1 124).toInt ∧ (s4.1 124).toInt < 1100) → ∀ s6, s6 = sa s4 286 (s4.1 124).toInt.toNat a1 → ((0 ≤ (s6.1 124).toInt ∧ (s6.1 124).toInt < 1100) → ∀ s7, s7 = sa s6 287 (s6.1 124).toInt.toNat 0 → ((-2147483648 ≤ (s7.1 124).toInt + 1 ∧ (s7.1 124).toInt + 1 ≤ 2147483647) → ∀ x8 : Int32, x8.toInt = (s7.1 124).toInt + 1 → ∀ s9, s9 = sf s7 124 x8 → P none s9)))))))) ∧ (¬ ((s.2.1 276 a1.toInt.toNat).toInt ≤ a2.toInt) → ((0 ≤ a1.toInt ∧ a1.toInt < 5100) → ((-2147483648 ≤ (s.2.1 275 a1.toInt.toNat).toInt + a2.toInt ∧ (s.2.1 275 a1.toInt.toNat).toInt + a2.toInt ≤ 2147483647) → ∀ x10 : Int32, x10.toInt = (s.2.1 275 a1.toInt.toNat).toInt + a2.toInt → ((0 ≤ x10.toInt ∧ x10.toInt < 200000) → ((0 ≤ a2.toInt ∧ a2.toInt < 60) → ∀ s11, s11 = sa s 285 a2.toInt.toNat (s.2.1 264 x10.toInt.toNat) → ((-2147483648 ≤ a2.toInt + 1 ∧ a2.toInt + 1 ≤ 2147483647) → ∀ x12 : Int32, x12.toInt = a2.toInt + 1 → R2 a1 x12  s11)))))))
set_option maxRecDepth 20000 in
theorem lk_266_2 {d N0 : Nat} {R2 : Int32 → Int32 → yS → Prop} {a1 : Int32} {a2 : Int32} {s : yS} {P : Option Value → yS → Prop} (r2 : ∀ a1 a2 s, R2 a1 a2 s → Lb d N0 3 (none) xE_266 (xE_266.drop 2) [.ref 213, .int a1, .int a2, .null, .null] [] s P) (h : ub_266_2 (Par d) R2 a1 a2 s P) : Lb d (N0 + 1) 3 (none) xE_266 (xE_266.drop 2) [.ref 213, .int a1, .int a2, .null, .null] [] s P := by
  unfold ub_266_2 at h
  refine lb_ld rfl rfl rfl ?_
  refine Lb_w (lb_ld rfl rfl rfl ?_)
  refine Lb_w (lb_get rfl rfl ?_)
  change Lb _ _ _ _ _ _ _ [.ref 276, .int a2] _ _
  refine Lb_w (lb_ld rfl rfl rfl ?_)
  refine Lb_w (lb_ial rfl rfl (fun hk => ?_))
  change Lb _ _ _ _ _ _ _ [.int (s.2.1 276 a1.toInt.toNat), .int a2] _ _
  replace h := h (kc_in (x := a1) rfl hk)
  refine Lb_w (lb_brP rfl rfl ⟨fun hc => ?_, fun hc => ?_⟩)
  · replace h := h.1 ((i_le (x := s.2.1 276 a1.toInt.toNat) (y := a2) rfl rfl).mp hc)
    refine Lb_w (lb_ld rfl rfl rfl ?_)
    refine Lb_w (lb_c [.int 0, .ref 213] (xo_push (.int 0)) rfl rfl ?_)
    refine Lb_w (lb_call [.ref 213, .int 0] [] rfl rfl rfl (Par.imp h (fun v2 s1 h => ?_)))
    obtain ⟨x3, rfl, h⟩ := h
    change Lb _ _ _ _ _ _ _ [.int x3] _ _
    refine Lb_w (lb_st [.ref 213, .int a1, .int x3, .null, .null] rfl rfl rfl ?_)
    refine Lb_w (lb_ld rfl rfl rfl ?_)
    refine Lb_w (lb_c [.int 123, .ref 213] (xo_push (.int 123)) rfl rfl ?_)
    refine Lb_w (lb_call [.ref 213, .int 123] [] rfl rfl rfl (Par.imp h (fun v5 s4 h => ?_)))
    obtain ⟨rfl, h⟩ := h
    change Lb _ _ _ _ _ _ _ [] _ _
    refine Lb_w (lb_ld rfl rfl rfl ?_)
    refine Lb_w (lb_get rfl rfl ?_)
    change Lb _ _ _ _ _ _ _ [.ref 286] _ _
    refine Lb_w (lb_ld rfl rfl rfl ?_)
    refine Lb_w (lb_get rfl rfl ?_)
    change Lb _ _ _ _ _ _ _ [.int (s4.1 124), .ref 286] _ _
    refine Lb_w (lb_ld rfl rfl rfl ?_)
    refine Lb_w (lb_ias rfl rfl (fun hk => ?_))
    replace h := h (kc_in (x := s4.1 124) rfl hk)
    replace h := h _ rfl
    refine Lb_w (lb_ld rfl rfl rfl ?_)
    refine Lb_w (lb_get rfl rfl ?_)
    change Lb _ _ _ _ _ _ _ [.ref 287] _ _
    refine Lb_w (lb_ld rfl rfl rfl ?_)
    refine Lb_w (lb_get rfl rfl ?_)
    change Lb _ _ _ _ _ _ _ [.int ((sa s4 286 (s4.1 124).toInt.toNat a1).1 124), .ref 287] _ _
    refine Lb_w (lb_c [.int 0, .int ((sa s4 286 (s4.1 124).toInt.toNat a1).1 124), .ref 287] (xo_push (.int 0)) rfl rfl ?_)
    refine Lb_w (lb_ias rfl rfl (fun hk => ?_))
    replace h := h (kc_in (x := (sa s4 286 (s4.1 124).toInt.toNat a1).1 124) rfl hk)
    replace h := h _ rfl
    refine Lb_w (lb_ld rfl rfl rfl ?_)
    refine Lb_w (lb_c [.ref 213, .ref 213] xo_dup rfl rfl ?_)
    refine Lb_w (lb_get rfl rfl ?_)
    change Lb _ _ _ _ _ _ _ [.int ((sa (sa s4 286 (s4.1 124).toInt.toNat a1) 287 ((sa s4 286 (s4.1 124).toInt.toNat a1).1 124).toInt.toNat 0).1 124), .ref 213] _ _
    refine Lb_w (lb_c [.int 1, .int ((sa (sa s4 286 (s4.1 124).toInt.toNat a1) 287 ((sa s4 286 (s4.1 124).toInt.toNat a1).1 124).toInt.toNat 0).1 124), .ref 213] (xo_push (.int 1)) rfl rfl ?_)
    refine Lb_w (lb_ca [.int (((sa (sa s4 286 (s4.1 124).toInt.toNat a1) 287 ((sa s4 286 (s4.1 124).toInt.toNat a1).1 124).toInt.toNat 0).1 124) + 1), .ref 213] xo_iadd rfl rfl (fun _ hk => ?_))
    replace hk := kc_add (x := (sa (sa s4 286 (s4.1 124).toInt.toNat a1) 287 ((sa s4 286 (s4.1 124).toInt.toNat a1).1 124).toInt.toNat 0).1 124) (y := 1) rfl (show (1 : Int32).toInt = 1 by decide) hk
    replace h := h hk _ (i_add (x := (sa (sa s4 286 (s4.1 124).toInt.toNat a1) 287 ((sa s4 286 (s4.1 124).toInt.toNat a1).1 124).toInt.toNat 0).1 124) (y := 1) rfl (show (1 : Int32).toInt = 1 by decide) hk)
    refine Lb_w (lb_put rfl rfl (fun hk => ?_))
    replace h := h _ rfl
    exact Lb_w (lb_ret0 rfl h)
  · replace h := h.2 (fun q => hc ((i_le (x := s.2.1 276 a1.toInt.toNat) (y := a2) rfl rfl).mpr q))
    refine Lb_w (lb_ld rfl rfl rfl ?_)
    refine Lb_w (lb_get rfl rfl ?_)
    change Lb _ _ _ _ _ _ _ [.ref 285] _ _
    refine Lb_w (lb_ld rfl rfl rfl ?_)
    refine Lb_w (lb_ld rfl rfl rfl ?_)
    refine Lb_w (lb_get rfl rfl ?_)
    change Lb _ _ _ _ _ _ _ [.ref 264, .int a2, .ref 285] _ _
    refine Lb_w (lb_ld rfl rfl rfl ?_)
    refine Lb_w (lb_get rfl rfl ?_)
    change Lb _ _ _ _ _ _ _ [.ref 275, .ref 264, .int a2, .ref 285] _ _
    refine Lb_w (lb_ld rfl rfl rfl ?_)
    refine Lb_w (lb_ial rfl rfl (fun hk => ?_))
    change Lb _ _ _ _ _ _ _ [.int (s.2.1 275 a1.toInt.toNat), .ref 264, .int a2, .ref 285] _ _
    replace h := h (kc_in (x := a1) rfl hk)
    refine Lb_w (lb_ld rfl rfl rfl ?_)
    refine Lb_w (lb_ca [.int ((s.2.1 275 a1.toInt.toNat) + a2), .ref 264, .int a2, .ref 285] xo_iadd rfl rfl (fun _ hk => ?_))
    replace hk := kc_add (x := s.2.1 275 a1.toInt.toNat) (y := a2) rfl rfl hk
    replace h := h hk _ (i_add (x := s.2.1 275 a1.toInt.toNat) (y := a2) rfl rfl hk)
    refine Lb_w (lb_ial rfl rfl (fun hk => ?_))
    change Lb _ _ _ _ _ _ _ [.int (s.2.1 264 ((s.2.1 275 a1.toInt.toNat) + a2).toInt.toNat), .int a2, .ref 285] _ _
    replace h := h (kc_in (x := ((s.2.1 275 a1.toInt.toNat) + a2)) rfl hk)
    refine Lb_w (lb_ias rfl rfl (fun hk => ?_))
    replace h := h (kc_in (x := a2) rfl hk)
    replace h := h _ rfl
    refine Lb_w (lb_inc [.ref 213, .int a1, .int (a2 + 1), .null, .null] rfl rfl rfl rfl (fun hk => ?_))
    replace hk := kc_inc (x := a2) (n := 1) rfl hk
    replace h := h hk _ (i_add (x := a2) (y := 1) rfl (show (1 : Int32).toInt = 1 by decide) hk)
    refine Lb_w (lb_go rfl ?_)
    exact r2 a1 (a2 + 1)  (sa s 285 a2.toInt.toNat (s.2.1 264 ((s.2.1 275 a1.toInt.toNat) + a2).toInt.toNat)) h
def ubl_266_2 (T : Nat → List Value → yS → (Option Value → yS → Prop) → Prop)  (a1 : Int32) (a2 : Int32) (s : yS) (P : Option Value → yS → Prop) : Prop :=
  ∃ (I : Int32 → Int32 → yS → Prop), I a1 a2 s ∧ ∀ (a1 : Int32) (a2 : Int32) (s : yS), I a1 a2 s → ub_266_2 T I a1 a2 s P
theorem lkl_266_2 {d N0 : Nat}  {a1 : Int32} {a2 : Int32} {s : yS} {P : Option Value → yS → Prop}  (h : ubl_266_2 (Par d)  a1 a2 s P) : Lb d N0 3 (none) xE_266 (xE_266.drop 2) [.ref 213, .int a1, .int a2, .null, .null] [] s P := by
  obtain ⟨I, h0, h1⟩ := h
  have key : ∀ (m : Nat), m ≤ N0 → ∀ (a1 : Int32) (a2 : Int32) (s : yS), I a1 a2 s → Lb d m 3 (none) xE_266 (xE_266.drop 2) [.ref 213, .int a1, .int a2, .null, .null] [] s P := by
    intro m
    induction m with
    | zero => exact fun _ a1 a2 s _ => Lb_0
    | succ m ih =>
      intro hm
      replace hm : m ≤ N0 := Nat.le_of_succ_le hm
      replace ih := ih hm
      intro a1 a2 s hI
      exact lk_266_2 ih (h1 a1 a2 s hI)
  exact key N0 (Nat.le_refl _) a1 a2 s h0
def ub_266_0 (T : Nat → List Value → yS → (Option Value → yS → Prop) → Prop)  (a1 : Int32) (s : yS) (P : Option Value → yS → Prop) : Prop :=
  ubl_266_2 T  a1 0  s P
set_option maxRecDepth 20000 in
theorem lk_266_0 {d N0 : Nat}  {a1 : Int32} {s : yS} {P : Option Value → yS → Prop}  (h : ub_266_0 (Par d)  a1 s P) : Lb d N0 3 (none) xE_266 (xE_266.drop 0) [.ref 213, .int a1, .null, .null, .null] [] s P := by
  unfold ub_266_0 at h
  refine Lb_w (lb_c [.int 0] (xo_push (.int 0)) rfl rfl ?_)
  refine Lb_w (lb_st [.ref 213, .int a1, .int 0, .null, .null] rfl rfl rfl ?_)
  exact lkl_266_2  h
theorem pb_266 {d : Nat} {a1 : Int32} {s : yS} {P : Option Value → yS → Prop} (h : ub_266_0 (Par d) a1 s P) : Par (d + 1) 266 [.ref 213, .int a1] s P := par_of (E := xE_266) (ml := 3) (ret := none) rfl (fun _ => lk_266_0 h)
/-! sayValue -/
def ub_267_83 (T : Nat → List Value → yS → (Option Value → yS → Prop) → Prop) (R6 : Int32 → yS → Prop) (a1 : Int32) (a2 : Int32) (a3 : Int32) (s : yS) (P : Option Value → yS → Prop) : Prop :=
  R6 a1  s
set_option maxRecDepth 20000 in
theorem lk_267_83 {d N0 : Nat} {R6 : Int32 → yS → Prop} {a1 : Int32} {a2 : Int32} {a3 : Int32} {s : yS} {P : Option Value → yS → Prop} (r6 : ∀ a1 s, R6 a1 s → Lb d N0 4 (none) xE_267 (xE_267.drop 6) [.ref 213, .int a1, .null, .null, .null, .null] [] s P) (h : ub_267_83 (Par d) R6 a1 a2 a3 s P) : Lb d N0 4 (none) xE_267 (xE_267.drop 83) [.ref 213, .int a1, .int a2, .int a3, .null, .null] [] s P := by
  unfold ub_267_83 at h
  refine Lb_w (lb_go rfl ?_)
  refine lb_fg 2 ?_
  refine lb_fg 3 ?_
  exact r6 a1  s h
def ub_267_74 (T : Nat → List Value → yS → (Option Value → yS → Prop) → Prop) (R6 : Int32 → yS → Prop) (a1 : Int32) (a2 : Int32) (a3 : Int32) (s : yS) (P : Option Value → yS → Prop) : Prop :=
  T 261 [.ref 213, .int 125] s (fun v2 s1 => v2 = none ∧ (((-2147483648 ≤ (s1.1 124).toInt - 1 ∧ (s1.1 124).toInt - 1 ≤ 2147483647) → ∀ x3 : Int32, x3.toInt = (s1.1 124).toInt - 1 → ∀ s4, s4 = sf s1 124 x3 → ub_267_83 T R6 a1 a2 a3  s4 P)))
set_option maxRecDepth 20000 in
theorem lk_267_74 {d N0 : Nat} {R6 : Int32 → yS → Prop} {a1 : Int32} {a2 : Int32} {a3 : Int32} {s : yS} {P : Option Value → yS → Prop} (r6 : ∀ a1 s, R6 a1 s → Lb d N0 4 (none) xE_267 (xE_267.drop 6) [.ref 213, .int a1, .null, .null, .null, .null] [] s P) (h : ub_267_74 (Par d) R6 a1 a2 a3 s P) : Lb d N0 4 (none) xE_267 (xE_267.drop 74) [.ref 213, .int a1, .int a2, .int a3, .null, .null] [] s P := by
  unfold ub_267_74 at h
  refine Lb_w (lb_ld rfl rfl rfl ?_)
  refine Lb_w (lb_c [.int 125, .ref 213] (xo_push (.int 125)) rfl rfl ?_)
  refine Lb_w (lb_call [.ref 213, .int 125] [] rfl rfl rfl (Par.imp h (fun v2 s1 h => ?_)))
  obtain ⟨rfl, h⟩ := h
  change Lb _ _ _ _ _ _ _ [] _ _
  refine Lb_w (lb_ld rfl rfl rfl ?_)
  refine Lb_w (lb_c [.ref 213, .ref 213] xo_dup rfl rfl ?_)
  refine Lb_w (lb_get rfl rfl ?_)
  change Lb _ _ _ _ _ _ _ [.int (s1.1 124), .ref 213] _ _
  refine Lb_w (lb_c [.int 1, .int (s1.1 124), .ref 213] (xo_push (.int 1)) rfl rfl ?_)
  refine Lb_w (lb_ca [.int ((s1.1 124) - 1), .ref 213] xo_isub rfl rfl (fun _ hk => ?_))
  replace hk := kc_sub (x := s1.1 124) (y := 1) rfl (show (1 : Int32).toInt = 1 by decide) hk
  replace h := h hk _ (i_sub (x := s1.1 124) (y := 1) rfl (show (1 : Int32).toInt = 1 by decide) hk)
  refine Lb_w (lb_put rfl rfl (fun hk => ?_))
  replace h := h _ rfl
  exact lk_267_83 r6 h
def ub_267_52 (T : Nat → List Value → yS → (Option Value → yS → Prop) → Prop) (R6 : Int32 → yS → Prop) (a1 : Int32) (a2 : Int32) (a3 : Int32) (s : yS) (P : Option Value → yS → Prop) : Prop :=
  ((-2147483648 ≤ (s.1 124).toInt - 1 ∧ (s.1 124).toInt - 1 ≤ 2147483647) → ∀ x1 : Int32, x1.toInt = (s.1 124).toInt - 1 → ((0 ≤ x1.toInt ∧ x1.toInt < 1100) → ((-2147483648 ≤ (s.2.1 287 x1.toInt.toNat).toInt + 1 ∧ (s.2.1 287 x1.toInt.toNat).toInt + 1 ≤ 2147483647) → ∀ x2 : Int32, x2.toInt = (s.2.1 287 x1.toInt.toNat).toInt + 1 → ((0 ≤ x1.toInt ∧ x1.toInt < 1100) → ∀ s3, s3 = sa s 287 x1.toInt.toNat x2 → ((-2147483648 ≤ 6 * a2.toInt ∧ 6 * a2.toInt ≤ 2147483647) → ∀ x4 : Int32, x4.toInt = 6 * a2.toInt → ((-2147483648 ≤ x4.toInt + a3.toInt ∧ x4.toInt + a3.toInt ≤ 2147483647) → ∀ x5 : Int32, x5.toInt = x4.toInt + a3.toInt → ((0 ≤ x5.toInt ∧ x5.toInt < 30600) → T 266 [.ref 213, .int (s3.2.1 277 x5.toInt.toNat)] s3 (fun v7 s6 => v7 = none ∧ (ub_267_83 T R6 a1 a2 a3  s6 P)))))))))
set_option maxRecDepth 20000 in
theorem lk_267_52 {d N0 : Nat} {R6 : Int32 → yS → Prop} {a1 : Int32} {a2 : Int32} {a3 : Int32} {s : yS} {P : Option Value → yS → Prop} (r6 : ∀ a1 s, R6 a1 s → Lb d N0 4 (none) xE_267 (xE_267.drop 6) [.ref 213, .int a1, .null, .null, .null, .null] [] s P) (h : ub_267_52 (Par d) R6 a1 a2 a3 s P) : Lb d N0 4 (none) xE_267 (xE_267.drop 52) [.ref 213, .int a1, .int a2, .int a3, .null, .null] [] s P := by
  unfold ub_267_52 at h
  refine Lb_w (lb_ld rfl rfl rfl ?_)
  refine Lb_w (lb_get rfl rfl ?_)
  change Lb _ _ _ _ _ _ _ [.ref 287] _ _
  refine Lb_w (lb_ld rfl rfl rfl ?_)
  refine Lb_w (lb_get rfl rfl ?_)
  change Lb _ _ _ _ _ _ _ [.int (s.1 124), .ref 287] _ _
  refine Lb_w (lb_c [.int 1, .int (s.1 124), .ref 287] (xo_push (.int 1)) rfl rfl ?_)
  refine Lb_w (lb_ca [.int ((s.1 124) - 1), .ref 287] xo_isub rfl rfl (fun _ hk => ?_))
  replace hk := kc_sub (x := s.1 124) (y := 1) rfl (show (1 : Int32).toInt = 1 by decide) hk
  replace h := h hk _ (i_sub (x := s.1 124) (y := 1) rfl (show (1 : Int32).toInt = 1 by decide) hk)
  refine Lb_w (lb_c [.int ((s.1 124) - 1), .ref 287, .int ((s.1 124) - 1), .ref 287] xo_dup2 rfl rfl ?_)
  refine Lb_w (lb_ial rfl rfl (fun hk => ?_))
  change Lb _ _ _ _ _ _ _ [.int (s.2.1 287 ((s.1 124) - 1).toInt.toNat), .int ((s.1 124) - 1), .ref 287] _ _
  replace h := h (kc_in (x := ((s.1 124) - 1)) rfl hk)
  refine Lb_w (lb_c [.int 1, .int (s.2.1 287 ((s.1 124) - 1).toInt.toNat), .int ((s.1 124) - 1), .ref 287] (xo_push (.int 1)) rfl rfl ?_)
  refine Lb_w (lb_ca [.int ((s.2.1 287 ((s.1 124) - 1).toInt.toNat) + 1), .int ((s.1 124) - 1), .ref 287] xo_iadd rfl rfl (fun _ hk => ?_))
  replace hk := kc_add (x := s.2.1 287 ((s.1 124) - 1).toInt.toNat) (y := 1) rfl (show (1 : Int32).toInt = 1 by decide) hk
  replace h := h hk _ (i_add (x := s.2.1 287 ((s.1 124) - 1).toInt.toNat) (y := 1) rfl (show (1 : Int32).toInt = 1 by decide) hk)
  refine Lb_w (lb_ias rfl rfl (fun hk => ?_))
  replace h := h (kc_in (x := ((s.1 124) - 1)) rfl hk)
  replace h := h _ rfl
  refine Lb_w (lb_ld rfl rfl rfl ?_)
  refine Lb_w (lb_ld rfl rfl rfl ?_)
  refine Lb_w (lb_get rfl rfl ?_)
  change Lb _ _ _ _ _ _ _ [.ref 277, .ref 213] _ _
  refine Lb_w (lb_c [.int 6, .ref 277, .ref 213] (xo_push (.int 6)) rfl rfl ?_)
  refine Lb_w (lb_ld rfl rfl rfl ?_)
  refine Lb_w (lb_ca [.int (6 * a2), .ref 277, .ref 213] xo_imul rfl rfl (fun _ hk => ?_))
  replace hk := kc_mul (x := 6) (y := a2) (show (6 : Int32).toInt = 6 by decide) rfl hk
  replace h := h hk _ (i_mul (x := 6) (y := a2) (show (6 : Int32).toInt = 6 by decide) rfl hk)
  refine Lb_w (lb_ld rfl rfl rfl ?_)
  refine Lb_w (lb_ca [.int ((6 * a2) + a3), .ref 277, .ref 213] xo_iadd rfl rfl (fun _ hk => ?_))
  replace hk := kc_add (x := (6 * a2)) (y := a3) rfl rfl hk
  replace h := h hk _ (i_add (x := (6 * a2)) (y := a3) rfl rfl hk)
  refine Lb_w (lb_ial rfl rfl (fun hk => ?_))
  change Lb _ _ _ _ _ _ _ [.int ((sa s 287 ((s.1 124) - 1).toInt.toNat ((s.2.1 287 ((s.1 124) - 1).toInt.toNat) + 1)).2.1 277 ((6 * a2) + a3).toInt.toNat), .ref 213] _ _
  replace h := h (kc_in (x := ((6 * a2) + a3)) rfl hk)
  refine Lb_w (lb_call [.ref 213, .int ((sa s 287 ((s.1 124) - 1).toInt.toNat ((s.2.1 287 ((s.1 124) - 1).toInt.toNat) + 1)).2.1 277 ((6 * a2) + a3).toInt.toNat)] [] rfl rfl rfl (Par.imp h (fun v7 s6 h => ?_)))
  obtain ⟨rfl, h⟩ := h
  change Lb _ _ _ _ _ _ _ [] _ _
  refine Lb_w (lb_go rfl ?_)
  exact lk_267_83 r6 h
def ub_267_6 (T : Nat → List Value → yS → (Option Value → yS → Prop) → Prop) (R6 : Int32 → yS → Prop) (a1 : Int32) (s : yS) (P : Option Value → yS → Prop) : Prop :=
  ((s.1 124).toInt ≤ 0 → P none s) ∧ (¬ ((s.1 124).toInt ≤ 0) → ((-2147483648 ≤ (s.1 124).toInt - 1 ∧ (s.1 124).toInt - 1 ≤ 2147483647) → ∀ x1 : Int32, x1.toInt = (s.1 124).toInt - 1 → ((0 ≤ x1.toInt ∧ x1.toInt < 1100) → ((-2147483648 ≤ (s.1 124).toInt - 1 ∧ (s.1 124).toInt - 1 ≤ 2147483647) → ∀ x2 : Int32, x2.toInt = (s.1 124).toInt - 1 → ((0 ≤ x2.toInt ∧ x2.toInt < 1100) → ((-2147483648 ≤ 24 * (s.1 29).toInt ∧ 24 * (s.1 29).toInt ≤ 2147483647) → ∀ x3 : Int32, x3.toInt = 24 * (s.1 29).toInt → ((0 ≤ (s.2.1 286 x1.toInt.toNat).toInt ∧ (s.2.1 286 x1.toInt.toNat).toInt < 5100) → ((0 ≤ (s.2.1 275 (s.2.1 286 x1.toInt.toNat).toInt.toNat).toInt ∧ (s.2.1 275 (s.2.1 286 x1.toInt.toNat).toInt.toNat).toInt < 200000) → T 185 [.int (s.2.1 264 (s.2.1 275 (s.2.1 286 x1.toInt.toNat).toInt.toNat).toInt.toNat)] s (fun v5 s4 => ∃ x6, v5 = some (.int x6) ∧ (((-2147483648 ≤ x3.toInt + x6.toInt ∧ x3.toInt + x6.toInt ≤ 2147483647) → ∀ x7 : Int32, x7.toInt = x3.toInt + x6.toInt → ((0 ≤ x7.toInt ∧ x7.toInt < 48) → ((s4.2.1 239 x7.toInt.toNat).toInt ≤ (s.2.1 287 x2.toInt.toNat).toInt → ub_267_74 T R6 a1 (s.2.1 286 x1.toInt.toNat) (s.2.1 287 x2.toInt.toNat)  s4 P) ∧ (¬ ((s4.2.1 239 x7.toInt.toNat).toInt ≤ (s.2.1 287 x2.toInt.toNat).toInt) → (2000 ≤ (s4.1 120).toInt → ub_267_74 T R6 a1 (s.2.1 286 x1.toInt.toNat) (s.2.1 287 x2.toInt.toNat)  s4 P) ∧ (¬ (2000 ≤ (s4.1 120).toInt) → ((s.2.1 287 x2.toInt.toNat).toInt ≤ 0 → ub_267_52 T R6 a1 (s.2.1 286 x1.toInt.toNat) (s.2.1 287 x2.toInt.toNat)  s4 P) ∧ (¬ ((s.2.1 287 x2.toInt.toNat).toInt ≤ 0) → T 261 [.ref 213, .int 44] s4 (fun v9 s8 => v9 = none ∧ (ub_267_52 T R6 a1 (s.2.1 286 x1.toInt.toNat) (s.2.1 287 x2.toInt.toNat)  s8 P)))))))))))))))))
set_option maxRecDepth 20000 in
theorem lk_267_6 {d N0 : Nat} {R6 : Int32 → yS → Prop} {a1 : Int32} {s : yS} {P : Option Value → yS → Prop} (r6 : ∀ a1 s, R6 a1 s → Lb d N0 4 (none) xE_267 (xE_267.drop 6) [.ref 213, .int a1, .null, .null, .null, .null] [] s P) (h : ub_267_6 (Par d) R6 a1 s P) : Lb d (N0 + 1) 4 (none) xE_267 (xE_267.drop 6) [.ref 213, .int a1, .null, .null, .null, .null] [] s P := by
  unfold ub_267_6 at h
  refine lb_ld rfl rfl rfl ?_
  refine Lb_w (lb_get rfl rfl ?_)
  change Lb _ _ _ _ _ _ _ [.int (s.1 124)] _ _
  refine Lb_w (lb_brP rfl rfl ⟨fun hc => ?_, fun hc => ?_⟩)
  · replace h := h.1 ((i_le (x := s.1 124) (y := 0) rfl (show (0 : Int32).toInt = 0 by decide)).mp hc)
    exact Lb_w (lb_ret0 rfl h)
  · replace h := h.2 (fun q => hc ((i_le (x := s.1 124) (y := 0) rfl (show (0 : Int32).toInt = 0 by decide)).mpr q))
    refine Lb_w (lb_ld rfl rfl rfl ?_)
    refine Lb_w (lb_get rfl rfl ?_)
    change Lb _ _ _ _ _ _ _ [.ref 286] _ _
    refine Lb_w (lb_ld rfl rfl rfl ?_)
    refine Lb_w (lb_get rfl rfl ?_)
    change Lb _ _ _ _ _ _ _ [.int (s.1 124), .ref 286] _ _
    refine Lb_w (lb_c [.int 1, .int (s.1 124), .ref 286] (xo_push (.int 1)) rfl rfl ?_)
    refine Lb_w (lb_ca [.int ((s.1 124) - 1), .ref 286] xo_isub rfl rfl (fun _ hk => ?_))
    replace hk := kc_sub (x := s.1 124) (y := 1) rfl (show (1 : Int32).toInt = 1 by decide) hk
    replace h := h hk _ (i_sub (x := s.1 124) (y := 1) rfl (show (1 : Int32).toInt = 1 by decide) hk)
    refine Lb_w (lb_ial rfl rfl (fun hk => ?_))
    change Lb _ _ _ _ _ _ _ [.int (s.2.1 286 ((s.1 124) - 1).toInt.toNat)] _ _
    replace h := h (kc_in (x := ((s.1 124) - 1)) rfl hk)
    refine Lb_w (lb_st [.ref 213, .int a1, .int (s.2.1 286 ((s.1 124) - 1).toInt.toNat), .null, .null, .null] rfl rfl rfl ?_)
    refine Lb_w (lb_ld rfl rfl rfl ?_)
    refine Lb_w (lb_get rfl rfl ?_)
    change Lb _ _ _ _ _ _ _ [.ref 287] _ _
    refine Lb_w (lb_ld rfl rfl rfl ?_)
    refine Lb_w (lb_get rfl rfl ?_)
    change Lb _ _ _ _ _ _ _ [.int (s.1 124), .ref 287] _ _
    refine Lb_w (lb_c [.int 1, .int (s.1 124), .ref 287] (xo_push (.int 1)) rfl rfl ?_)
    refine Lb_w (lb_ca [.int ((s.1 124) - 1), .ref 287] xo_isub rfl rfl (fun _ hk => ?_))
    replace hk := kc_sub (x := s.1 124) (y := 1) rfl (show (1 : Int32).toInt = 1 by decide) hk
    replace h := h hk _ (i_sub (x := s.1 124) (y := 1) rfl (show (1 : Int32).toInt = 1 by decide) hk)
    refine Lb_w (lb_ial rfl rfl (fun hk => ?_))
    change Lb _ _ _ _ _ _ _ [.int (s.2.1 287 ((s.1 124) - 1).toInt.toNat)] _ _
    replace h := h (kc_in (x := ((s.1 124) - 1)) rfl hk)
    refine Lb_w (lb_st [.ref 213, .int a1, .int (s.2.1 286 ((s.1 124) - 1).toInt.toNat), .int (s.2.1 287 ((s.1 124) - 1).toInt.toNat), .null, .null] rfl rfl rfl ?_)
    refine Lb_w (lb_ld rfl rfl rfl ?_)
    refine Lb_w (lb_ld rfl rfl rfl ?_)
    refine Lb_w (lb_get rfl rfl ?_)
    change Lb _ _ _ _ _ _ _ [.ref 239, .int (s.2.1 287 ((s.1 124) - 1).toInt.toNat)] _ _
    refine Lb_w (lb_c [.int 24, .ref 239, .int (s.2.1 287 ((s.1 124) - 1).toInt.toNat)] (xo_push (.int 24)) rfl rfl ?_)
    refine Lb_w (lb_ld rfl rfl rfl ?_)
    refine Lb_w (lb_get rfl rfl ?_)
    change Lb _ _ _ _ _ _ _ [.int (s.1 29), .int 24, .ref 239, .int (s.2.1 287 ((s.1 124) - 1).toInt.toNat)] _ _
    refine Lb_w (lb_ca [.int (24 * (s.1 29)), .ref 239, .int (s.2.1 287 ((s.1 124) - 1).toInt.toNat)] xo_imul rfl rfl (fun _ hk => ?_))
    replace hk := kc_mul (x := 24) (y := s.1 29) (show (24 : Int32).toInt = 24 by decide) rfl hk
    replace h := h hk _ (i_mul (x := 24) (y := s.1 29) (show (24 : Int32).toInt = 24 by decide) rfl hk)
    refine Lb_w (lb_ld rfl rfl rfl ?_)
    refine Lb_w (lb_get rfl rfl ?_)
    change Lb _ _ _ _ _ _ _ [.ref 264, .int (24 * (s.1 29)), .ref 239, .int (s.2.1 287 ((s.1 124) - 1).toInt.toNat)] _ _
    refine Lb_w (lb_ld rfl rfl rfl ?_)
    refine Lb_w (lb_get rfl rfl ?_)
    change Lb _ _ _ _ _ _ _ [.ref 275, .ref 264, .int (24 * (s.1 29)), .ref 239, .int (s.2.1 287 ((s.1 124) - 1).toInt.toNat)] _ _
    refine Lb_w (lb_ld rfl rfl rfl ?_)
    refine Lb_w (lb_ial rfl rfl (fun hk => ?_))
    change Lb _ _ _ _ _ _ _ [.int (s.2.1 275 (s.2.1 286 ((s.1 124) - 1).toInt.toNat).toInt.toNat), .ref 264, .int (24 * (s.1 29)), .ref 239, .int (s.2.1 287 ((s.1 124) - 1).toInt.toNat)] _ _
    replace h := h (kc_in (x := s.2.1 286 ((s.1 124) - 1).toInt.toNat) rfl hk)
    refine Lb_w (lb_ial rfl rfl (fun hk => ?_))
    change Lb _ _ _ _ _ _ _ [.int (s.2.1 264 (s.2.1 275 (s.2.1 286 ((s.1 124) - 1).toInt.toNat).toInt.toNat).toInt.toNat), .int (24 * (s.1 29)), .ref 239, .int (s.2.1 287 ((s.1 124) - 1).toInt.toNat)] _ _
    replace h := h (kc_in (x := s.2.1 275 (s.2.1 286 ((s.1 124) - 1).toInt.toNat).toInt.toNat) rfl hk)
    refine Lb_w (lb_call [.int (s.2.1 264 (s.2.1 275 (s.2.1 286 ((s.1 124) - 1).toInt.toNat).toInt.toNat).toInt.toNat)] [.int (24 * (s.1 29)), .ref 239, .int (s.2.1 287 ((s.1 124) - 1).toInt.toNat)] rfl rfl rfl (Par.imp h (fun v5 s4 h => ?_)))
    obtain ⟨x6, rfl, h⟩ := h
    change Lb _ _ _ _ _ _ _ [.int x6, .int (24 * (s.1 29)), .ref 239, .int (s.2.1 287 ((s.1 124) - 1).toInt.toNat)] _ _
    refine Lb_w (lb_ca [.int ((24 * (s.1 29)) + x6), .ref 239, .int (s.2.1 287 ((s.1 124) - 1).toInt.toNat)] xo_iadd rfl rfl (fun _ hk => ?_))
    replace hk := kc_add (x := (24 * (s.1 29))) (y := x6) rfl rfl hk
    replace h := h hk _ (i_add (x := (24 * (s.1 29))) (y := x6) rfl rfl hk)
    refine Lb_w (lb_ial rfl rfl (fun hk => ?_))
    change Lb _ _ _ _ _ _ _ [.int (s4.2.1 239 ((24 * (s.1 29)) + x6).toInt.toNat), .int (s.2.1 287 ((s.1 124) - 1).toInt.toNat)] _ _
    replace h := h (kc_in (x := ((24 * (s.1 29)) + x6)) rfl hk)
    refine Lb_w (lb_brP rfl rfl ⟨fun hc => ?_, fun hc => ?_⟩)
    · replace h := h.1 ((i_le (x := s4.2.1 239 ((24 * (s.1 29)) + x6).toInt.toNat) (y := s.2.1 287 ((s.1 124) - 1).toInt.toNat) rfl rfl).mp hc)
      exact lk_267_74 r6 h
    · replace h := h.2 (fun q => hc ((i_le (x := s4.2.1 239 ((24 * (s.1 29)) + x6).toInt.toNat) (y := s.2.1 287 ((s.1 124) - 1).toInt.toNat) rfl rfl).mpr q))
      refine Lb_w (lb_ld rfl rfl rfl ?_)
      refine Lb_w (lb_get rfl rfl ?_)
      change Lb _ _ _ _ _ _ _ [.int (s4.1 120)] _ _
      refine Lb_w (lb_c [.int 2000, .int (s4.1 120)] (xo_push (.int 2000)) rfl rfl ?_)
      refine Lb_w (lb_brP rfl rfl ⟨fun hc => ?_, fun hc => ?_⟩)
      · replace h := h.1 ((i_le (x := 2000) (y := s4.1 120) (show (2000 : Int32).toInt = 2000 by decide) rfl).mp hc)
        exact lk_267_74 r6 h
      · replace h := h.2 (fun q => hc ((i_le (x := 2000) (y := s4.1 120) (show (2000 : Int32).toInt = 2000 by decide) rfl).mpr q))
        refine Lb_w (lb_ld rfl rfl rfl ?_)
        refine Lb_w (lb_brP rfl rfl ⟨fun hc => ?_, fun hc => ?_⟩)
        · replace h := h.1 ((i_le (x := s.2.1 287 ((s.1 124) - 1).toInt.toNat) (y := 0) rfl (show (0 : Int32).toInt = 0 by decide)).mp hc)
          exact lk_267_52 r6 h
        · replace h := h.2 (fun q => hc ((i_le (x := s.2.1 287 ((s.1 124) - 1).toInt.toNat) (y := 0) rfl (show (0 : Int32).toInt = 0 by decide)).mpr q))
          refine Lb_w (lb_ld rfl rfl rfl ?_)
          refine Lb_w (lb_c [.int 44, .ref 213] (xo_push (.int 44)) rfl rfl ?_)
          refine Lb_w (lb_call [.ref 213, .int 44] [] rfl rfl rfl (Par.imp h (fun v9 s8 h => ?_)))
          obtain ⟨rfl, h⟩ := h
          change Lb _ _ _ _ _ _ _ [] _ _
          exact lk_267_52 r6 h
def ubl_267_6 (T : Nat → List Value → yS → (Option Value → yS → Prop) → Prop)  (a1 : Int32) (s : yS) (P : Option Value → yS → Prop) : Prop :=
  ∃ (I : Int32 → yS → Prop), I a1 s ∧ ∀ (a1 : Int32) (s : yS), I a1 s → ub_267_6 T I a1 s P
theorem lkl_267_6 {d N0 : Nat}  {a1 : Int32} {s : yS} {P : Option Value → yS → Prop}  (h : ubl_267_6 (Par d)  a1 s P) : Lb d N0 4 (none) xE_267 (xE_267.drop 6) [.ref 213, .int a1, .null, .null, .null, .null] [] s P := by
  obtain ⟨I, h0, h1⟩ := h
  have key : ∀ (m : Nat), m ≤ N0 → ∀ (a1 : Int32) (s : yS), I a1 s → Lb d m 4 (none) xE_267 (xE_267.drop 6) [.ref 213, .int a1, .null, .null, .null, .null] [] s P := by
    intro m
    induction m with
    | zero => exact fun _ a1 s _ => Lb_0
    | succ m ih =>
      intro hm
      replace hm : m ≤ N0 := Nat.le_of_succ_le hm
      replace ih := ih hm
      intro a1 s hI
      exact lk_267_6 ih (h1 a1 s hI)
  exact key N0 (Nat.le_refl _) a1 s h0
def ub_267_0 (T : Nat → List Value → yS → (Option Value → yS → Prop) → Prop)  (a1 : Int32) (s : yS) (P : Option Value → yS → Prop) : Prop :=
  ∀ s1, s1 = sf s 124 0 → T 266 [.ref 213, .int a1] s1 (fun v3 s2 => v3 = none ∧ (ubl_267_6 T  a1  s2 P))
set_option maxRecDepth 20000 in
theorem lk_267_0 {d N0 : Nat}  {a1 : Int32} {s : yS} {P : Option Value → yS → Prop}  (h : ub_267_0 (Par d)  a1 s P) : Lb d N0 4 (none) xE_267 (xE_267.drop 0) [.ref 213, .int a1, .null, .null, .null, .null] [] s P := by
  unfold ub_267_0 at h
  refine Lb_w (lb_ld rfl rfl rfl ?_)
  refine Lb_w (lb_c [.int 0, .ref 213] (xo_push (.int 0)) rfl rfl ?_)
  refine Lb_w (lb_put rfl rfl (fun hk => ?_))
  replace h := h _ rfl
  refine Lb_w (lb_ld rfl rfl rfl ?_)
  refine Lb_w (lb_ld rfl rfl rfl ?_)
  refine Lb_w (lb_call [.ref 213, .int a1] [] rfl rfl rfl (Par.imp h (fun v3 s2 h => ?_)))
  obtain ⟨rfl, h⟩ := h
  change Lb _ _ _ _ _ _ _ [] _ _
  exact lkl_267_6  h
theorem pb_267 {d : Nat} {a1 : Int32} {s : yS} {P : Option Value → yS → Prop} (h : ub_267_0 (Par d) a1 s P) : Par (d + 1) 267 [.ref 213, .int a1] s P := par_of (E := xE_267) (ml := 4) (ret := none) rfl (fun _ => lk_267_0 h)
/-! print -/
def ub_268_34 (T : Nat → List Value → yS → (Option Value → yS → Prop) → Prop) (R34 : Int32 → Int32 → yS → Prop) (a1 : Int32) (a2 : Int32) (s : yS) (P : Option Value → yS → Prop) : Prop :=
  ((0 ≤ (s.1 29).toInt ∧ (s.1 29).toInt < 2) → ((s.2.1 274 (s.1 29).toInt.toNat).toInt ≤ a2.toInt → T 265 [.ref 213, .int 0] s (fun v2 s1 => ∃ x3, v2 = some (.int x3) ∧ (P (some (.int (s1.1 120))) s1))) ∧ (¬ ((s.2.1 274 (s.1 29).toInt.toNat).toInt ≤ a2.toInt) → ((-2147483648 ≤ 60 * (s.1 29).toInt ∧ 60 * (s.1 29).toInt ≤ 2147483647) → ∀ x4 : Int32, x4.toInt = 60 * (s.1 29).toInt → ((-2147483648 ≤ x4.toInt + a2.toInt ∧ x4.toInt + a2.toInt ≤ 2147483647) → ∀ x5 : Int32, x5.toInt = x4.toInt + a2.toInt → ((0 ≤ x5.toInt ∧ x5.toInt < 120) → ((0 ≤ a2.toInt ∧ a2.toInt < 60) → ∀ s6, s6 = sa s 285 a2.toInt.toNat (s.2.1 273 x5.toInt.toNat) → ((-2147483648 ≤ a2.toInt + 1 ∧ a2.toInt + 1 ≤ 2147483647) → ∀ x7 : Int32, x7.toInt = a2.toInt + 1 → R34 a1 x7  s6)))))))
set_option maxRecDepth 20000 in
theorem lk_268_34 {d N0 : Nat} {R34 : Int32 → Int32 → yS → Prop} {a1 : Int32} {a2 : Int32} {s : yS} {P : Option Value → yS → Prop} (r34 : ∀ a1 a2 s, R34 a1 a2 s → Lb d N0 3 (some .int) xE_268 (xE_268.drop 34) [.ref 213, .int a1, .int a2, .null, .null] [] s P) (h : ub_268_34 (Par d) R34 a1 a2 s P) : Lb d (N0 + 1) 3 (some .int) xE_268 (xE_268.drop 34) [.ref 213, .int a1, .int a2, .null, .null] [] s P := by
  unfold ub_268_34 at h
  refine lb_ld rfl rfl rfl ?_
  refine Lb_w (lb_ld rfl rfl rfl ?_)
  refine Lb_w (lb_get rfl rfl ?_)
  change Lb _ _ _ _ _ _ _ [.ref 274, .int a2] _ _
  refine Lb_w (lb_ld rfl rfl rfl ?_)
  refine Lb_w (lb_get rfl rfl ?_)
  change Lb _ _ _ _ _ _ _ [.int (s.1 29), .ref 274, .int a2] _ _
  refine Lb_w (lb_ial rfl rfl (fun hk => ?_))
  change Lb _ _ _ _ _ _ _ [.int (s.2.1 274 (s.1 29).toInt.toNat), .int a2] _ _
  replace h := h (kc_in (x := s.1 29) rfl hk)
  refine Lb_w (lb_brP rfl rfl ⟨fun hc => ?_, fun hc => ?_⟩)
  · replace h := h.1 ((i_le (x := s.2.1 274 (s.1 29).toInt.toNat) (y := a2) rfl rfl).mp hc)
    refine Lb_w (lb_ld rfl rfl rfl ?_)
    refine Lb_w (lb_c [.int 0, .ref 213] (xo_push (.int 0)) rfl rfl ?_)
    refine Lb_w (lb_call [.ref 213, .int 0] [] rfl rfl rfl (Par.imp h (fun v2 s1 h => ?_)))
    obtain ⟨x3, rfl, h⟩ := h
    change Lb _ _ _ _ _ _ _ [.int x3] _ _
    refine Lb_w (lb_st [.ref 213, .int a1, .int x3, .null, .null] rfl rfl rfl ?_)
    refine Lb_w (lb_ld rfl rfl rfl ?_)
    refine Lb_w (lb_get rfl rfl ?_)
    change Lb _ _ _ _ _ _ _ [.int (s1.1 120)] _ _
    exact Lb_w (lb_retI rfl h)
  · replace h := h.2 (fun q => hc ((i_le (x := s.2.1 274 (s.1 29).toInt.toNat) (y := a2) rfl rfl).mpr q))
    refine Lb_w (lb_ld rfl rfl rfl ?_)
    refine Lb_w (lb_get rfl rfl ?_)
    change Lb _ _ _ _ _ _ _ [.ref 285] _ _
    refine Lb_w (lb_ld rfl rfl rfl ?_)
    refine Lb_w (lb_ld rfl rfl rfl ?_)
    refine Lb_w (lb_get rfl rfl ?_)
    change Lb _ _ _ _ _ _ _ [.ref 273, .int a2, .ref 285] _ _
    refine Lb_w (lb_c [.int 60, .ref 273, .int a2, .ref 285] (xo_push (.int 60)) rfl rfl ?_)
    refine Lb_w (lb_ld rfl rfl rfl ?_)
    refine Lb_w (lb_get rfl rfl ?_)
    change Lb _ _ _ _ _ _ _ [.int (s.1 29), .int 60, .ref 273, .int a2, .ref 285] _ _
    refine Lb_w (lb_ca [.int (60 * (s.1 29)), .ref 273, .int a2, .ref 285] xo_imul rfl rfl (fun _ hk => ?_))
    replace hk := kc_mul (x := 60) (y := s.1 29) (show (60 : Int32).toInt = 60 by decide) rfl hk
    replace h := h hk _ (i_mul (x := 60) (y := s.1 29) (show (60 : Int32).toInt = 60 by decide) rfl hk)
    refine Lb_w (lb_ld rfl rfl rfl ?_)
    refine Lb_w (lb_ca [.int ((60 * (s.1 29)) + a2), .ref 273, .int a2, .ref 285] xo_iadd rfl rfl (fun _ hk => ?_))
    replace hk := kc_add (x := (60 * (s.1 29))) (y := a2) rfl rfl hk
    replace h := h hk _ (i_add (x := (60 * (s.1 29))) (y := a2) rfl rfl hk)
    refine Lb_w (lb_ial rfl rfl (fun hk => ?_))
    change Lb _ _ _ _ _ _ _ [.int (s.2.1 273 ((60 * (s.1 29)) + a2).toInt.toNat), .int a2, .ref 285] _ _
    replace h := h (kc_in (x := ((60 * (s.1 29)) + a2)) rfl hk)
    refine Lb_w (lb_ias rfl rfl (fun hk => ?_))
    replace h := h (kc_in (x := a2) rfl hk)
    replace h := h _ rfl
    refine Lb_w (lb_inc [.ref 213, .int a1, .int (a2 + 1), .null, .null] rfl rfl rfl rfl (fun hk => ?_))
    replace hk := kc_inc (x := a2) (n := 1) rfl hk
    replace h := h hk _ (i_add (x := a2) (y := 1) rfl (show (1 : Int32).toInt = 1 by decide) hk)
    refine Lb_w (lb_go rfl ?_)
    exact r34 a1 (a2 + 1)  (sa s 285 a2.toInt.toNat (s.2.1 273 ((60 * (s.1 29)) + a2).toInt.toNat)) h
def ubl_268_34 (T : Nat → List Value → yS → (Option Value → yS → Prop) → Prop)  (a1 : Int32) (a2 : Int32) (s : yS) (P : Option Value → yS → Prop) : Prop :=
  ∃ (I : Int32 → Int32 → yS → Prop), I a1 a2 s ∧ ∀ (a1 : Int32) (a2 : Int32) (s : yS), I a1 a2 s → ub_268_34 T I a1 a2 s P
theorem lkl_268_34 {d N0 : Nat}  {a1 : Int32} {a2 : Int32} {s : yS} {P : Option Value → yS → Prop}  (h : ubl_268_34 (Par d)  a1 a2 s P) : Lb d N0 3 (some .int) xE_268 (xE_268.drop 34) [.ref 213, .int a1, .int a2, .null, .null] [] s P := by
  obtain ⟨I, h0, h1⟩ := h
  have key : ∀ (m : Nat), m ≤ N0 → ∀ (a1 : Int32) (a2 : Int32) (s : yS), I a1 a2 s → Lb d m 3 (some .int) xE_268 (xE_268.drop 34) [.ref 213, .int a1, .int a2, .null, .null] [] s P := by
    intro m
    induction m with
    | zero => exact fun _ a1 a2 s _ => Lb_0
    | succ m ih =>
      intro hm
      replace hm : m ≤ N0 := Nat.le_of_succ_le hm
      replace ih := ih hm
      intro a1 a2 s hI
      exact lk_268_34 ih (h1 a1 a2 s hI)
  exact key N0 (Nat.le_refl _) a1 a2 s h0
def ub_268_19 (T : Nat → List Value → yS → (Option Value → yS → Prop) → Prop)  (a1 : Int32) (s : yS) (P : Option Value → yS → Prop) : Prop :=
  ∀ s1, s1 = sf s 120 0 → (¬ (a1.toInt = 1) → ubl_268_34 T  a1 0  s1 P) ∧ (a1.toInt = 1 → T 267 [.ref 213, .int (s1.1 103)] s1 (fun v3 s2 => v3 = none ∧ (P (some (.int (s2.1 120))) s2)))
set_option maxRecDepth 20000 in
theorem lk_268_19 {d N0 : Nat}  {a1 : Int32} {s : yS} {P : Option Value → yS → Prop}  (h : ub_268_19 (Par d)  a1 s P) : Lb d N0 3 (some .int) xE_268 (xE_268.drop 19) [.ref 213, .int a1, .null, .null, .null] [] s P := by
  unfold ub_268_19 at h
  refine Lb_w (lb_ld rfl rfl rfl ?_)
  refine Lb_w (lb_c [.int 0, .ref 213] (xo_push (.int 0)) rfl rfl ?_)
  refine Lb_w (lb_put rfl rfl (fun hk => ?_))
  replace h := h _ rfl
  refine Lb_w (lb_ld rfl rfl rfl ?_)
  refine Lb_w (lb_c [.int 1, .int a1] (xo_push (.int 1)) rfl rfl ?_)
  refine Lb_w (lb_brN rfl rfl ⟨fun hc => ?_, fun hc => ?_⟩)
  · replace h := h.1 (fun q => hc ((i_eq (x := a1) (y := 1) rfl (show (1 : Int32).toInt = 1 by decide)).mpr q))
    refine Lb_w (lb_c [.int 0] (xo_push (.int 0)) rfl rfl ?_)
    refine Lb_w (lb_st [.ref 213, .int a1, .int 0, .null, .null] rfl rfl rfl ?_)
    exact lkl_268_34  h
  · replace h := h.2 ((i_eq (x := a1) (y := 1) rfl (show (1 : Int32).toInt = 1 by decide)).mp hc)
    refine Lb_w (lb_ld rfl rfl rfl ?_)
    refine Lb_w (lb_ld rfl rfl rfl ?_)
    refine Lb_w (lb_get rfl rfl ?_)
    change Lb _ _ _ _ _ _ _ [.int ((sf s 120 0).1 103), .ref 213] _ _
    refine Lb_w (lb_call [.ref 213, .int ((sf s 120 0).1 103)] [] rfl rfl rfl (Par.imp h (fun v3 s2 h => ?_)))
    obtain ⟨rfl, h⟩ := h
    change Lb _ _ _ _ _ _ _ [] _ _
    refine Lb_w (lb_ld rfl rfl rfl ?_)
    refine Lb_w (lb_get rfl rfl ?_)
    change Lb _ _ _ _ _ _ _ [.int (s2.1 120)] _ _
    exact Lb_w (lb_retI rfl h)
def ub_268_17 (T : Nat → List Value → yS → (Option Value → yS → Prop) → Prop)  (a1 : Int32) (s : yS) (P : Option Value → yS → Prop) : Prop :=
  P (some (.int (-1))) s
set_option maxRecDepth 20000 in
theorem lk_268_17 {d N0 : Nat}  {a1 : Int32} {s : yS} {P : Option Value → yS → Prop}  (h : ub_268_17 (Par d)  a1 s P) : Lb d N0 3 (some .int) xE_268 (xE_268.drop 17) [.ref 213, .int a1, .null, .null, .null] [] s P := by
  unfold ub_268_17 at h
  refine Lb_w (lb_c [.int (-1)] (xo_push (.int (-1))) rfl rfl ?_)
  exact Lb_w (lb_retI rfl h)
def ub_268_0 (T : Nat → List Value → yS → (Option Value → yS → Prop) → Prop)  (a1 : Int32) (s : yS) (P : Option Value → yS → Prop) : Prop :=
  ∀ s1, s1 = sf s 0 0 → ((s1.1 90).toInt = 0 → ub_268_17 T  a1  s1 P) ∧ (¬ ((s1.1 90).toInt = 0) → (a1.toInt < 0 → ub_268_17 T  a1  s1 P) ∧ (¬ (a1.toInt < 0) → (1 < a1.toInt → ub_268_17 T  a1  s1 P) ∧ (¬ (1 < a1.toInt) → (¬ (a1.toInt = 1) → ub_268_19 T  a1  s1 P) ∧ (a1.toInt = 1 → ((s1.1 91).toInt = 0 → ub_268_19 T  a1  s1 P) ∧ (¬ ((s1.1 91).toInt = 0) → ub_268_17 T  a1  s1 P)))))
set_option maxRecDepth 20000 in
theorem lk_268_0 {d N0 : Nat}  {a1 : Int32} {s : yS} {P : Option Value → yS → Prop}  (h : ub_268_0 (Par d)  a1 s P) : Lb d N0 3 (some .int) xE_268 (xE_268.drop 0) [.ref 213, .int a1, .null, .null, .null] [] s P := by
  unfold ub_268_0 at h
  refine Lb_w (lb_ld rfl rfl rfl ?_)
  refine Lb_w (lb_c [.int 0, .ref 213] (xo_push (.int 0)) rfl rfl ?_)
  refine Lb_w (lb_put rfl rfl (fun hk => ?_))
  replace h := h _ rfl
  refine Lb_w (lb_ld rfl rfl rfl ?_)
  refine Lb_w (lb_get rfl rfl ?_)
  change Lb _ _ _ _ _ _ _ [.int ((sf s 0 0).1 90)] _ _
  refine Lb_w (lb_brP rfl rfl ⟨fun hc => ?_, fun hc => ?_⟩)
  · replace h := h.1 ((i_eq (x := (sf s 0 0).1 90) (y := 0) rfl (show (0 : Int32).toInt = 0 by decide)).mp hc)
    exact lk_268_17  h
  · replace h := h.2 (fun q => hc ((i_eq (x := (sf s 0 0).1 90) (y := 0) rfl (show (0 : Int32).toInt = 0 by decide)).mpr q))
    refine Lb_w (lb_ld rfl rfl rfl ?_)
    refine Lb_w (lb_brP rfl rfl ⟨fun hc => ?_, fun hc => ?_⟩)
    · replace h := h.1 ((i_lt (x := a1) (y := 0) rfl (show (0 : Int32).toInt = 0 by decide)).mp hc)
      exact lk_268_17  h
    · replace h := h.2 (fun q => hc ((i_lt (x := a1) (y := 0) rfl (show (0 : Int32).toInt = 0 by decide)).mpr q))
      refine Lb_w (lb_ld rfl rfl rfl ?_)
      refine Lb_w (lb_c [.int 1, .int a1] (xo_push (.int 1)) rfl rfl ?_)
      refine Lb_w (lb_brP rfl rfl ⟨fun hc => ?_, fun hc => ?_⟩)
      · replace h := h.1 ((i_lt (x := 1) (y := a1) (show (1 : Int32).toInt = 1 by decide) rfl).mp hc)
        exact lk_268_17  h
      · replace h := h.2 (fun q => hc ((i_lt (x := 1) (y := a1) (show (1 : Int32).toInt = 1 by decide) rfl).mpr q))
        refine Lb_w (lb_ld rfl rfl rfl ?_)
        refine Lb_w (lb_c [.int 1, .int a1] (xo_push (.int 1)) rfl rfl ?_)
        refine Lb_w (lb_brN rfl rfl ⟨fun hc => ?_, fun hc => ?_⟩)
        · replace h := h.1 (fun q => hc ((i_eq (x := a1) (y := 1) rfl (show (1 : Int32).toInt = 1 by decide)).mpr q))
          exact lk_268_19  h
        · replace h := h.2 ((i_eq (x := a1) (y := 1) rfl (show (1 : Int32).toInt = 1 by decide)).mp hc)
          refine Lb_w (lb_ld rfl rfl rfl ?_)
          refine Lb_w (lb_get rfl rfl ?_)
          change Lb _ _ _ _ _ _ _ [.int ((sf s 0 0).1 91)] _ _
          refine Lb_w (lb_brP rfl rfl ⟨fun hc => ?_, fun hc => ?_⟩)
          · replace h := h.1 ((i_eq (x := (sf s 0 0).1 91) (y := 0) rfl (show (0 : Int32).toInt = 0 by decide)).mp hc)
            exact lk_268_19  h
          · replace h := h.2 (fun q => hc ((i_eq (x := (sf s 0 0).1 91) (y := 0) rfl (show (0 : Int32).toInt = 0 by decide)).mpr q))
            exact lk_268_17  h
theorem pb_268 {d : Nat} {a1 : Int32} {s : yS} {P : Option Value → yS → Prop} (h : ub_268_0 (Par d) a1 s P) : Par (d + 1) 268 [.ref 213, .int a1] s P := par_of (E := xE_268) (ml := 3) (ret := some .int) rfl (fun _ => lk_268_0 h)
