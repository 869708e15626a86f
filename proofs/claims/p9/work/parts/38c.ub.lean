/-! isSame -/
def ub_187_33 (T : Nat → List Value → yS → (Option Value → yS → Prop) → Prop)  (a1 : Int32) (a2 : Int32) (a3 : Int32) (a4 : Int32) (a5 : Int32) (a6 : Int32) (s : yS) (P : Option Value → yS → Prop) : Prop :=
  ((a5.toInt = 0 ∨ a5.toInt = 1) → P (some (.int a5)) s)
set_option maxRecDepth 20000 in
theorem lk_187_33 {d N0 : Nat}  {a1 : Int32} {a2 : Int32} {a3 : Int32} {a4 : Int32} {a5 : Int32} {a6 : Int32} {s : yS} {P : Option Value → yS → Prop}  (h : ub_187_33 (Par d)  a1 a2 a3 a4 a5 a6 s P) : Lb d N0 7 (some .boolean) xE_187 (xE_187.drop 33) [.ref 213, .int a1, .int a2, .int a3, .int a4, .int a5, .int a6, .null, .null, .null, .null, .null] [] s P := by
  unfold ub_187_33 at h
  refine Lb_w (lb_ld rfl rfl rfl ?_)
  exact Lb_w (lb_retZ rfl (fun hk => h (kc_z (x := a5) rfl hk)))
def ub_187_30 (T : Nat → List Value → yS → (Option Value → yS → Prop) → Prop) (R9 : Int32 → Int32 → Int32 → Int32 → Int32 → Int32 → yS → Prop) (a1 : Int32) (a2 : Int32) (a3 : Int32) (a4 : Int32) (a5 : Int32) (a6 : Int32) (t0 : Int32) (s : yS) (P : Option Value → yS → Prop) : Prop :=
  ((-2147483648 ≤ a6.toInt + 1 ∧ a6.toInt + 1 ≤ 2147483647) → ∀ x1 : Int32, x1.toInt = a6.toInt + 1 → R9 a1 a2 a3 a4 t0 x1  s)
set_option maxRecDepth 20000 in
theorem lk_187_30 {d N0 : Nat} {R9 : Int32 → Int32 → Int32 → Int32 → Int32 → Int32 → yS → Prop} {a1 : Int32} {a2 : Int32} {a3 : Int32} {a4 : Int32} {a5 : Int32} {a6 : Int32} {t0 : Int32} {s : yS} {P : Option Value → yS → Prop} (r9 : ∀ a1 a2 a3 a4 a5 a6 s, R9 a1 a2 a3 a4 a5 a6 s → Lb d N0 7 (some .boolean) xE_187 (xE_187.drop 9) [.ref 213, .int a1, .int a2, .int a3, .int a4, .int a5, .int a6, .null, .null, .null, .null, .null] [] s P) (h : ub_187_30 (Par d) R9 a1 a2 a3 a4 a5 a6 t0 s P) : Lb d N0 7 (some .boolean) xE_187 (xE_187.drop 30) [.ref 213, .int a1, .int a2, .int a3, .int a4, .int a5, .int a6, .null, .null, .null, .null, .null] [.int t0] s P := by
  unfold ub_187_30 at h
  refine Lb_w (lb_st [.ref 213, .int a1, .int a2, .int a3, .int a4, .int t0, .int a6, .null, .null, .null, .null, .null] rfl rfl rfl ?_)
  refine Lb_w (lb_inc [.ref 213, .int a1, .int a2, .int a3, .int a4, .int t0, .int (a6 + 1), .null, .null, .null, .null, .null] rfl rfl rfl rfl (fun hk => ?_))
  replace hk := kc_inc (x := a6) (n := 1) rfl hk
  replace h := h hk _ (i_add (x := a6) (y := 1) rfl (show (1 : Int32).toInt = 1 by decide) hk)
  refine Lb_w (lb_go rfl ?_)
  exact r9 a1 a2 a3 a4 t0 (a6 + 1)  s h
def ub_187_9 (T : Nat → List Value → yS → (Option Value → yS → Prop) → Prop) (R9 : Int32 → Int32 → Int32 → Int32 → Int32 → Int32 → yS → Prop) (a1 : Int32) (a2 : Int32) (a3 : Int32) (a4 : Int32) (a5 : Int32) (a6 : Int32) (s : yS) (P : Option Value → yS → Prop) : Prop :=
  (a2.toInt ≤ a6.toInt → ub_187_33 T  a1 a2 a3 a4 a5 a6  s P) ∧ (¬ (a2.toInt ≤ a6.toInt) → (a5.toInt = 0 → ub_187_33 T  a1 a2 a3 a4 a5 a6  s P) ∧ (¬ (a5.toInt = 0) → ((-2147483648 ≤ a1.toInt + a6.toInt ∧ a1.toInt + a6.toInt ≤ 2147483647) → ∀ x1 : Int32, x1.toInt = a1.toInt + a6.toInt → ((0 ≤ x1.toInt ∧ x1.toInt < 200000) → ((-2147483648 ≤ a3.toInt + a6.toInt ∧ a3.toInt + a6.toInt ≤ 2147483647) → ∀ x2 : Int32, x2.toInt = a3.toInt + a6.toInt → ((0 ≤ x2.toInt ∧ x2.toInt < 200000) → (¬ ((s.2.1 264 x1.toInt.toNat).toInt = (s.2.1 264 x2.toInt.toNat).toInt) → ub_187_30 T R9 a1 a2 a3 a4 a5 a6 0 s P) ∧ ((s.2.1 264 x1.toInt.toNat).toInt = (s.2.1 264 x2.toInt.toNat).toInt → ub_187_30 T R9 a1 a2 a3 a4 a5 a6 1 s P)))))))
set_option maxRecDepth 20000 in
theorem lk_187_9 {d N0 : Nat} {R9 : Int32 → Int32 → Int32 → Int32 → Int32 → Int32 → yS → Prop} {a1 : Int32} {a2 : Int32} {a3 : Int32} {a4 : Int32} {a5 : Int32} {a6 : Int32} {s : yS} {P : Option Value → yS → Prop} (r9 : ∀ a1 a2 a3 a4 a5 a6 s, R9 a1 a2 a3 a4 a5 a6 s → Lb d N0 7 (some .boolean) xE_187 (xE_187.drop 9) [.ref 213, .int a1, .int a2, .int a3, .int a4, .int a5, .int a6, .null, .null, .null, .null, .null] [] s P) (h : ub_187_9 (Par d) R9 a1 a2 a3 a4 a5 a6 s P) : Lb d (N0 + 1) 7 (some .boolean) xE_187 (xE_187.drop 9) [.ref 213, .int a1, .int a2, .int a3, .int a4, .int a5, .int a6, .null, .null, .null, .null, .null] [] s P := by
  unfold ub_187_9 at h
  refine lb_ld rfl rfl rfl ?_
  refine Lb_w (lb_ld rfl rfl rfl ?_)
  refine Lb_w (lb_brP rfl rfl ⟨fun hc => ?_, fun hc => ?_⟩)
  · replace h := h.1 ((i_le (x := a2) (y := a6) rfl rfl).mp hc)
    exact lk_187_33  h
  · replace h := h.2 (fun q => hc ((i_le (x := a2) (y := a6) rfl rfl).mpr q))
    refine Lb_w (lb_ld rfl rfl rfl ?_)
    refine Lb_w (lb_brP rfl rfl ⟨fun hc => ?_, fun hc => ?_⟩)
    · replace h := h.1 ((i_eq (x := a5) (y := 0) rfl (show (0 : Int32).toInt = 0 by decide)).mp hc)
      exact lk_187_33  h
    · replace h := h.2 (fun q => hc ((i_eq (x := a5) (y := 0) rfl (show (0 : Int32).toInt = 0 by decide)).mpr q))
      refine Lb_w (lb_ld rfl rfl rfl ?_)
      refine Lb_w (lb_get rfl rfl ?_)
      change Lb _ _ _ _ _ _ _ [.ref 264] _ _
      refine Lb_w (lb_ld rfl rfl rfl ?_)
      refine Lb_w (lb_ld rfl rfl rfl ?_)
      refine Lb_w (lb_ca [.int (a1 + a6), .ref 264] xo_iadd rfl rfl (fun _ hk => ?_))
      replace hk := kc_add (x := a1) (y := a6) rfl rfl hk
      replace h := h hk _ (i_add (x := a1) (y := a6) rfl rfl hk)
      refine Lb_w (lb_ial rfl rfl (fun hk => ?_))
      change Lb _ _ _ _ _ _ _ [.int (s.2.1 264 (a1 + a6).toInt.toNat)] _ _
      replace h := h (kc_in (x := (a1 + a6)) rfl hk)
      refine Lb_w (lb_ld rfl rfl rfl ?_)
      refine Lb_w (lb_get rfl rfl ?_)
      change Lb _ _ _ _ _ _ _ [.ref 264, .int (s.2.1 264 (a1 + a6).toInt.toNat)] _ _
      refine Lb_w (lb_ld rfl rfl rfl ?_)
      refine Lb_w (lb_ld rfl rfl rfl ?_)
      refine Lb_w (lb_ca [.int (a3 + a6), .ref 264, .int (s.2.1 264 (a1 + a6).toInt.toNat)] xo_iadd rfl rfl (fun _ hk => ?_))
      replace hk := kc_add (x := a3) (y := a6) rfl rfl hk
      replace h := h hk _ (i_add (x := a3) (y := a6) rfl rfl hk)
      refine Lb_w (lb_ial rfl rfl (fun hk => ?_))
      change Lb _ _ _ _ _ _ _ [.int (s.2.1 264 (a3 + a6).toInt.toNat), .int (s.2.1 264 (a1 + a6).toInt.toNat)] _ _
      replace h := h (kc_in (x := (a3 + a6)) rfl hk)
      refine Lb_w (lb_brN rfl rfl ⟨fun hc => ?_, fun hc => ?_⟩)
      · replace h := h.1 (fun q => hc ((i_eq (x := s.2.1 264 (a1 + a6).toInt.toNat) (y := s.2.1 264 (a3 + a6).toInt.toNat) rfl rfl).mpr q))
        refine Lb_w (lb_c [.int 0] (xo_push (.int 0)) rfl rfl ?_)
        exact lk_187_30 r9 h
      · replace h := h.2 ((i_eq (x := s.2.1 264 (a1 + a6).toInt.toNat) (y := s.2.1 264 (a3 + a6).toInt.toNat) rfl rfl).mp hc)
        refine Lb_w (lb_c [.int 1] (xo_push (.int 1)) rfl rfl ?_)
        refine Lb_w (lb_go rfl ?_)
        exact lk_187_30 r9 h
def ubl_187_9 (T : Nat → List Value → yS → (Option Value → yS → Prop) → Prop)  (a1 : Int32) (a2 : Int32) (a3 : Int32) (a4 : Int32) (a5 : Int32) (a6 : Int32) (s : yS) (P : Option Value → yS → Prop) : Prop :=
  ∃ (I : Int32 → Int32 → Int32 → Int32 → Int32 → Int32 → yS → Prop), I a1 a2 a3 a4 a5 a6 s ∧ ∀ (a1 : Int32) (a2 : Int32) (a3 : Int32) (a4 : Int32) (a5 : Int32) (a6 : Int32) (s : yS), I a1 a2 a3 a4 a5 a6 s → ub_187_9 T I a1 a2 a3 a4 a5 a6 s P
theorem lkl_187_9 {d N0 : Nat}  {a1 : Int32} {a2 : Int32} {a3 : Int32} {a4 : Int32} {a5 : Int32} {a6 : Int32} {s : yS} {P : Option Value → yS → Prop}  (h : ubl_187_9 (Par d)  a1 a2 a3 a4 a5 a6 s P) : Lb d N0 7 (some .boolean) xE_187 (xE_187.drop 9) [.ref 213, .int a1, .int a2, .int a3, .int a4, .int a5, .int a6, .null, .null, .null, .null, .null] [] s P := by
  obtain ⟨I, h0, h1⟩ := h
  have key : ∀ (m : Nat), m ≤ N0 → ∀ (a1 : Int32) (a2 : Int32) (a3 : Int32) (a4 : Int32) (a5 : Int32) (a6 : Int32) (s : yS), I a1 a2 a3 a4 a5 a6 s → Lb d m 7 (some .boolean) xE_187 (xE_187.drop 9) [.ref 213, .int a1, .int a2, .int a3, .int a4, .int a5, .int a6, .null, .null, .null, .null, .null] [] s P := by
    intro m
    induction m with
    | zero => exact fun _ a1 a2 a3 a4 a5 a6 s _ => Lb_0
    | succ m ih =>
      intro hm
      replace hm : m ≤ N0 := Nat.le_of_succ_le hm
      replace ih := ih hm
      intro a1 a2 a3 a4 a5 a6 s hI
      exact lk_187_9 ih (h1 a1 a2 a3 a4 a5 a6 s hI)
  exact key N0 (Nat.le_refl _) a1 a2 a3 a4 a5 a6 s h0
def ub_187_6 (T : Nat → List Value → yS → (Option Value → yS → Prop) → Prop)  (a1 : Int32) (a2 : Int32) (a3 : Int32) (a4 : Int32) (t0 : Int32) (s : yS) (P : Option Value → yS → Prop) : Prop :=
  ubl_187_9 T  a1 a2 a3 a4 t0 0  s P
set_option maxRecDepth 20000 in
theorem lk_187_6 {d N0 : Nat}  {a1 : Int32} {a2 : Int32} {a3 : Int32} {a4 : Int32} {t0 : Int32} {s : yS} {P : Option Value → yS → Prop}  (h : ub_187_6 (Par d)  a1 a2 a3 a4 t0 s P) : Lb d N0 7 (some .boolean) xE_187 (xE_187.drop 6) [.ref 213, .int a1, .int a2, .int a3, .int a4, .null, .null, .null, .null, .null, .null, .null] [.int t0] s P := by
  unfold ub_187_6 at h
  refine Lb_w (lb_st [.ref 213, .int a1, .int a2, .int a3, .int a4, .int t0, .null, .null, .null, .null, .null, .null] rfl rfl rfl ?_)
  refine Lb_w (lb_c [.int 0] (xo_push (.int 0)) rfl rfl ?_)
  refine Lb_w (lb_st [.ref 213, .int a1, .int a2, .int a3, .int a4, .int t0, .int 0, .null, .null, .null, .null, .null] rfl rfl rfl ?_)
  exact lkl_187_9  h
def ub_187_0 (T : Nat → List Value → yS → (Option Value → yS → Prop) → Prop)  (a1 : Int32) (a2 : Int32) (a3 : Int32) (a4 : Int32) (s : yS) (P : Option Value → yS → Prop) : Prop :=
  (¬ (a2.toInt = a4.toInt) → ub_187_6 T  a1 a2 a3 a4 0 s P) ∧ (a2.toInt = a4.toInt → ub_187_6 T  a1 a2 a3 a4 1 s P)
set_option maxRecDepth 20000 in
theorem lk_187_0 {d N0 : Nat}  {a1 : Int32} {a2 : Int32} {a3 : Int32} {a4 : Int32} {s : yS} {P : Option Value → yS → Prop}  (h : ub_187_0 (Par d)  a1 a2 a3 a4 s P) : Lb d N0 7 (some .boolean) xE_187 (xE_187.drop 0) [.ref 213, .int a1, .int a2, .int a3, .int a4, .null, .null, .null, .null, .null, .null, .null] [] s P := by
  unfold ub_187_0 at h
  refine Lb_w (lb_ld rfl rfl rfl ?_)
  refine Lb_w (lb_ld rfl rfl rfl ?_)
  refine Lb_w (lb_brN rfl rfl ⟨fun hc => ?_, fun hc => ?_⟩)
  · replace h := h.1 (fun q => hc ((i_eq (x := a2) (y := a4) rfl rfl).mpr q))
    refine Lb_w (lb_c [.int 0] (xo_push (.int 0)) rfl rfl ?_)
    exact lk_187_6  h
  · replace h := h.2 ((i_eq (x := a2) (y := a4) rfl rfl).mp hc)
    refine Lb_w (lb_c [.int 1] (xo_push (.int 1)) rfl rfl ?_)
    refine Lb_w (lb_go rfl ?_)
    exact lk_187_6  h
theorem pb_187 {d : Nat} {a1 : Int32} {a2 : Int32} {a3 : Int32} {a4 : Int32} {s : yS} {P : Option Value → yS → Prop} (h : ub_187_0 (Par d) a1 a2 a3 a4 s P) : Par (d + 1) 187 [.ref 213, .int a1, .int a2, .int a3, .int a4] s P := par_of (E := xE_187) (ml := 7) (ret := some .boolean) rfl (fun _ => lk_187_0 h)
/-! newEnv -/
def ub_188_0 (T : Nat → List Value → yS → (Option Value → yS → Prop) → Prop)   (s : yS) (P : Option Value → yS → Prop) : Prop :=
  ((-2147483648 ≤ 2 * (s.1 70).toInt ∧ 2 * (s.1 70).toInt ≤ 2147483647) → ∀ x1 : Int32, x1.toInt = 2 * (s.1 70).toInt → ((0 ≤ x1.toInt ∧ x1.toInt < 600) → ∀ s2, s2 = sa s 266 x1.toInt.toNat 0 → ((-2147483648 ≤ 2 * (s2.1 70).toInt ∧ 2 * (s2.1 70).toInt ≤ 2147483647) → ∀ x3 : Int32, x3.toInt = 2 * (s2.1 70).toInt → ((-2147483648 ≤ x3.toInt + 1 ∧ x3.toInt + 1 ≤ 2147483647) → ∀ x4 : Int32, x4.toInt = x3.toInt + 1 → ((0 ≤ x4.toInt ∧ x4.toInt < 600) → ∀ s5, s5 = sa s2 266 x4.toInt.toNat 0 → ((-2147483648 ≤ (s5.1 70).toInt + 1 ∧ (s5.1 70).toInt + 1 ≤ 2147483647) → ∀ x6 : Int32, x6.toInt = (s5.1 70).toInt + 1 → ∀ s7, s7 = sf s5 70 x6 → ((-2147483648 ≤ (s7.1 70).toInt - 1 ∧ (s7.1 70).toInt - 1 ≤ 2147483647) → ∀ x8 : Int32, x8.toInt = (s7.1 70).toInt - 1 → P (some (.int x8)) s7)))))))
set_option maxRecDepth 20000 in
theorem lk_188_0 {d N0 : Nat}   {s : yS} {P : Option Value → yS → Prop}  (h : ub_188_0 (Par d)   s P) : Lb d N0 1 (some .int) xE_188 (xE_188.drop 0) [.ref 213, .null] [] s P := by
  unfold ub_188_0 at h
  refine Lb_w (lb_ld rfl rfl rfl ?_)
  refine Lb_w (lb_get rfl rfl ?_)
  change Lb _ _ _ _ _ _ _ [.ref 266] _ _
  refine Lb_w (lb_c [.int 2, .ref 266] (xo_push (.int 2)) rfl rfl ?_)
  refine Lb_w (lb_ld rfl rfl rfl ?_)
  refine Lb_w (lb_get rfl rfl ?_)
  change Lb _ _ _ _ _ _ _ [.int (s.1 70), .int 2, .ref 266] _ _
  refine Lb_w (lb_ca [.int (2 * (s.1 70)), .ref 266] xo_imul rfl rfl (fun _ hk => ?_))
  replace hk := kc_mul (x := 2) (y := s.1 70) (show (2 : Int32).toInt = 2 by decide) rfl hk
  replace h := h hk _ (i_mul (x := 2) (y := s.1 70) (show (2 : Int32).toInt = 2 by decide) rfl hk)
  refine Lb_w (lb_c [.int 0, .int (2 * (s.1 70)), .ref 266] (xo_push (.int 0)) rfl rfl ?_)
  refine Lb_w (lb_ias rfl rfl (fun hk => ?_))
  replace h := h (kc_in (x := (2 * (s.1 70))) rfl hk)
  replace h := h _ rfl
  refine Lb_w (lb_ld rfl rfl rfl ?_)
  refine Lb_w (lb_get rfl rfl ?_)
  change Lb _ _ _ _ _ _ _ [.ref 266] _ _
  refine Lb_w (lb_c [.int 2, .ref 266] (xo_push (.int 2)) rfl rfl ?_)
  refine Lb_w (lb_ld rfl rfl rfl ?_)
  refine Lb_w (lb_get rfl rfl ?_)
  change Lb _ _ _ _ _ _ _ [.int ((sa s 266 (2 * (s.1 70)).toInt.toNat 0).1 70), .int 2, .ref 266] _ _
  refine Lb_w (lb_ca [.int (2 * ((sa s 266 (2 * (s.1 70)).toInt.toNat 0).1 70)), .ref 266] xo_imul rfl rfl (fun _ hk => ?_))
  replace hk := kc_mul (x := 2) (y := (sa s 266 (2 * (s.1 70)).toInt.toNat 0).1 70) (show (2 : Int32).toInt = 2 by decide) rfl hk
  replace h := h hk _ (i_mul (x := 2) (y := (sa s 266 (2 * (s.1 70)).toInt.toNat 0).1 70) (show (2 : Int32).toInt = 2 by decide) rfl hk)
  refine Lb_w (lb_c [.int 1, .int (2 * ((sa s 266 (2 * (s.1 70)).toInt.toNat 0).1 70)), .ref 266] (xo_push (.int 1)) rfl rfl ?_)
  refine Lb_w (lb_ca [.int ((2 * ((sa s 266 (2 * (s.1 70)).toInt.toNat 0).1 70)) + 1), .ref 266] xo_iadd rfl rfl (fun _ hk => ?_))
  replace hk := kc_add (x := (2 * ((sa s 266 (2 * (s.1 70)).toInt.toNat 0).1 70))) (y := 1) rfl (show (1 : Int32).toInt = 1 by decide) hk
  replace h := h hk _ (i_add (x := (2 * ((sa s 266 (2 * (s.1 70)).toInt.toNat 0).1 70))) (y := 1) rfl (show (1 : Int32).toInt = 1 by decide) hk)
  refine Lb_w (lb_c [.int 0, .int ((2 * ((sa s 266 (2 * (s.1 70)).toInt.toNat 0).1 70)) + 1), .ref 266] (xo_push (.int 0)) rfl rfl ?_)
  refine Lb_w (lb_ias rfl rfl (fun hk => ?_))
  replace h := h (kc_in (x := ((2 * ((sa s 266 (2 * (s.1 70)).toInt.toNat 0).1 70)) + 1)) rfl hk)
  replace h := h _ rfl
  refine Lb_w (lb_ld rfl rfl rfl ?_)
  refine Lb_w (lb_c [.ref 213, .ref 213] xo_dup rfl rfl ?_)
  refine Lb_w (lb_get rfl rfl ?_)
  change Lb _ _ _ _ _ _ _ [.int ((sa (sa s 266 (2 * (s.1 70)).toInt.toNat 0) 266 ((2 * ((sa s 266 (2 * (s.1 70)).toInt.toNat 0).1 70)) + 1).toInt.toNat 0).1 70), .ref 213] _ _
  refine Lb_w (lb_c [.int 1, .int ((sa (sa s 266 (2 * (s.1 70)).toInt.toNat 0) 266 ((2 * ((sa s 266 (2 * (s.1 70)).toInt.toNat 0).1 70)) + 1).toInt.toNat 0).1 70), .ref 213] (xo_push (.int 1)) rfl rfl ?_)
  refine Lb_w (lb_ca [.int (((sa (sa s 266 (2 * (s.1 70)).toInt.toNat 0) 266 ((2 * ((sa s 266 (2 * (s.1 70)).toInt.toNat 0).1 70)) + 1).toInt.toNat 0).1 70) + 1), .ref 213] xo_iadd rfl rfl (fun _ hk => ?_))
  replace hk := kc_add (x := (sa (sa s 266 (2 * (s.1 70)).toInt.toNat 0) 266 ((2 * ((sa s 266 (2 * (s.1 70)).toInt.toNat 0).1 70)) + 1).toInt.toNat 0).1 70) (y := 1) rfl (show (1 : Int32).toInt = 1 by decide) hk
  replace h := h hk _ (i_add (x := (sa (sa s 266 (2 * (s.1 70)).toInt.toNat 0) 266 ((2 * ((sa s 266 (2 * (s.1 70)).toInt.toNat 0).1 70)) + 1).toInt.toNat 0).1 70) (y := 1) rfl (show (1 : Int32).toInt = 1 by decide) hk)
  refine Lb_w (lb_put rfl rfl (fun hk => ?_))
  replace h := h _ rfl
  refine Lb_w (lb_ld rfl rfl rfl ?_)
  refine Lb_w (lb_get rfl rfl ?_)
  change Lb _ _ _ _ _ _ _ [.int ((sf (sa (sa s 266 (2 * (s.1 70)).toInt.toNat 0) 266 ((2 * ((sa s 266 (2 * (s.1 70)).toInt.toNat 0).1 70)) + 1).toInt.toNat 0) 70 (((sa (sa s 266 (2 * (s.1 70)).toInt.toNat 0) 266 ((2 * ((sa s 266 (2 * (s.1 70)).toInt.toNat 0).1 70)) + 1).toInt.toNat 0).1 70) + 1)).1 70)] _ _
  refine Lb_w (lb_c [.int 1, .int ((sf (sa (sa s 266 (2 * (s.1 70)).toInt.toNat 0) 266 ((2 * ((sa s 266 (2 * (s.1 70)).toInt.toNat 0).1 70)) + 1).toInt.toNat 0) 70 (((sa (sa s 266 (2 * (s.1 70)).toInt.toNat 0) 266 ((2 * ((sa s 266 (2 * (s.1 70)).toInt.toNat 0).1 70)) + 1).toInt.toNat 0).1 70) + 1)).1 70)] (xo_push (.int 1)) rfl rfl ?_)
  refine Lb_w (lb_ca [.int (((sf (sa (sa s 266 (2 * (s.1 70)).toInt.toNat 0) 266 ((2 * ((sa s 266 (2 * (s.1 70)).toInt.toNat 0).1 70)) + 1).toInt.toNat 0) 70 (((sa (sa s 266 (2 * (s.1 70)).toInt.toNat 0) 266 ((2 * ((sa s 266 (2 * (s.1 70)).toInt.toNat 0).1 70)) + 1).toInt.toNat 0).1 70) + 1)).1 70) - 1)] xo_isub rfl rfl (fun _ hk => ?_))
  replace hk := kc_sub (x := (sf (sa (sa s 266 (2 * (s.1 70)).toInt.toNat 0) 266 ((2 * ((sa s 266 (2 * (s.1 70)).toInt.toNat 0).1 70)) + 1).toInt.toNat 0) 70 (((sa (sa s 266 (2 * (s.1 70)).toInt.toNat 0) 266 ((2 * ((sa s 266 (2 * (s.1 70)).toInt.toNat 0).1 70)) + 1).toInt.toNat 0).1 70) + 1)).1 70) (y := 1) rfl (show (1 : Int32).toInt = 1 by decide) hk
  replace h := h hk _ (i_sub (x := (sf (sa (sa s 266 (2 * (s.1 70)).toInt.toNat 0) 266 ((2 * ((sa s 266 (2 * (s.1 70)).toInt.toNat 0).1 70)) + 1).toInt.toNat 0) 70 (((sa (sa s 266 (2 * (s.1 70)).toInt.toNat 0) 266 ((2 * ((sa s 266 (2 * (s.1 70)).toInt.toNat 0).1 70)) + 1).toInt.toNat 0).1 70) + 1)).1 70) (y := 1) rfl (show (1 : Int32).toInt = 1 by decide) hk)
  exact Lb_w (lb_retI rfl h)
theorem pb_188 {d : Nat}  {s : yS} {P : Option Value → yS → Prop} (h : ub_188_0 (Par d)  s P) : Par (d + 1) 188 [.ref 213] s P := par_of (E := xE_188) (ml := 1) (ret := some .int) rfl (fun _ => lk_188_0 h)
/-! group -/
def ub_189_29 (T : Nat → List Value → yS → (Option Value → yS → Prop) → Prop) (R29 : Int32 → Int32 → Int32 → Int32 → Int32 → Int32 → Int32 → Int32 → yS → Prop) (a1 : Int32) (a2 : Int32) (a3 : Int32) (a4 : Int32) (a5 : Int32) (a6 : Int32) (a7 : Int32) (a8 : Int32) (s : yS) (P : Option Value → yS → Prop) : Prop :=
  (a5.toInt ≤ a8.toInt → P none s) ∧ (¬ (a5.toInt ≤ a8.toInt) → ((-2147483648 ≤ 6 * a6.toInt ∧ 6 * a6.toInt ≤ 2147483647) → ∀ x1 : Int32, x1.toInt = 6 * a6.toInt → ((-2147483648 ≤ x1.toInt + a8.toInt ∧ x1.toInt + a8.toInt ≤ 2147483647) → ∀ x2 : Int32, x2.toInt = x1.toInt + a8.toInt → ((0 ≤ x2.toInt ∧ x2.toInt < 3600) → ∀ s3, s3 = sa s 267 x2.toInt.toNat a7 → T 186 [.ref 213, .int a7] s3 (fun v5 s4 => ∃ x6, v5 = some (.int x6) ∧ (((-2147483648 ≤ 6 * a6.toInt ∧ 6 * a6.toInt ≤ 2147483647) → ∀ x7 : Int32, x7.toInt = 6 * a6.toInt → ((-2147483648 ≤ x7.toInt + a8.toInt ∧ x7.toInt + a8.toInt ≤ 2147483647) → ∀ x8 : Int32, x8.toInt = x7.toInt + a8.toInt → ((-2147483648 ≤ x6.toInt - a7.toInt ∧ x6.toInt - a7.toInt ≤ 2147483647) → ∀ x9 : Int32, x9.toInt = x6.toInt - a7.toInt → ((0 ≤ x8.toInt ∧ x8.toInt < 3600) → ∀ s10, s10 = sa s4 268 x8.toInt.toNat x9 → ((-2147483648 ≤ a8.toInt + 1 ∧ a8.toInt + 1 ≤ 2147483647) → ∀ x11 : Int32, x11.toInt = a8.toInt + 1 → R29 a1 a2 a3 a4 a5 a6 x6 x11  s10)))))))))))
set_option maxRecDepth 20000 in
theorem lk_189_29 {d N0 : Nat} {R29 : Int32 → Int32 → Int32 → Int32 → Int32 → Int32 → Int32 → Int32 → yS → Prop} {a1 : Int32} {a2 : Int32} {a3 : Int32} {a4 : Int32} {a5 : Int32} {a6 : Int32} {a7 : Int32} {a8 : Int32} {s : yS} {P : Option Value → yS → Prop} (r29 : ∀ a1 a2 a3 a4 a5 a6 a7 a8 s, R29 a1 a2 a3 a4 a5 a6 a7 a8 s → Lb d N0 10 (none) xE_189 (xE_189.drop 29) [.ref 213, .int a1, .int a2, .int a3, .int a4, .int a5, .int a6, .int a7, .int a8, .null, .null, .null, .null, .null, .null] [] s P) (h : ub_189_29 (Par d) R29 a1 a2 a3 a4 a5 a6 a7 a8 s P) : Lb d (N0 + 1) 10 (none) xE_189 (xE_189.drop 29) [.ref 213, .int a1, .int a2, .int a3, .int a4, .int a5, .int a6, .int a7, .int a8, .null, .null, .null, .null, .null, .null] [] s P := by
  unfold ub_189_29 at h
  refine lb_ld rfl rfl rfl ?_
  refine Lb_w (lb_ld rfl rfl rfl ?_)
  refine Lb_w (lb_brP rfl rfl ⟨fun hc => ?_, fun hc => ?_⟩)
  · replace h := h.1 ((i_le (x := a5) (y := a8) rfl rfl).mp hc)
    exact Lb_w (lb_ret0 rfl h)
  · replace h := h.2 (fun q => hc ((i_le (x := a5) (y := a8) rfl rfl).mpr q))
    refine Lb_w (lb_ld rfl rfl rfl ?_)
    refine Lb_w (lb_get rfl rfl ?_)
    change Lb _ _ _ _ _ _ _ [.ref 267] _ _
    refine Lb_w (lb_c [.int 6, .ref 267] (xo_push (.int 6)) rfl rfl ?_)
    refine Lb_w (lb_ld rfl rfl rfl ?_)
    refine Lb_w (lb_ca [.int (6 * a6), .ref 267] xo_imul rfl rfl (fun _ hk => ?_))
    replace hk := kc_mul (x := 6) (y := a6) (show (6 : Int32).toInt = 6 by decide) rfl hk
    replace h := h hk _ (i_mul (x := 6) (y := a6) (show (6 : Int32).toInt = 6 by decide) rfl hk)
    refine Lb_w (lb_ld rfl rfl rfl ?_)
    refine Lb_w (lb_ca [.int ((6 * a6) + a8), .ref 267] xo_iadd rfl rfl (fun _ hk => ?_))
    replace hk := kc_add (x := (6 * a6)) (y := a8) rfl rfl hk
    replace h := h hk _ (i_add (x := (6 * a6)) (y := a8) rfl rfl hk)
    refine Lb_w (lb_ld rfl rfl rfl ?_)
    refine Lb_w (lb_ias rfl rfl (fun hk => ?_))
    replace h := h (kc_in (x := ((6 * a6) + a8)) rfl hk)
    replace h := h _ rfl
    refine Lb_w (lb_ld rfl rfl rfl ?_)
    refine Lb_w (lb_ld rfl rfl rfl ?_)
    refine Lb_w (lb_call [.ref 213, .int a7] [] rfl rfl rfl (Par.imp h (fun v5 s4 h => ?_)))
    obtain ⟨x6, rfl, h⟩ := h
    change Lb _ _ _ _ _ _ _ [.int x6] _ _
    refine Lb_w (lb_st [.ref 213, .int a1, .int a2, .int a3, .int a4, .int a5, .int a6, .int a7, .int a8, .int x6, .null, .null, .null, .null, .null] rfl rfl rfl ?_)
    refine Lb_w (lb_ld rfl rfl rfl ?_)
    refine Lb_w (lb_get rfl rfl ?_)
    change Lb _ _ _ _ _ _ _ [.ref 268] _ _
    refine Lb_w (lb_c [.int 6, .ref 268] (xo_push (.int 6)) rfl rfl ?_)
    refine Lb_w (lb_ld rfl rfl rfl ?_)
    refine Lb_w (lb_ca [.int (6 * a6), .ref 268] xo_imul rfl rfl (fun _ hk => ?_))
    replace hk := kc_mul (x := 6) (y := a6) (show (6 : Int32).toInt = 6 by decide) rfl hk
    replace h := h hk _ (i_mul (x := 6) (y := a6) (show (6 : Int32).toInt = 6 by decide) rfl hk)
    refine Lb_w (lb_ld rfl rfl rfl ?_)
    refine Lb_w (lb_ca [.int ((6 * a6) + a8), .ref 268] xo_iadd rfl rfl (fun _ hk => ?_))
    replace hk := kc_add (x := (6 * a6)) (y := a8) rfl rfl hk
    replace h := h hk _ (i_add (x := (6 * a6)) (y := a8) rfl rfl hk)
    refine Lb_w (lb_ld rfl rfl rfl ?_)
    refine Lb_w (lb_ld rfl rfl rfl ?_)
    refine Lb_w (lb_ca [.int (x6 - a7), .int ((6 * a6) + a8), .ref 268] xo_isub rfl rfl (fun _ hk => ?_))
    replace hk := kc_sub (x := x6) (y := a7) rfl rfl hk
    replace h := h hk _ (i_sub (x := x6) (y := a7) rfl rfl hk)
    refine Lb_w (lb_ias rfl rfl (fun hk => ?_))
    replace h := h (kc_in (x := ((6 * a6) + a8)) rfl hk)
    replace h := h _ rfl
    refine Lb_w (lb_ld rfl rfl rfl ?_)
    refine Lb_w (lb_st [.ref 213, .int a1, .int a2, .int a3, .int a4, .int a5, .int a6, .int x6, .int a8, .int x6, .null, .null, .null, .null, .null] rfl rfl rfl ?_)
    refine Lb_w (lb_inc [.ref 213, .int a1, .int a2, .int a3, .int a4, .int a5, .int a6, .int x6, .int (a8 + 1), .int x6, .null, .null, .null, .null, .null] rfl rfl rfl rfl (fun hk => ?_))
    replace hk := kc_inc (x := a8) (n := 1) rfl hk
    replace h := h hk _ (i_add (x := a8) (y := 1) rfl (show (1 : Int32).toInt = 1 by decide) hk)
    refine Lb_w (lb_go rfl ?_)
    refine lb_fg 9 ?_
    exact r29 a1 a2 a3 a4 a5 a6 x6 (a8 + 1)  (sa s4 268 ((6 * a6) + a8).toInt.toNat (x6 - a7)) h
def ubl_189_29 (T : Nat → List Value → yS → (Option Value → yS → Prop) → Prop)  (a1 : Int32) (a2 : Int32) (a3 : Int32) (a4 : Int32) (a5 : Int32) (a6 : Int32) (a7 : Int32) (a8 : Int32) (s : yS) (P : Option Value → yS → Prop) : Prop :=
  ∃ (I : Int32 → Int32 → Int32 → Int32 → Int32 → Int32 → Int32 → Int32 → yS → Prop), I a1 a2 a3 a4 a5 a6 a7 a8 s ∧ ∀ (a1 : Int32) (a2 : Int32) (a3 : Int32) (a4 : Int32) (a5 : Int32) (a6 : Int32) (a7 : Int32) (a8 : Int32) (s : yS), I a1 a2 a3 a4 a5 a6 a7 a8 s → ub_189_29 T I a1 a2 a3 a4 a5 a6 a7 a8 s P
theorem lkl_189_29 {d N0 : Nat}  {a1 : Int32} {a2 : Int32} {a3 : Int32} {a4 : Int32} {a5 : Int32} {a6 : Int32} {a7 : Int32} {a8 : Int32} {s : yS} {P : Option Value → yS → Prop}  (h : ubl_189_29 (Par d)  a1 a2 a3 a4 a5 a6 a7 a8 s P) : Lb d N0 10 (none) xE_189 (xE_189.drop 29) [.ref 213, .int a1, .int a2, .int a3, .int a4, .int a5, .int a6, .int a7, .int a8, .null, .null, .null, .null, .null, .null] [] s P := by
  obtain ⟨I, h0, h1⟩ := h
  have key : ∀ (m : Nat), m ≤ N0 → ∀ (a1 : Int32) (a2 : Int32) (a3 : Int32) (a4 : Int32) (a5 : Int32) (a6 : Int32) (a7 : Int32) (a8 : Int32) (s : yS), I a1 a2 a3 a4 a5 a6 a7 a8 s → Lb d m 10 (none) xE_189 (xE_189.drop 29) [.ref 213, .int a1, .int a2, .int a3, .int a4, .int a5, .int a6, .int a7, .int a8, .null, .null, .null, .null, .null, .null] [] s P := by
    intro m
    induction m with
    | zero => exact fun _ a1 a2 a3 a4 a5 a6 a7 a8 s _ => Lb_0
    | succ m ih =>
      intro hm
      replace hm : m ≤ N0 := Nat.le_of_succ_le hm
      replace ih := ih hm
      intro a1 a2 a3 a4 a5 a6 a7 a8 s hI
      exact lk_189_29 ih (h1 a1 a2 a3 a4 a5 a6 a7 a8 s hI)
  exact key N0 (Nat.le_refl _) a1 a2 a3 a4 a5 a6 a7 a8 s h0
def ub_189_0 (T : Nat → List Value → yS → (Option Value → yS → Prop) → Prop)  (a1 : Int32) (a2 : Int32) (a3 : Int32) (a4 : Int32) (s : yS) (P : Option Value → yS → Prop) : Prop :=
  ((0 ≤ a4.toInt ∧ a4.toInt < 200000) → (0 ≤ (s.2.1 264 a4.toInt.toNat).toInt → ∀ x1 : Int32, x1.toInt = (s.2.1 264 a4.toInt.toNat).toInt % 8 → ((-2147483648 ≤ 2 * a1.toInt ∧ 2 * a1.toInt ≤ 2147483647) → ∀ x2 : Int32, x2.toInt = 2 * a1.toInt → ((-2147483648 ≤ x2.toInt + a2.toInt ∧ x2.toInt + a2.toInt ≤ 2147483647) → ∀ x3 : Int32, x3.toInt = x2.toInt + a2.toInt → ((0 ≤ x3.toInt ∧ x3.toInt < 600) → ∀ s4, s4 = sa s 265 x3.toInt.toNat a3 → ((0 ≤ x3.toInt ∧ x3.toInt < 600) → ∀ s5, s5 = sa s4 266 x3.toInt.toNat x1 → ((-2147483648 ≤ a4.toInt + 1 ∧ a4.toInt + 1 ≤ 2147483647) → ∀ x6 : Int32, x6.toInt = a4.toInt + 1 → ubl_189_29 T  a1 a2 a3 a4 x1 x3 x6 0  s5 P)))))))
set_option maxRecDepth 20000 in
theorem lk_189_0 {d N0 : Nat}  {a1 : Int32} {a2 : Int32} {a3 : Int32} {a4 : Int32} {s : yS} {P : Option Value → yS → Prop}  (h : ub_189_0 (Par d)  a1 a2 a3 a4 s P) : Lb d N0 10 (none) xE_189 (xE_189.drop 0) [.ref 213, .int a1, .int a2, .int a3, .int a4, .null, .null, .null, .null, .null, .null, .null, .null, .null, .null] [] s P := by
  unfold ub_189_0 at h
  refine Lb_w (lb_ld rfl rfl rfl ?_)
  refine Lb_w (lb_get rfl rfl ?_)
  change Lb _ _ _ _ _ _ _ [.ref 264] _ _
  refine Lb_w (lb_ld rfl rfl rfl ?_)
  refine Lb_w (lb_ial rfl rfl (fun hk => ?_))
  change Lb _ _ _ _ _ _ _ [.int (s.2.1 264 a4.toInt.toNat)] _ _
  replace h := h (kc_in (x := a4) rfl hk)
  refine Lb_w (lb_c [.int 7, .int (s.2.1 264 a4.toInt.toNat)] (xo_push (.int 7)) rfl rfl ?_)
  refine Lb_w (lb_ca [.int ((s.2.1 264 a4.toInt.toNat) &&& 7)] xo_iand rfl rfl (fun _ hk => ?_))
  replace hk := kc_and (x := s.2.1 264 a4.toInt.toNat) (y := 7) rfl (by decide) hk
  replace h := h hk _ (i_and7 (x := s.2.1 264 a4.toInt.toNat) rfl hk)
  refine Lb_w (lb_st [.ref 213, .int a1, .int a2, .int a3, .int a4, .int ((s.2.1 264 a4.toInt.toNat) &&& 7), .null, .null, .null, .null, .null, .null, .null, .null, .null] rfl rfl rfl ?_)
  refine Lb_w (lb_c [.int 2] (xo_push (.int 2)) rfl rfl ?_)
  refine Lb_w (lb_ld rfl rfl rfl ?_)
  refine Lb_w (lb_ca [.int (2 * a1)] xo_imul rfl rfl (fun _ hk => ?_))
  replace hk := kc_mul (x := 2) (y := a1) (show (2 : Int32).toInt = 2 by decide) rfl hk
  replace h := h hk _ (i_mul (x := 2) (y := a1) (show (2 : Int32).toInt = 2 by decide) rfl hk)
  refine Lb_w (lb_ld rfl rfl rfl ?_)
  refine Lb_w (lb_ca [.int ((2 * a1) + a2)] xo_iadd rfl rfl (fun _ hk => ?_))
  replace hk := kc_add (x := (2 * a1)) (y := a2) rfl rfl hk
  replace h := h hk _ (i_add (x := (2 * a1)) (y := a2) rfl rfl hk)
  refine Lb_w (lb_st [.ref 213, .int a1, .int a2, .int a3, .int a4, .int ((s.2.1 264 a4.toInt.toNat) &&& 7), .int ((2 * a1) + a2), .null, .null, .null, .null, .null, .null, .null, .null] rfl rfl rfl ?_)
  refine Lb_w (lb_ld rfl rfl rfl ?_)
  refine Lb_w (lb_get rfl rfl ?_)
  change Lb _ _ _ _ _ _ _ [.ref 265] _ _
  refine Lb_w (lb_ld rfl rfl rfl ?_)
  refine Lb_w (lb_ld rfl rfl rfl ?_)
  refine Lb_w (lb_ias rfl rfl (fun hk => ?_))
  replace h := h (kc_in (x := ((2 * a1) + a2)) rfl hk)
  replace h := h _ rfl
  refine Lb_w (lb_ld rfl rfl rfl ?_)
  refine Lb_w (lb_get rfl rfl ?_)
  change Lb _ _ _ _ _ _ _ [.ref 266] _ _
  refine Lb_w (lb_ld rfl rfl rfl ?_)
  refine Lb_w (lb_ld rfl rfl rfl ?_)
  refine Lb_w (lb_ias rfl rfl (fun hk => ?_))
  replace h := h (kc_in (x := ((2 * a1) + a2)) rfl hk)
  replace h := h _ rfl
  refine Lb_w (lb_ld rfl rfl rfl ?_)
  refine Lb_w (lb_c [.int 1, .int a4] (xo_push (.int 1)) rfl rfl ?_)
  refine Lb_w (lb_ca [.int (a4 + 1)] xo_iadd rfl rfl (fun _ hk => ?_))
  replace hk := kc_add (x := a4) (y := 1) rfl (show (1 : Int32).toInt = 1 by decide) hk
  replace h := h hk _ (i_add (x := a4) (y := 1) rfl (show (1 : Int32).toInt = 1 by decide) hk)
  refine Lb_w (lb_st [.ref 213, .int a1, .int a2, .int a3, .int a4, .int ((s.2.1 264 a4.toInt.toNat) &&& 7), .int ((2 * a1) + a2), .int (a4 + 1), .null, .null, .null, .null, .null, .null, .null] rfl rfl rfl ?_)
  refine Lb_w (lb_c [.int 0] (xo_push (.int 0)) rfl rfl ?_)
  refine Lb_w (lb_st [.ref 213, .int a1, .int a2, .int a3, .int a4, .int ((s.2.1 264 a4.toInt.toNat) &&& 7), .int ((2 * a1) + a2), .int (a4 + 1), .int 0, .null, .null, .null, .null, .null, .null] rfl rfl rfl ?_)
  exact lkl_189_29  h
theorem pb_189 {d : Nat} {a1 : Int32} {a2 : Int32} {a3 : Int32} {a4 : Int32} {s : yS} {P : Option Value → yS → Prop} (h : ub_189_0 (Par d) a1 a2 a3 a4 s P) : Par (d + 1) 189 [.ref 213, .int a1, .int a2, .int a3, .int a4] s P := par_of (E := xE_189) (ml := 10) (ret := none) rfl (fun _ => lk_189_0 h)
/-! byPlaces -/
def ub_190_18 (T : Nat → List Value → yS → (Option Value → yS → Prop) → Prop) (R18 : Int32 → Int32 → Int32 → Int32 → Int32 → yS → Prop) (a1 : Int32) (a2 : Int32) (a3 : Int32) (a4 : Int32) (a5 : Int32) (s : yS) (P : Option Value → yS → Prop) : Prop :=
  (a3.toInt ≤ a5.toInt → P none s) ∧ (¬ (a3.toInt ≤ a5.toInt) → ((-2147483648 ≤ 6 * a4.toInt ∧ 6 * a4.toInt ≤ 2147483647) → ∀ x1 : Int32, x1.toInt = 6 * a4.toInt → ((-2147483648 ≤ x1.toInt + a5.toInt ∧ x1.toInt + a5.toInt ≤ 2147483647) → ∀ x2 : Int32, x2.toInt = x1.toInt + a5.toInt → ((0 ≤ x2.toInt ∧ x2.toInt < 3600) → ∀ s3, s3 = sa s 267 x2.toInt.toNat a5 → ((-2147483648 ≤ 6 * a4.toInt ∧ 6 * a4.toInt ≤ 2147483647) → ∀ x4 : Int32, x4.toInt = 6 * a4.toInt → ((-2147483648 ≤ x4.toInt + a5.toInt ∧ x4.toInt + a5.toInt ≤ 2147483647) → ∀ x5 : Int32, x5.toInt = x4.toInt + a5.toInt → ((0 ≤ x5.toInt ∧ x5.toInt < 3600) → ∀ s6, s6 = sa s3 268 x5.toInt.toNat 1 → ((-2147483648 ≤ a5.toInt + 1 ∧ a5.toInt + 1 ≤ 2147483647) → ∀ x7 : Int32, x7.toInt = a5.toInt + 1 → R18 a1 a2 a3 a4 x7  s6))))))))
set_option maxRecDepth 20000 in
theorem lk_190_18 {d N0 : Nat} {R18 : Int32 → Int32 → Int32 → Int32 → Int32 → yS → Prop} {a1 : Int32} {a2 : Int32} {a3 : Int32} {a4 : Int32} {a5 : Int32} {s : yS} {P : Option Value → yS → Prop} (r18 : ∀ a1 a2 a3 a4 a5 s, R18 a1 a2 a3 a4 a5 s → Lb d N0 6 (none) xE_190 (xE_190.drop 18) [.ref 213, .int a1, .int a2, .int a3, .int a4, .int a5, .null, .null, .null, .null] [] s P) (h : ub_190_18 (Par d) R18 a1 a2 a3 a4 a5 s P) : Lb d (N0 + 1) 6 (none) xE_190 (xE_190.drop 18) [.ref 213, .int a1, .int a2, .int a3, .int a4, .int a5, .null, .null, .null, .null] [] s P := by
  unfold ub_190_18 at h
  refine lb_ld rfl rfl rfl ?_
  refine Lb_w (lb_ld rfl rfl rfl ?_)
  refine Lb_w (lb_brP rfl rfl ⟨fun hc => ?_, fun hc => ?_⟩)
  · replace h := h.1 ((i_le (x := a3) (y := a5) rfl rfl).mp hc)
    exact Lb_w (lb_ret0 rfl h)
  · replace h := h.2 (fun q => hc ((i_le (x := a3) (y := a5) rfl rfl).mpr q))
    refine Lb_w (lb_ld rfl rfl rfl ?_)
    refine Lb_w (lb_get rfl rfl ?_)
    change Lb _ _ _ _ _ _ _ [.ref 267] _ _
    refine Lb_w (lb_c [.int 6, .ref 267] (xo_push (.int 6)) rfl rfl ?_)
    refine Lb_w (lb_ld rfl rfl rfl ?_)
    refine Lb_w (lb_ca [.int (6 * a4), .ref 267] xo_imul rfl rfl (fun _ hk => ?_))
    replace hk := kc_mul (x := 6) (y := a4) (show (6 : Int32).toInt = 6 by decide) rfl hk
    replace h := h hk _ (i_mul (x := 6) (y := a4) (show (6 : Int32).toInt = 6 by decide) rfl hk)
    refine Lb_w (lb_ld rfl rfl rfl ?_)
    refine Lb_w (lb_ca [.int ((6 * a4) + a5), .ref 267] xo_iadd rfl rfl (fun _ hk => ?_))
    replace hk := kc_add (x := (6 * a4)) (y := a5) rfl rfl hk
    replace h := h hk _ (i_add (x := (6 * a4)) (y := a5) rfl rfl hk)
    refine Lb_w (lb_ld rfl rfl rfl ?_)
    refine Lb_w (lb_ias rfl rfl (fun hk => ?_))
    replace h := h (kc_in (x := ((6 * a4) + a5)) rfl hk)
    replace h := h _ rfl
    refine Lb_w (lb_ld rfl rfl rfl ?_)
    refine Lb_w (lb_get rfl rfl ?_)
    change Lb _ _ _ _ _ _ _ [.ref 268] _ _
    refine Lb_w (lb_c [.int 6, .ref 268] (xo_push (.int 6)) rfl rfl ?_)
    refine Lb_w (lb_ld rfl rfl rfl ?_)
    refine Lb_w (lb_ca [.int (6 * a4), .ref 268] xo_imul rfl rfl (fun _ hk => ?_))
    replace hk := kc_mul (x := 6) (y := a4) (show (6 : Int32).toInt = 6 by decide) rfl hk
    replace h := h hk _ (i_mul (x := 6) (y := a4) (show (6 : Int32).toInt = 6 by decide) rfl hk)
    refine Lb_w (lb_ld rfl rfl rfl ?_)
    refine Lb_w (lb_ca [.int ((6 * a4) + a5), .ref 268] xo_iadd rfl rfl (fun _ hk => ?_))
    replace hk := kc_add (x := (6 * a4)) (y := a5) rfl rfl hk
    replace h := h hk _ (i_add (x := (6 * a4)) (y := a5) rfl rfl hk)
    refine Lb_w (lb_c [.int 1, .int ((6 * a4) + a5), .ref 268] (xo_push (.int 1)) rfl rfl ?_)
    refine Lb_w (lb_ias rfl rfl (fun hk => ?_))
    replace h := h (kc_in (x := ((6 * a4) + a5)) rfl hk)
    replace h := h _ rfl
    refine Lb_w (lb_inc [.ref 213, .int a1, .int a2, .int a3, .int a4, .int (a5 + 1), .null, .null, .null, .null] rfl rfl rfl rfl (fun hk => ?_))
    replace hk := kc_inc (x := a5) (n := 1) rfl hk
    replace h := h hk _ (i_add (x := a5) (y := 1) rfl (show (1 : Int32).toInt = 1 by decide) hk)
    refine Lb_w (lb_go rfl ?_)
    exact r18 a1 a2 a3 a4 (a5 + 1)  (sa (sa s 267 ((6 * a4) + a5).toInt.toNat a5) 268 ((6 * a4) + a5).toInt.toNat 1) h
def ubl_190_18 (T : Nat → List Value → yS → (Option Value → yS → Prop) → Prop)  (a1 : Int32) (a2 : Int32) (a3 : Int32) (a4 : Int32) (a5 : Int32) (s : yS) (P : Option Value → yS → Prop) : Prop :=
  ∃ (I : Int32 → Int32 → Int32 → Int32 → Int32 → yS → Prop), I a1 a2 a3 a4 a5 s ∧ ∀ (a1 : Int32) (a2 : Int32) (a3 : Int32) (a4 : Int32) (a5 : Int32) (s : yS), I a1 a2 a3 a4 a5 s → ub_190_18 T I a1 a2 a3 a4 a5 s P
theorem lkl_190_18 {d N0 : Nat}  {a1 : Int32} {a2 : Int32} {a3 : Int32} {a4 : Int32} {a5 : Int32} {s : yS} {P : Option Value → yS → Prop}  (h : ubl_190_18 (Par d)  a1 a2 a3 a4 a5 s P) : Lb d N0 6 (none) xE_190 (xE_190.drop 18) [.ref 213, .int a1, .int a2, .int a3, .int a4, .int a5, .null, .null, .null, .null] [] s P := by
  obtain ⟨I, h0, h1⟩ := h
  have key : ∀ (m : Nat), m ≤ N0 → ∀ (a1 : Int32) (a2 : Int32) (a3 : Int32) (a4 : Int32) (a5 : Int32) (s : yS), I a1 a2 a3 a4 a5 s → Lb d m 6 (none) xE_190 (xE_190.drop 18) [.ref 213, .int a1, .int a2, .int a3, .int a4, .int a5, .null, .null, .null, .null] [] s P := by
    intro m
    induction m with
    | zero => exact fun _ a1 a2 a3 a4 a5 s _ => Lb_0
    | succ m ih =>
      intro hm
      replace hm : m ≤ N0 := Nat.le_of_succ_le hm
      replace ih := ih hm
      intro a1 a2 a3 a4 a5 s hI
      exact lk_190_18 ih (h1 a1 a2 a3 a4 a5 s hI)
  exact key N0 (Nat.le_refl _) a1 a2 a3 a4 a5 s h0
def ub_190_0 (T : Nat → List Value → yS → (Option Value → yS → Prop) → Prop)  (a1 : Int32) (a2 : Int32) (a3 : Int32) (s : yS) (P : Option Value → yS → Prop) : Prop :=
  ((-2147483648 ≤ 2 * a1.toInt ∧ 2 * a1.toInt ≤ 2147483647) → ∀ x1 : Int32, x1.toInt = 2 * a1.toInt → ((-2147483648 ≤ x1.toInt + 1 ∧ x1.toInt + 1 ≤ 2147483647) → ∀ x2 : Int32, x2.toInt = x1.toInt + 1 → ((0 ≤ x2.toInt ∧ x2.toInt < 600) → ∀ s3, s3 = sa s 265 x2.toInt.toNat a2 → ((0 ≤ x2.toInt ∧ x2.toInt < 600) → ∀ s4, s4 = sa s3 266 x2.toInt.toNat a3 → ubl_190_18 T  a1 a2 a3 x2 0  s4 P))))
set_option maxRecDepth 20000 in
theorem lk_190_0 {d N0 : Nat}  {a1 : Int32} {a2 : Int32} {a3 : Int32} {s : yS} {P : Option Value → yS → Prop}  (h : ub_190_0 (Par d)  a1 a2 a3 s P) : Lb d N0 6 (none) xE_190 (xE_190.drop 0) [.ref 213, .int a1, .int a2, .int a3, .null, .null, .null, .null, .null, .null] [] s P := by
  unfold ub_190_0 at h
  refine Lb_w (lb_c [.int 2] (xo_push (.int 2)) rfl rfl ?_)
  refine Lb_w (lb_ld rfl rfl rfl ?_)
  refine Lb_w (lb_ca [.int (2 * a1)] xo_imul rfl rfl (fun _ hk => ?_))
  replace hk := kc_mul (x := 2) (y := a1) (show (2 : Int32).toInt = 2 by decide) rfl hk
  replace h := h hk _ (i_mul (x := 2) (y := a1) (show (2 : Int32).toInt = 2 by decide) rfl hk)
  refine Lb_w (lb_c [.int 1, .int (2 * a1)] (xo_push (.int 1)) rfl rfl ?_)
  refine Lb_w (lb_ca [.int ((2 * a1) + 1)] xo_iadd rfl rfl (fun _ hk => ?_))
  replace hk := kc_add (x := (2 * a1)) (y := 1) rfl (show (1 : Int32).toInt = 1 by decide) hk
  replace h := h hk _ (i_add (x := (2 * a1)) (y := 1) rfl (show (1 : Int32).toInt = 1 by decide) hk)
  refine Lb_w (lb_st [.ref 213, .int a1, .int a2, .int a3, .int ((2 * a1) + 1), .null, .null, .null, .null, .null] rfl rfl rfl ?_)
  refine Lb_w (lb_ld rfl rfl rfl ?_)
  refine Lb_w (lb_get rfl rfl ?_)
  change Lb _ _ _ _ _ _ _ [.ref 265] _ _
  refine Lb_w (lb_ld rfl rfl rfl ?_)
  refine Lb_w (lb_ld rfl rfl rfl ?_)
  refine Lb_w (lb_ias rfl rfl (fun hk => ?_))
  replace h := h (kc_in (x := ((2 * a1) + 1)) rfl hk)
  replace h := h _ rfl
  refine Lb_w (lb_ld rfl rfl rfl ?_)
  refine Lb_w (lb_get rfl rfl ?_)
  change Lb _ _ _ _ _ _ _ [.ref 266] _ _
  refine Lb_w (lb_ld rfl rfl rfl ?_)
  refine Lb_w (lb_ld rfl rfl rfl ?_)
  refine Lb_w (lb_ias rfl rfl (fun hk => ?_))
  replace h := h (kc_in (x := ((2 * a1) + 1)) rfl hk)
  replace h := h _ rfl
  refine Lb_w (lb_c [.int 0] (xo_push (.int 0)) rfl rfl ?_)
  refine Lb_w (lb_st [.ref 213, .int a1, .int a2, .int a3, .int ((2 * a1) + 1), .int 0, .null, .null, .null, .null] rfl rfl rfl ?_)
  exact lkl_190_18  h
theorem pb_190 {d : Nat} {a1 : Int32} {a2 : Int32} {a3 : Int32} {s : yS} {P : Option Value → yS → Prop} (h : ub_190_0 (Par d) a1 a2 a3 s P) : Par (d + 1) 190 [.ref 213, .int a1, .int a2, .int a3] s P := par_of (E := xE_190) (ml := 6) (ret := none) rfl (fun _ => lk_190_0 h)
/-! put -/
def ub_191_68 (T : Nat → List Value → yS → (Option Value → yS → Prop) → Prop) (R7 : Int32 → Int32 → Int32 → Int32 → Int32 → Int32 → yS → Prop) (R42 : Int32 → Int32 → Int32 → Int32 → Int32 → Int32 → Int32 → Int32 → Int32 → yS → Prop) (a1 : Int32) (a2 : Int32) (a3 : Int32) (a4 : Int32) (a5 : Int32) (a6 : Int32) (a7 : Int32) (a8 : Int32) (a9 : Int32) (t1 : Int32) (t2 : Int32) (s : yS) (P : Option Value → yS → Prop) : Prop :=
  ((0 ≤ t1.toInt ∧ t1.toInt < 200000) → ∀ s1, s1 = sa s 264 t1.toInt.toNat t2 → ((-2147483648 ≤ a9.toInt + 1 ∧ a9.toInt + 1 ≤ 2147483647) → ∀ x2 : Int32, x2.toInt = a9.toInt + 1 → R42 a1 a2 a3 a4 a5 a6 a7 a8 x2  s1))
set_option maxRecDepth 20000 in
theorem lk_191_68 {d N0 : Nat} {R7 : Int32 → Int32 → Int32 → Int32 → Int32 → Int32 → yS → Prop} {R42 : Int32 → Int32 → Int32 → Int32 → Int32 → Int32 → Int32 → Int32 → Int32 → yS → Prop} {a1 : Int32} {a2 : Int32} {a3 : Int32} {a4 : Int32} {a5 : Int32} {a6 : Int32} {a7 : Int32} {a8 : Int32} {a9 : Int32} {t1 : Int32} {t2 : Int32} {s : yS} {P : Option Value → yS → Prop} (r7 : ∀ a1 a2 a3 a4 a5 a6 s, R7 a1 a2 a3 a4 a5 a6 s → Lb d N0 10 (some .boolean) xE_191 (xE_191.drop 7) [.ref 213, .int a1, .int a2, .int a3, .int a4, .int a5, .int a6, .null, .null, .null, .null, .null, .null, .null] [] s P) (r42 : ∀ a1 a2 a3 a4 a5 a6 a7 a8 a9 s, R42 a1 a2 a3 a4 a5 a6 a7 a8 a9 s → Lb d N0 10 (some .boolean) xE_191 (xE_191.drop 42) [.ref 213, .int a1, .int a2, .int a3, .int a4, .int a5, .int a6, .int a7, .int a8, .int a9, .null, .null, .null, .null] [] s P) (h : ub_191_68 (Par d) R7 R42 a1 a2 a3 a4 a5 a6 a7 a8 a9 t1 t2 s P) : Lb d N0 10 (some .boolean) xE_191 (xE_191.drop 68) [.ref 213, .int a1, .int a2, .int a3, .int a4, .int a5, .int a6, .int a7, .int a8, .int a9, .null, .null, .null, .null] [.int t2, .int t1, .ref 264] s P := by
  unfold ub_191_68 at h
  refine Lb_w (lb_ias rfl rfl (fun hk => ?_))
  replace h := h (kc_in (x := t1) rfl hk)
  replace h := h _ rfl
  refine Lb_w (lb_inc [.ref 213, .int a1, .int a2, .int a3, .int a4, .int a5, .int a6, .int a7, .int a8, .int (a9 + 1), .null, .null, .null, .null] rfl rfl rfl rfl (fun hk => ?_))
  replace hk := kc_inc (x := a9) (n := 1) rfl hk
  replace h := h hk _ (i_add (x := a9) (y := 1) rfl (show (1 : Int32).toInt = 1 by decide) hk)
  refine Lb_w (lb_go rfl ?_)
  exact r42 a1 a2 a3 a4 a5 a6 a7 a8 (a9 + 1)  (sa s 264 t1.toInt.toNat t2) h
def ub_191_42 (T : Nat → List Value → yS → (Option Value → yS → Prop) → Prop) (R7 : Int32 → Int32 → Int32 → Int32 → Int32 → Int32 → yS → Prop) (R42 : Int32 → Int32 → Int32 → Int32 → Int32 → Int32 → Int32 → Int32 → Int32 → yS → Prop) (a1 : Int32) (a2 : Int32) (a3 : Int32) (a4 : Int32) (a5 : Int32) (a6 : Int32) (a7 : Int32) (a8 : Int32) (a9 : Int32) (s : yS) (P : Option Value → yS → Prop) : Prop :=
  (a8.toInt ≤ a9.toInt → ((-2147483648 ≤ a5.toInt + a8.toInt ∧ a5.toInt + a8.toInt ≤ 2147483647) → ∀ x1 : Int32, x1.toInt = a5.toInt + a8.toInt → ((-2147483648 ≤ a6.toInt + 1 ∧ a6.toInt + 1 ≤ 2147483647) → ∀ x2 : Int32, x2.toInt = a6.toInt + 1 → R7 a1 a2 a3 a4 x1 x2  s))) ∧ (¬ (a8.toInt ≤ a9.toInt) → ((-2147483648 ≤ a4.toInt + a5.toInt ∧ a4.toInt + a5.toInt ≤ 2147483647) → ∀ x3 : Int32, x3.toInt = a4.toInt + a5.toInt → ((-2147483648 ≤ x3.toInt + a9.toInt ∧ x3.toInt + a9.toInt ≤ 2147483647) → ∀ x4 : Int32, x4.toInt = x3.toInt + a9.toInt → (0 ≤ a7.toInt → ((0 ≤ a7.toInt ∧ a7.toInt < 3600) → ((-2147483648 ≤ (s.2.1 267 a7.toInt.toNat).toInt + a9.toInt ∧ (s.2.1 267 a7.toInt.toNat).toInt + a9.toInt ≤ 2147483647) → ∀ x5 : Int32, x5.toInt = (s.2.1 267 a7.toInt.toNat).toInt + a9.toInt → ((0 ≤ x5.toInt ∧ x5.toInt < 200000) → ub_191_68 T R7 R42 a1 a2 a3 a4 a5 a6 a7 a8 a9 x4 (s.2.1 264 x5.toInt.toNat) s P)))) ∧ (¬ (0 ≤ a7.toInt) → ((0 ≤ a6.toInt ∧ a6.toInt < 200000) → ub_191_68 T R7 R42 a1 a2 a3 a4 a5 a6 a7 a8 a9 x4 (s.2.1 264 a6.toInt.toNat) s P)))))
set_option maxRecDepth 20000 in
theorem lk_191_42 {d N0 : Nat} {R7 : Int32 → Int32 → Int32 → Int32 → Int32 → Int32 → yS → Prop} {R42 : Int32 → Int32 → Int32 → Int32 → Int32 → Int32 → Int32 → Int32 → Int32 → yS → Prop} {a1 : Int32} {a2 : Int32} {a3 : Int32} {a4 : Int32} {a5 : Int32} {a6 : Int32} {a7 : Int32} {a8 : Int32} {a9 : Int32} {s : yS} {P : Option Value → yS → Prop} (r7 : ∀ a1 a2 a3 a4 a5 a6 s, R7 a1 a2 a3 a4 a5 a6 s → Lb d N0 10 (some .boolean) xE_191 (xE_191.drop 7) [.ref 213, .int a1, .int a2, .int a3, .int a4, .int a5, .int a6, .null, .null, .null, .null, .null, .null, .null] [] s P) (r42 : ∀ a1 a2 a3 a4 a5 a6 a7 a8 a9 s, R42 a1 a2 a3 a4 a5 a6 a7 a8 a9 s → Lb d N0 10 (some .boolean) xE_191 (xE_191.drop 42) [.ref 213, .int a1, .int a2, .int a3, .int a4, .int a5, .int a6, .int a7, .int a8, .int a9, .null, .null, .null, .null] [] s P) (h : ub_191_42 (Par d) R7 R42 a1 a2 a3 a4 a5 a6 a7 a8 a9 s P) : Lb d (N0 + 1) 10 (some .boolean) xE_191 (xE_191.drop 42) [.ref 213, .int a1, .int a2, .int a3, .int a4, .int a5, .int a6, .int a7, .int a8, .int a9, .null, .null, .null, .null] [] s P := by
  unfold ub_191_42 at h
  refine lb_ld rfl rfl rfl ?_
  refine Lb_w (lb_ld rfl rfl rfl ?_)
  refine Lb_w (lb_brP rfl rfl ⟨fun hc => ?_, fun hc => ?_⟩)
  · replace h := h.1 ((i_le (x := a8) (y := a9) rfl rfl).mp hc)
    refine Lb_w (lb_ld rfl rfl rfl ?_)
    refine Lb_w (lb_ld rfl rfl rfl ?_)
    refine Lb_w (lb_ca [.int (a5 + a8)] xo_iadd rfl rfl (fun _ hk => ?_))
    replace hk := kc_add (x := a5) (y := a8) rfl rfl hk
    replace h := h hk _ (i_add (x := a5) (y := a8) rfl rfl hk)
    refine Lb_w (lb_st [.ref 213, .int a1, .int a2, .int a3, .int a4, .int (a5 + a8), .int a6, .int a7, .int a8, .int a9, .null, .null, .null, .null] rfl rfl rfl ?_)
    refine Lb_w (lb_inc [.ref 213, .int a1, .int a2, .int a3, .int a4, .int (a5 + a8), .int (a6 + 1), .int a7, .int a8, .int a9, .null, .null, .null, .null] rfl rfl rfl rfl (fun hk => ?_))
    replace hk := kc_inc (x := a6) (n := 1) rfl hk
    replace h := h hk _ (i_add (x := a6) (y := 1) rfl (show (1 : Int32).toInt = 1 by decide) hk)
    refine Lb_w (lb_go rfl ?_)
    refine lb_fg 7 ?_
    refine lb_fg 8 ?_
    refine lb_fg 9 ?_
    exact r7 a1 a2 a3 a4 (a5 + a8) (a6 + 1)  s h
  · replace h := h.2 (fun q => hc ((i_le (x := a8) (y := a9) rfl rfl).mpr q))
    refine Lb_w (lb_ld rfl rfl rfl ?_)
    refine Lb_w (lb_get rfl rfl ?_)
    change Lb _ _ _ _ _ _ _ [.ref 264] _ _
    refine Lb_w (lb_ld rfl rfl rfl ?_)
    refine Lb_w (lb_ld rfl rfl rfl ?_)
    refine Lb_w (lb_ca [.int (a4 + a5), .ref 264] xo_iadd rfl rfl (fun _ hk => ?_))
    replace hk := kc_add (x := a4) (y := a5) rfl rfl hk
    replace h := h hk _ (i_add (x := a4) (y := a5) rfl rfl hk)
    refine Lb_w (lb_ld rfl rfl rfl ?_)
    refine Lb_w (lb_ca [.int ((a4 + a5) + a9), .ref 264] xo_iadd rfl rfl (fun _ hk => ?_))
    replace hk := kc_add (x := (a4 + a5)) (y := a9) rfl rfl hk
    replace h := h hk _ (i_add (x := (a4 + a5)) (y := a9) rfl rfl hk)
    refine Lb_w (lb_ld rfl rfl rfl ?_)
    refine Lb_w (lb_brP rfl rfl ⟨fun hc => ?_, fun hc => ?_⟩)
    · replace h := h.1 ((i_le (x := 0) (y := a7) (show (0 : Int32).toInt = 0 by decide) rfl).mp hc)
      refine Lb_w (lb_ld rfl rfl rfl ?_)
      refine Lb_w (lb_get rfl rfl ?_)
      change Lb _ _ _ _ _ _ _ [.ref 264, .int ((a4 + a5) + a9), .ref 264] _ _
      refine Lb_w (lb_ld rfl rfl rfl ?_)
      refine Lb_w (lb_get rfl rfl ?_)
      change Lb _ _ _ _ _ _ _ [.ref 267, .ref 264, .int ((a4 + a5) + a9), .ref 264] _ _
      refine Lb_w (lb_ld rfl rfl rfl ?_)
      refine Lb_w (lb_ial rfl rfl (fun hk => ?_))
      change Lb _ _ _ _ _ _ _ [.int (s.2.1 267 a7.toInt.toNat), .ref 264, .int ((a4 + a5) + a9), .ref 264] _ _
      replace h := h (kc_in (x := a7) rfl hk)
      refine Lb_w (lb_ld rfl rfl rfl ?_)
      refine Lb_w (lb_ca [.int ((s.2.1 267 a7.toInt.toNat) + a9), .ref 264, .int ((a4 + a5) + a9), .ref 264] xo_iadd rfl rfl (fun _ hk => ?_))
      replace hk := kc_add (x := s.2.1 267 a7.toInt.toNat) (y := a9) rfl rfl hk
      replace h := h hk _ (i_add (x := s.2.1 267 a7.toInt.toNat) (y := a9) rfl rfl hk)
      refine Lb_w (lb_ial rfl rfl (fun hk => ?_))
      change Lb _ _ _ _ _ _ _ [.int (s.2.1 264 ((s.2.1 267 a7.toInt.toNat) + a9).toInt.toNat), .int ((a4 + a5) + a9), .ref 264] _ _
      replace h := h (kc_in (x := ((s.2.1 267 a7.toInt.toNat) + a9)) rfl hk)
      exact lk_191_68 r7 r42 h
    · replace h := h.2 (fun q => hc ((i_le (x := 0) (y := a7) (show (0 : Int32).toInt = 0 by decide) rfl).mpr q))
      refine Lb_w (lb_ld rfl rfl rfl ?_)
      refine Lb_w (lb_get rfl rfl ?_)
      change Lb _ _ _ _ _ _ _ [.ref 264, .int ((a4 + a5) + a9), .ref 264] _ _
      refine Lb_w (lb_ld rfl rfl rfl ?_)
      refine Lb_w (lb_ial rfl rfl (fun hk => ?_))
      change Lb _ _ _ _ _ _ _ [.int (s.2.1 264 a6.toInt.toNat), .int ((a4 + a5) + a9), .ref 264] _ _
      replace h := h (kc_in (x := a6) rfl hk)
      refine Lb_w (lb_go rfl ?_)
      exact lk_191_68 r7 r42 h
def ubl_191_42 (T : Nat → List Value → yS → (Option Value → yS → Prop) → Prop) (R7 : Int32 → Int32 → Int32 → Int32 → Int32 → Int32 → yS → Prop) (a1 : Int32) (a2 : Int32) (a3 : Int32) (a4 : Int32) (a5 : Int32) (a6 : Int32) (a7 : Int32) (a8 : Int32) (a9 : Int32) (s : yS) (P : Option Value → yS → Prop) : Prop :=
  ∃ (I : Int32 → Int32 → Int32 → Int32 → Int32 → Int32 → Int32 → Int32 → Int32 → yS → Prop), I a1 a2 a3 a4 a5 a6 a7 a8 a9 s ∧ ∀ (a1 : Int32) (a2 : Int32) (a3 : Int32) (a4 : Int32) (a5 : Int32) (a6 : Int32) (a7 : Int32) (a8 : Int32) (a9 : Int32) (s : yS), I a1 a2 a3 a4 a5 a6 a7 a8 a9 s → ub_191_42 T R7 I a1 a2 a3 a4 a5 a6 a7 a8 a9 s P
theorem lkl_191_42 {d N0 : Nat} {R7 : Int32 → Int32 → Int32 → Int32 → Int32 → Int32 → yS → Prop} {a1 : Int32} {a2 : Int32} {a3 : Int32} {a4 : Int32} {a5 : Int32} {a6 : Int32} {a7 : Int32} {a8 : Int32} {a9 : Int32} {s : yS} {P : Option Value → yS → Prop} (r7 : ∀ a1 a2 a3 a4 a5 a6 s, R7 a1 a2 a3 a4 a5 a6 s → Lb d N0 10 (some .boolean) xE_191 (xE_191.drop 7) [.ref 213, .int a1, .int a2, .int a3, .int a4, .int a5, .int a6, .null, .null, .null, .null, .null, .null, .null] [] s P) (h : ubl_191_42 (Par d) R7 a1 a2 a3 a4 a5 a6 a7 a8 a9 s P) : Lb d N0 10 (some .boolean) xE_191 (xE_191.drop 42) [.ref 213, .int a1, .int a2, .int a3, .int a4, .int a5, .int a6, .int a7, .int a8, .int a9, .null, .null, .null, .null] [] s P := by
  obtain ⟨I, h0, h1⟩ := h
  have key : ∀ (m : Nat), m ≤ N0 → ∀ (a1 : Int32) (a2 : Int32) (a3 : Int32) (a4 : Int32) (a5 : Int32) (a6 : Int32) (a7 : Int32) (a8 : Int32) (a9 : Int32) (s : yS), I a1 a2 a3 a4 a5 a6 a7 a8 a9 s → Lb d m 10 (some .boolean) xE_191 (xE_191.drop 42) [.ref 213, .int a1, .int a2, .int a3, .int a4, .int a5, .int a6, .int a7, .int a8, .int a9, .null, .null, .null, .null] [] s P := by
    intro m
    induction m with
    | zero => exact fun _ a1 a2 a3 a4 a5 a6 a7 a8 a9 s _ => Lb_0
    | succ m ih =>
      intro hm
      replace hm : m ≤ N0 := Nat.le_of_succ_le hm
      replace ih := ih hm
      intro a1 a2 a3 a4 a5 a6 a7 a8 a9 s hI
      exact lk_191_42 (fun a1 a2 a3 a4 a5 a6 s q => Lb_le hm (r7 a1 a2 a3 a4 a5 a6 s q)) ih (h1 a1 a2 a3 a4 a5 a6 a7 a8 a9 s hI)
  exact key N0 (Nat.le_refl _) a1 a2 a3 a4 a5 a6 a7 a8 a9 s h0
def ub_191_29 (T : Nat → List Value → yS → (Option Value → yS → Prop) → Prop) (R7 : Int32 → Int32 → Int32 → Int32 → Int32 → Int32 → yS → Prop) (a1 : Int32) (a2 : Int32) (a3 : Int32) (a4 : Int32) (a5 : Int32) (a6 : Int32) (a7 : Int32) (t0 : Int32) (s : yS) (P : Option Value → yS → Prop) : Prop :=
  ((-2147483648 ≤ a5.toInt + t0.toInt ∧ a5.toInt + t0.toInt ≤ 2147483647) → ∀ x1 : Int32, x1.toInt = a5.toInt + t0.toInt → (x1.toInt ≤ 60 → ubl_191_42 T R7 a1 a2 a3 a4 a5 a6 a7 t0 0  s P) ∧ (¬ (x1.toInt ≤ 60) → ∀ s2, s2 = sf s 64 a4 → P (some (.int 0)) s2))
set_option maxRecDepth 20000 in
theorem lk_191_29 {d N0 : Nat} {R7 : Int32 → Int32 → Int32 → Int32 → Int32 → Int32 → yS → Prop} {a1 : Int32} {a2 : Int32} {a3 : Int32} {a4 : Int32} {a5 : Int32} {a6 : Int32} {a7 : Int32} {t0 : Int32} {s : yS} {P : Option Value → yS → Prop} (r7 : ∀ a1 a2 a3 a4 a5 a6 s, R7 a1 a2 a3 a4 a5 a6 s → Lb d N0 10 (some .boolean) xE_191 (xE_191.drop 7) [.ref 213, .int a1, .int a2, .int a3, .int a4, .int a5, .int a6, .null, .null, .null, .null, .null, .null, .null] [] s P) (h : ub_191_29 (Par d) R7 a1 a2 a3 a4 a5 a6 a7 t0 s P) : Lb d N0 10 (some .boolean) xE_191 (xE_191.drop 29) [.ref 213, .int a1, .int a2, .int a3, .int a4, .int a5, .int a6, .int a7, .null, .null, .null, .null, .null, .null] [.int t0] s P := by
  unfold ub_191_29 at h
  refine Lb_w (lb_st [.ref 213, .int a1, .int a2, .int a3, .int a4, .int a5, .int a6, .int a7, .int t0, .null, .null, .null, .null, .null] rfl rfl rfl ?_)
  refine Lb_w (lb_ld rfl rfl rfl ?_)
  refine Lb_w (lb_ld rfl rfl rfl ?_)
  refine Lb_w (lb_ca [.int (a5 + t0)] xo_iadd rfl rfl (fun _ hk => ?_))
  replace hk := kc_add (x := a5) (y := t0) rfl rfl hk
  replace h := h hk _ (i_add (x := a5) (y := t0) rfl rfl hk)
  refine Lb_w (lb_c [.int 60, .int (a5 + t0)] (xo_push (.int 60)) rfl rfl ?_)
  refine Lb_w (lb_brP rfl rfl ⟨fun hc => ?_, fun hc => ?_⟩)
  · replace h := h.1 ((i_le (x := (a5 + t0)) (y := 60) rfl (show (60 : Int32).toInt = 60 by decide)).mp hc)
    refine Lb_w (lb_c [.int 0] (xo_push (.int 0)) rfl rfl ?_)
    refine Lb_w (lb_st [.ref 213, .int a1, .int a2, .int a3, .int a4, .int a5, .int a6, .int a7, .int t0, .int 0, .null, .null, .null, .null] rfl rfl rfl ?_)
    exact lkl_191_42 r7 h
  · replace h := h.2 (fun q => hc ((i_le (x := (a5 + t0)) (y := 60) rfl (show (60 : Int32).toInt = 60 by decide)).mpr q))
    refine Lb_w (lb_ld rfl rfl rfl ?_)
    refine Lb_w (lb_ld rfl rfl rfl ?_)
    refine Lb_w (lb_put rfl rfl (fun hk => ?_))
    replace h := h _ rfl
    refine Lb_w (lb_c [.int 0] (xo_push (.int 0)) rfl rfl ?_)
    exact Lb_w (lb_retZ rfl (fun _ => h))
def ub_191_7 (T : Nat → List Value → yS → (Option Value → yS → Prop) → Prop) (R7 : Int32 → Int32 → Int32 → Int32 → Int32 → Int32 → yS → Prop) (a1 : Int32) (a2 : Int32) (a3 : Int32) (a4 : Int32) (a5 : Int32) (a6 : Int32) (s : yS) (P : Option Value → yS → Prop) : Prop :=
  ((-2147483648 ≤ a1.toInt + a2.toInt ∧ a1.toInt + a2.toInt ≤ 2147483647) → ∀ x1 : Int32, x1.toInt = a1.toInt + a2.toInt → (x1.toInt ≤ a6.toInt → ∀ s2, s2 = sf s 71 a4 → ∀ s3, s3 = sf s2 72 a5 → ((-2147483648 ≤ a4.toInt + a5.toInt ∧ a4.toInt + a5.toInt ≤ 2147483647) → ∀ x4 : Int32, x4.toInt = a4.toInt + a5.toInt → ∀ s5, s5 = sf s3 64 x4 → P (some (.int 1)) s5)) ∧ (¬ (x1.toInt ≤ a6.toInt) → ((0 ≤ a6.toInt ∧ a6.toInt < 200000) → T 185 [.int (s.2.1 264 a6.toInt.toNat)] s (fun v7 s6 => ∃ x8, v7 = some (.int x8) ∧ (T 192 [.ref 213, .int x8, .int a3] s6 (fun v10 s9 => ∃ x11, v10 = some (.int x11) ∧ ((0 ≤ x11.toInt → ((0 ≤ x11.toInt ∧ x11.toInt < 3600) → ub_191_29 T R7 a1 a2 a3 a4 a5 a6 x11 (s9.2.1 268 x11.toInt.toNat) s9 P)) ∧ (¬ (0 ≤ x11.toInt) → ub_191_29 T R7 a1 a2 a3 a4 a5 a6 x11 1 s9 P))))))))
set_option maxRecDepth 20000 in
theorem lk_191_7 {d N0 : Nat} {R7 : Int32 → Int32 → Int32 → Int32 → Int32 → Int32 → yS → Prop} {a1 : Int32} {a2 : Int32} {a3 : Int32} {a4 : Int32} {a5 : Int32} {a6 : Int32} {s : yS} {P : Option Value → yS → Prop} (r7 : ∀ a1 a2 a3 a4 a5 a6 s, R7 a1 a2 a3 a4 a5 a6 s → Lb d N0 10 (some .boolean) xE_191 (xE_191.drop 7) [.ref 213, .int a1, .int a2, .int a3, .int a4, .int a5, .int a6, .null, .null, .null, .null, .null, .null, .null] [] s P) (h : ub_191_7 (Par d) R7 a1 a2 a3 a4 a5 a6 s P) : Lb d (N0 + 1) 10 (some .boolean) xE_191 (xE_191.drop 7) [.ref 213, .int a1, .int a2, .int a3, .int a4, .int a5, .int a6, .null, .null, .null, .null, .null, .null, .null] [] s P := by
  unfold ub_191_7 at h
  refine lb_ld rfl rfl rfl ?_
  refine Lb_w (lb_ld rfl rfl rfl ?_)
  refine Lb_w (lb_ld rfl rfl rfl ?_)
  refine Lb_w (lb_ca [.int (a1 + a2), .int a6] xo_iadd rfl rfl (fun _ hk => ?_))
  replace hk := kc_add (x := a1) (y := a2) rfl rfl hk
  replace h := h hk _ (i_add (x := a1) (y := a2) rfl rfl hk)
  refine Lb_w (lb_brP rfl rfl ⟨fun hc => ?_, fun hc => ?_⟩)
  · replace h := h.1 ((i_le (x := (a1 + a2)) (y := a6) rfl rfl).mp hc)
    refine Lb_w (lb_ld rfl rfl rfl ?_)
    refine Lb_w (lb_ld rfl rfl rfl ?_)
    refine Lb_w (lb_put rfl rfl (fun hk => ?_))
    replace h := h _ rfl
    refine Lb_w (lb_ld rfl rfl rfl ?_)
    refine Lb_w (lb_ld rfl rfl rfl ?_)
    refine Lb_w (lb_put rfl rfl (fun hk => ?_))
    replace h := h _ rfl
    refine Lb_w (lb_ld rfl rfl rfl ?_)
    refine Lb_w (lb_ld rfl rfl rfl ?_)
    refine Lb_w (lb_ld rfl rfl rfl ?_)
    refine Lb_w (lb_ca [.int (a4 + a5), .ref 213] xo_iadd rfl rfl (fun _ hk => ?_))
    replace hk := kc_add (x := a4) (y := a5) rfl rfl hk
    replace h := h hk _ (i_add (x := a4) (y := a5) rfl rfl hk)
    refine Lb_w (lb_put rfl rfl (fun hk => ?_))
    replace h := h _ rfl
    refine Lb_w (lb_c [.int 1] (xo_push (.int 1)) rfl rfl ?_)
    exact Lb_w (lb_retZ rfl (fun _ => h))
  · replace h := h.2 (fun q => hc ((i_le (x := (a1 + a2)) (y := a6) rfl rfl).mpr q))
    refine Lb_w (lb_ld rfl rfl rfl ?_)
    refine Lb_w (lb_ld rfl rfl rfl ?_)
    refine Lb_w (lb_get rfl rfl ?_)
    change Lb _ _ _ _ _ _ _ [.ref 264, .ref 213] _ _
    refine Lb_w (lb_ld rfl rfl rfl ?_)
    refine Lb_w (lb_ial rfl rfl (fun hk => ?_))
    change Lb _ _ _ _ _ _ _ [.int (s.2.1 264 a6.toInt.toNat), .ref 213] _ _
    replace h := h (kc_in (x := a6) rfl hk)
    refine Lb_w (lb_call [.int (s.2.1 264 a6.toInt.toNat)] [.ref 213] rfl rfl rfl (Par.imp h (fun v7 s6 h => ?_)))
    obtain ⟨x8, rfl, h⟩ := h
    change Lb _ _ _ _ _ _ _ [.int x8, .ref 213] _ _
    refine Lb_w (lb_ld rfl rfl rfl ?_)
    refine Lb_w (lb_call [.ref 213, .int x8, .int a3] [] rfl rfl rfl (Par.imp h (fun v10 s9 h => ?_)))
    obtain ⟨x11, rfl, h⟩ := h
    change Lb _ _ _ _ _ _ _ [.int x11] _ _
    refine Lb_w (lb_st [.ref 213, .int a1, .int a2, .int a3, .int a4, .int a5, .int a6, .int x11, .null, .null, .null, .null, .null, .null] rfl rfl rfl ?_)
    refine Lb_w (lb_ld rfl rfl rfl ?_)
    refine Lb_w (lb_brP rfl rfl ⟨fun hc => ?_, fun hc => ?_⟩)
    · replace h := h.1 ((i_le (x := 0) (y := x11) (show (0 : Int32).toInt = 0 by decide) rfl).mp hc)
      refine Lb_w (lb_ld rfl rfl rfl ?_)
      refine Lb_w (lb_get rfl rfl ?_)
      change Lb _ _ _ _ _ _ _ [.ref 268] _ _
      refine Lb_w (lb_ld rfl rfl rfl ?_)
      refine Lb_w (lb_ial rfl rfl (fun hk => ?_))
      change Lb _ _ _ _ _ _ _ [.int (s9.2.1 268 x11.toInt.toNat)] _ _
      replace h := h (kc_in (x := x11) rfl hk)
      exact lk_191_29 r7 h
    · replace h := h.2 (fun q => hc ((i_le (x := 0) (y := x11) (show (0 : Int32).toInt = 0 by decide) rfl).mpr q))
      refine Lb_w (lb_c [.int 1] (xo_push (.int 1)) rfl rfl ?_)
      refine Lb_w (lb_go rfl ?_)
      exact lk_191_29 r7 h
def ubl_191_7 (T : Nat → List Value → yS → (Option Value → yS → Prop) → Prop)  (a1 : Int32) (a2 : Int32) (a3 : Int32) (a4 : Int32) (a5 : Int32) (a6 : Int32) (s : yS) (P : Option Value → yS → Prop) : Prop :=
  ∃ (I : Int32 → Int32 → Int32 → Int32 → Int32 → Int32 → yS → Prop), I a1 a2 a3 a4 a5 a6 s ∧ ∀ (a1 : Int32) (a2 : Int32) (a3 : Int32) (a4 : Int32) (a5 : Int32) (a6 : Int32) (s : yS), I a1 a2 a3 a4 a5 a6 s → ub_191_7 T I a1 a2 a3 a4 a5 a6 s P
theorem lkl_191_7 {d N0 : Nat}  {a1 : Int32} {a2 : Int32} {a3 : Int32} {a4 : Int32} {a5 : Int32} {a6 : Int32} {s : yS} {P : Option Value → yS → Prop}  (h : ubl_191_7 (Par d)  a1 a2 a3 a4 a5 a6 s P) : Lb d N0 10 (some .boolean) xE_191 (xE_191.drop 7) [.ref 213, .int a1, .int a2, .int a3, .int a4, .int a5, .int a6, .null, .null, .null, .null, .null, .null, .null] [] s P := by
  obtain ⟨I, h0, h1⟩ := h
  have key : ∀ (m : Nat), m ≤ N0 → ∀ (a1 : Int32) (a2 : Int32) (a3 : Int32) (a4 : Int32) (a5 : Int32) (a6 : Int32) (s : yS), I a1 a2 a3 a4 a5 a6 s → Lb d m 10 (some .boolean) xE_191 (xE_191.drop 7) [.ref 213, .int a1, .int a2, .int a3, .int a4, .int a5, .int a6, .null, .null, .null, .null, .null, .null, .null] [] s P := by
    intro m
    induction m with
    | zero => exact fun _ a1 a2 a3 a4 a5 a6 s _ => Lb_0
    | succ m ih =>
      intro hm
      replace hm : m ≤ N0 := Nat.le_of_succ_le hm
      replace ih := ih hm
      intro a1 a2 a3 a4 a5 a6 s hI
      exact lk_191_7 ih (h1 a1 a2 a3 a4 a5 a6 s hI)
  exact key N0 (Nat.le_refl _) a1 a2 a3 a4 a5 a6 s h0
def ub_191_0 (T : Nat → List Value → yS → (Option Value → yS → Prop) → Prop)  (a1 : Int32) (a2 : Int32) (a3 : Int32) (s : yS) (P : Option Value → yS → Prop) : Prop :=
  ubl_191_7 T  a1 a2 a3 (s.1 64) 0 a1  s P
set_option maxRecDepth 20000 in
theorem lk_191_0 {d N0 : Nat}  {a1 : Int32} {a2 : Int32} {a3 : Int32} {s : yS} {P : Option Value → yS → Prop}  (h : ub_191_0 (Par d)  a1 a2 a3 s P) : Lb d N0 10 (some .boolean) xE_191 (xE_191.drop 0) [.ref 213, .int a1, .int a2, .int a3, .null, .null, .null, .null, .null, .null, .null, .null, .null, .null] [] s P := by
  unfold ub_191_0 at h
  refine Lb_w (lb_ld rfl rfl rfl ?_)
  refine Lb_w (lb_get rfl rfl ?_)
  change Lb _ _ _ _ _ _ _ [.int (s.1 64)] _ _
  refine Lb_w (lb_st [.ref 213, .int a1, .int a2, .int a3, .int (s.1 64), .null, .null, .null, .null, .null, .null, .null, .null, .null] rfl rfl rfl ?_)
  refine Lb_w (lb_c [.int 0] (xo_push (.int 0)) rfl rfl ?_)
  refine Lb_w (lb_st [.ref 213, .int a1, .int a2, .int a3, .int (s.1 64), .int 0, .null, .null, .null, .null, .null, .null, .null, .null] rfl rfl rfl ?_)
  refine Lb_w (lb_ld rfl rfl rfl ?_)
  refine Lb_w (lb_st [.ref 213, .int a1, .int a2, .int a3, .int (s.1 64), .int 0, .int a1, .null, .null, .null, .null, .null, .null, .null] rfl rfl rfl ?_)
  exact lkl_191_7  h
theorem pb_191 {d : Nat} {a1 : Int32} {a2 : Int32} {a3 : Int32} {s : yS} {P : Option Value → yS → Prop} (h : ub_191_0 (Par d) a1 a2 a3 s P) : Par (d + 1) 191 [.ref 213, .int a1, .int a2, .int a3] s P := par_of (E := xE_191) (ml := 10) (ret := some .boolean) rfl (fun _ => lk_191_0 h)
/-! found -/
def ub_192_37 (T : Nat → List Value → yS → (Option Value → yS → Prop) → Prop)  (a1 : Int32) (a2 : Int32) (a3 : Int32) (s : yS) (P : Option Value → yS → Prop) : Prop :=
  P (some (.int (-1))) s
set_option maxRecDepth 20000 in
theorem lk_192_37 {d N0 : Nat}  {a1 : Int32} {a2 : Int32} {a3 : Int32} {s : yS} {P : Option Value → yS → Prop}  (h : ub_192_37 (Par d)  a1 a2 a3 s P) : Lb d N0 6 (some .int) xE_192 (xE_192.drop 37) [.ref 213, .int a1, .int a2, .int a3, .null, .null, .null, .null, .null] [] s P := by
  unfold ub_192_37 at h
  refine Lb_w (lb_c [.int (-1)] (xo_push (.int (-1))) rfl rfl ?_)
  exact Lb_w (lb_retI rfl h)
def ub_192_35 (T : Nat → List Value → yS → (Option Value → yS → Prop) → Prop) (R2 : Int32 → Int32 → Int32 → yS → Prop) (a1 : Int32) (a2 : Int32) (a3 : Int32) (a4 : Int32) (a5 : Int32) (s : yS) (P : Option Value → yS → Prop) : Prop :=
  ((-2147483648 ≤ a3.toInt + 1 ∧ a3.toInt + 1 ≤ 2147483647) → ∀ x1 : Int32, x1.toInt = a3.toInt + 1 → R2 a1 a2 x1  s)
set_option maxRecDepth 20000 in
theorem lk_192_35 {d N0 : Nat} {R2 : Int32 → Int32 → Int32 → yS → Prop} {a1 : Int32} {a2 : Int32} {a3 : Int32} {a4 : Int32} {a5 : Int32} {s : yS} {P : Option Value → yS → Prop} (r2 : ∀ a1 a2 a3 s, R2 a1 a2 a3 s → Lb d N0 6 (some .int) xE_192 (xE_192.drop 2) [.ref 213, .int a1, .int a2, .int a3, .null, .null, .null, .null, .null] [] s P) (h : ub_192_35 (Par d) R2 a1 a2 a3 a4 a5 s P) : Lb d N0 6 (some .int) xE_192 (xE_192.drop 35) [.ref 213, .int a1, .int a2, .int a3, .int a4, .int a5, .null, .null, .null] [] s P := by
  unfold ub_192_35 at h
  refine Lb_w (lb_inc [.ref 213, .int a1, .int a2, .int (a3 + 1), .int a4, .int a5, .null, .null, .null] rfl rfl rfl rfl (fun hk => ?_))
  replace hk := kc_inc (x := a3) (n := 1) rfl hk
  replace h := h hk _ (i_add (x := a3) (y := 1) rfl (show (1 : Int32).toInt = 1 by decide) hk)
  refine Lb_w (lb_go rfl ?_)
  refine lb_fg 4 ?_
  refine lb_fg 5 ?_
  exact r2 a1 a2 (a3 + 1)  s h
def ub_192_2 (T : Nat → List Value → yS → (Option Value → yS → Prop) → Prop) (R2 : Int32 → Int32 → Int32 → yS → Prop) (a1 : Int32) (a2 : Int32) (a3 : Int32) (s : yS) (P : Option Value → yS → Prop) : Prop :=
  (2 ≤ a3.toInt → ub_192_37 T  a1 a2 a3  s P) ∧ (¬ (2 ≤ a3.toInt) → (a1.toInt < 1000 → ub_192_37 T  a1 a2 a3  s P) ∧ (¬ (a1.toInt < 1000) → ((-2147483648 ≤ 2 * a2.toInt ∧ 2 * a2.toInt ≤ 2147483647) → ∀ x1 : Int32, x1.toInt = 2 * a2.toInt → ((-2147483648 ≤ x1.toInt + a3.toInt ∧ x1.toInt + a3.toInt ≤ 2147483647) → ∀ x2 : Int32, x2.toInt = x1.toInt + a3.toInt → ((0 ≤ x2.toInt ∧ x2.toInt < 600) → ((-2147483648 ≤ a1.toInt - (s.2.1 265 x2.toInt.toNat).toInt ∧ a1.toInt - (s.2.1 265 x2.toInt.toNat).toInt ≤ 2147483647) → ∀ x3 : Int32, x3.toInt = a1.toInt - (s.2.1 265 x2.toInt.toNat).toInt → (x3.toInt < 0 → ub_192_35 T R2 a1 a2 a3 x2 x3  s P) ∧ (¬ (x3.toInt < 0) → ((0 ≤ x2.toInt ∧ x2.toInt < 600) → ((s.2.1 266 x2.toInt.toNat).toInt ≤ x3.toInt → ub_192_35 T R2 a1 a2 a3 x2 x3  s P) ∧ (¬ ((s.2.1 266 x2.toInt.toNat).toInt ≤ x3.toInt) → ((-2147483648 ≤ 6 * x2.toInt ∧ 6 * x2.toInt ≤ 2147483647) → ∀ x4 : Int32, x4.toInt = 6 * x2.toInt → ((-2147483648 ≤ x4.toInt + x3.toInt ∧ x4.toInt + x3.toInt ≤ 2147483647) → ∀ x5 : Int32, x5.toInt = x4.toInt + x3.toInt → P (some (.int x5)) s)))))))))))
set_option maxRecDepth 20000 in
theorem lk_192_2 {d N0 : Nat} {R2 : Int32 → Int32 → Int32 → yS → Prop} {a1 : Int32} {a2 : Int32} {a3 : Int32} {s : yS} {P : Option Value → yS → Prop} (r2 : ∀ a1 a2 a3 s, R2 a1 a2 a3 s → Lb d N0 6 (some .int) xE_192 (xE_192.drop 2) [.ref 213, .int a1, .int a2, .int a3, .null, .null, .null, .null, .null] [] s P) (h : ub_192_2 (Par d) R2 a1 a2 a3 s P) : Lb d (N0 + 1) 6 (some .int) xE_192 (xE_192.drop 2) [.ref 213, .int a1, .int a2, .int a3, .null, .null, .null, .null, .null] [] s P := by
  unfold ub_192_2 at h
  refine lb_ld rfl rfl rfl ?_
  refine Lb_w (lb_c [.int 2, .int a3] (xo_push (.int 2)) rfl rfl ?_)
  refine Lb_w (lb_brP rfl rfl ⟨fun hc => ?_, fun hc => ?_⟩)
  · replace h := h.1 ((i_le (x := 2) (y := a3) (show (2 : Int32).toInt = 2 by decide) rfl).mp hc)
    exact lk_192_37  h
  · replace h := h.2 (fun q => hc ((i_le (x := 2) (y := a3) (show (2 : Int32).toInt = 2 by decide) rfl).mpr q))
    refine Lb_w (lb_ld rfl rfl rfl ?_)
    refine Lb_w (lb_c [.int 1000, .int a1] (xo_push (.int 1000)) rfl rfl ?_)
    refine Lb_w (lb_brP rfl rfl ⟨fun hc => ?_, fun hc => ?_⟩)
    · replace h := h.1 ((i_lt (x := a1) (y := 1000) rfl (show (1000 : Int32).toInt = 1000 by decide)).mp hc)
      exact lk_192_37  h
    · replace h := h.2 (fun q => hc ((i_lt (x := a1) (y := 1000) rfl (show (1000 : Int32).toInt = 1000 by decide)).mpr q))
      refine Lb_w (lb_c [.int 2] (xo_push (.int 2)) rfl rfl ?_)
      refine Lb_w (lb_ld rfl rfl rfl ?_)
      refine Lb_w (lb_ca [.int (2 * a2)] xo_imul rfl rfl (fun _ hk => ?_))
      replace hk := kc_mul (x := 2) (y := a2) (show (2 : Int32).toInt = 2 by decide) rfl hk
      replace h := h hk _ (i_mul (x := 2) (y := a2) (show (2 : Int32).toInt = 2 by decide) rfl hk)
      refine Lb_w (lb_ld rfl rfl rfl ?_)
      refine Lb_w (lb_ca [.int ((2 * a2) + a3)] xo_iadd rfl rfl (fun _ hk => ?_))
      replace hk := kc_add (x := (2 * a2)) (y := a3) rfl rfl hk
      replace h := h hk _ (i_add (x := (2 * a2)) (y := a3) rfl rfl hk)
      refine Lb_w (lb_st [.ref 213, .int a1, .int a2, .int a3, .int ((2 * a2) + a3), .null, .null, .null, .null] rfl rfl rfl ?_)
      refine Lb_w (lb_ld rfl rfl rfl ?_)
      refine Lb_w (lb_ld rfl rfl rfl ?_)
      refine Lb_w (lb_get rfl rfl ?_)
      change Lb _ _ _ _ _ _ _ [.ref 265, .int a1] _ _
      refine Lb_w (lb_ld rfl rfl rfl ?_)
      refine Lb_w (lb_ial rfl rfl (fun hk => ?_))
      change Lb _ _ _ _ _ _ _ [.int (s.2.1 265 ((2 * a2) + a3).toInt.toNat), .int a1] _ _
      replace h := h (kc_in (x := ((2 * a2) + a3)) rfl hk)
      refine Lb_w (lb_ca [.int (a1 - (s.2.1 265 ((2 * a2) + a3).toInt.toNat))] xo_isub rfl rfl (fun _ hk => ?_))
      replace hk := kc_sub (x := a1) (y := s.2.1 265 ((2 * a2) + a3).toInt.toNat) rfl rfl hk
      replace h := h hk _ (i_sub (x := a1) (y := s.2.1 265 ((2 * a2) + a3).toInt.toNat) rfl rfl hk)
      refine Lb_w (lb_st [.ref 213, .int a1, .int a2, .int a3, .int ((2 * a2) + a3), .int (a1 - (s.2.1 265 ((2 * a2) + a3).toInt.toNat)), .null, .null, .null] rfl rfl rfl ?_)
      refine Lb_w (lb_ld rfl rfl rfl ?_)
      refine Lb_w (lb_brP rfl rfl ⟨fun hc => ?_, fun hc => ?_⟩)
      · replace h := h.1 ((i_lt (x := (a1 - (s.2.1 265 ((2 * a2) + a3).toInt.toNat))) (y := 0) rfl (show (0 : Int32).toInt = 0 by decide)).mp hc)
        exact lk_192_35 r2 h
      · replace h := h.2 (fun q => hc ((i_lt (x := (a1 - (s.2.1 265 ((2 * a2) + a3).toInt.toNat))) (y := 0) rfl (show (0 : Int32).toInt = 0 by decide)).mpr q))
        refine Lb_w (lb_ld rfl rfl rfl ?_)
        refine Lb_w (lb_ld rfl rfl rfl ?_)
        refine Lb_w (lb_get rfl rfl ?_)
        change Lb _ _ _ _ _ _ _ [.ref 266, .int (a1 - (s.2.1 265 ((2 * a2) + a3).toInt.toNat))] _ _
        refine Lb_w (lb_ld rfl rfl rfl ?_)
        refine Lb_w (lb_ial rfl rfl (fun hk => ?_))
        change Lb _ _ _ _ _ _ _ [.int (s.2.1 266 ((2 * a2) + a3).toInt.toNat), .int (a1 - (s.2.1 265 ((2 * a2) + a3).toInt.toNat))] _ _
        replace h := h (kc_in (x := ((2 * a2) + a3)) rfl hk)
        refine Lb_w (lb_brP rfl rfl ⟨fun hc => ?_, fun hc => ?_⟩)
        · replace h := h.1 ((i_le (x := s.2.1 266 ((2 * a2) + a3).toInt.toNat) (y := (a1 - (s.2.1 265 ((2 * a2) + a3).toInt.toNat))) rfl rfl).mp hc)
          exact lk_192_35 r2 h
        · replace h := h.2 (fun q => hc ((i_le (x := s.2.1 266 ((2 * a2) + a3).toInt.toNat) (y := (a1 - (s.2.1 265 ((2 * a2) + a3).toInt.toNat))) rfl rfl).mpr q))
          refine Lb_w (lb_c [.int 6] (xo_push (.int 6)) rfl rfl ?_)
          refine Lb_w (lb_ld rfl rfl rfl ?_)
          refine Lb_w (lb_ca [.int (6 * ((2 * a2) + a3))] xo_imul rfl rfl (fun _ hk => ?_))
          replace hk := kc_mul (x := 6) (y := ((2 * a2) + a3)) (show (6 : Int32).toInt = 6 by decide) rfl hk
          replace h := h hk _ (i_mul (x := 6) (y := ((2 * a2) + a3)) (show (6 : Int32).toInt = 6 by decide) rfl hk)
          refine Lb_w (lb_ld rfl rfl rfl ?_)
          refine Lb_w (lb_ca [.int ((6 * ((2 * a2) + a3)) + (a1 - (s.2.1 265 ((2 * a2) + a3).toInt.toNat)))] xo_iadd rfl rfl (fun _ hk => ?_))
          replace hk := kc_add (x := (6 * ((2 * a2) + a3))) (y := (a1 - (s.2.1 265 ((2 * a2) + a3).toInt.toNat))) rfl rfl hk
          replace h := h hk _ (i_add (x := (6 * ((2 * a2) + a3))) (y := (a1 - (s.2.1 265 ((2 * a2) + a3).toInt.toNat))) rfl rfl hk)
          exact Lb_w (lb_retI rfl h)
def ubl_192_2 (T : Nat → List Value → yS → (Option Value → yS → Prop) → Prop)  (a1 : Int32) (a2 : Int32) (a3 : Int32) (s : yS) (P : Option Value → yS → Prop) : Prop :=
  ∃ (I : Int32 → Int32 → Int32 → yS → Prop), I a1 a2 a3 s ∧ ∀ (a1 : Int32) (a2 : Int32) (a3 : Int32) (s : yS), I a1 a2 a3 s → ub_192_2 T I a1 a2 a3 s P
theorem lkl_192_2 {d N0 : Nat}  {a1 : Int32} {a2 : Int32} {a3 : Int32} {s : yS} {P : Option Value → yS → Prop}  (h : ubl_192_2 (Par d)  a1 a2 a3 s P) : Lb d N0 6 (some .int) xE_192 (xE_192.drop 2) [.ref 213, .int a1, .int a2, .int a3, .null, .null, .null, .null, .null] [] s P := by
  obtain ⟨I, h0, h1⟩ := h
  have key : ∀ (m : Nat), m ≤ N0 → ∀ (a1 : Int32) (a2 : Int32) (a3 : Int32) (s : yS), I a1 a2 a3 s → Lb d m 6 (some .int) xE_192 (xE_192.drop 2) [.ref 213, .int a1, .int a2, .int a3, .null, .null, .null, .null, .null] [] s P := by
    intro m
    induction m with
    | zero => exact fun _ a1 a2 a3 s _ => Lb_0
    | succ m ih =>
      intro hm
      replace hm : m ≤ N0 := Nat.le_of_succ_le hm
      replace ih := ih hm
      intro a1 a2 a3 s hI
      exact lk_192_2 ih (h1 a1 a2 a3 s hI)
  exact key N0 (Nat.le_refl _) a1 a2 a3 s h0
def ub_192_0 (T : Nat → List Value → yS → (Option Value → yS → Prop) → Prop)  (a1 : Int32) (a2 : Int32) (s : yS) (P : Option Value → yS → Prop) : Prop :=
  ubl_192_2 T  a1 a2 0  s P
set_option maxRecDepth 20000 in
theorem lk_192_0 {d N0 : Nat}  {a1 : Int32} {a2 : Int32} {s : yS} {P : Option Value → yS → Prop}  (h : ub_192_0 (Par d)  a1 a2 s P) : Lb d N0 6 (some .int) xE_192 (xE_192.drop 0) [.ref 213, .int a1, .int a2, .null, .null, .null, .null, .null, .null] [] s P := by
  unfold ub_192_0 at h
  refine Lb_w (lb_c [.int 0] (xo_push (.int 0)) rfl rfl ?_)
  refine Lb_w (lb_st [.ref 213, .int a1, .int a2, .int 0, .null, .null, .null, .null, .null] rfl rfl rfl ?_)
  exact lkl_192_2  h
theorem pb_192 {d : Nat} {a1 : Int32} {a2 : Int32} {s : yS} {P : Option Value → yS → Prop} (h : ub_192_0 (Par d) a1 a2 s P) : Par (d + 1) 192 [.ref 213, .int a1, .int a2] s P := par_of (E := xE_192) (ml := 6) (ret := some .int) rfl (fun _ => lk_192_0 h)
/-! findHead -/
def ub_193_120 (T : Nat → List Value → yS → (Option Value → yS → Prop) → Prop)  (a1 : Int32) (a2 : Int32) (a3 : Int32) (a4 : Int32) (t0 : Int32) (s : yS) (P : Option Value → yS → Prop) : Prop :=
  ((t0.toInt = 0 ∨ t0.toInt = 1) → P (some (.int t0)) s)
set_option maxRecDepth 20000 in
theorem lk_193_120 {d N0 : Nat}  {a1 : Int32} {a2 : Int32} {a3 : Int32} {a4 : Int32} {t0 : Int32} {s : yS} {P : Option Value → yS → Prop}  (h : ub_193_120 (Par d)  a1 a2 a3 a4 t0 s P) : Lb d N0 6 (some .boolean) xE_193 (xE_193.drop 120) [.ref 213, .int a1, .int a2, .int a3, .int a4, .null, .null, .null, .null] [.int t0] s P := by
  unfold ub_193_120 at h
  exact Lb_w (lb_retZ rfl (fun hk => h (kc_z (x := t0) rfl hk)))
def ub_193_114 (T : Nat → List Value → yS → (Option Value → yS → Prop) → Prop)  (a1 : Int32) (a2 : Int32) (a3 : Int32) (a4 : Int32) (s : yS) (P : Option Value → yS → Prop) : Prop :=
  ((s.1 73).toInt < 0 → ub_193_120 T  a1 a2 a3 a4 0 s P) ∧ (¬ ((s.1 73).toInt < 0) → ub_193_120 T  a1 a2 a3 a4 1 s P)
set_option maxRecDepth 20000 in
theorem lk_193_114 {d N0 : Nat}  {a1 : Int32} {a2 : Int32} {a3 : Int32} {a4 : Int32} {s : yS} {P : Option Value → yS → Prop}  (h : ub_193_114 (Par d)  a1 a2 a3 a4 s P) : Lb d N0 6 (some .boolean) xE_193 (xE_193.drop 114) [.ref 213, .int a1, .int a2, .int a3, .int a4, .null, .null, .null, .null] [] s P := by
  unfold ub_193_114 at h
  refine Lb_w (lb_ld rfl rfl rfl ?_)
  refine Lb_w (lb_get rfl rfl ?_)
  change Lb _ _ _ _ _ _ _ [.int (s.1 73)] _ _
  refine Lb_w (lb_brP rfl rfl ⟨fun hc => ?_, fun hc => ?_⟩)
  · replace h := h.1 ((i_lt (x := s.1 73) (y := 0) rfl (show (0 : Int32).toInt = 0 by decide)).mp hc)
    refine Lb_w (lb_c [.int 0] (xo_push (.int 0)) rfl rfl ?_)
    exact lk_193_120  h
  · replace h := h.2 (fun q => hc ((i_lt (x := s.1 73) (y := 0) rfl (show (0 : Int32).toInt = 0 by decide)).mpr q))
    refine Lb_w (lb_c [.int 1] (xo_push (.int 1)) rfl rfl ?_)
    refine Lb_w (lb_go rfl ?_)
    exact lk_193_120  h
def ub_193_112 (T : Nat → List Value → yS → (Option Value → yS → Prop) → Prop) (R78 : Int32 → Int32 → Int32 → Int32 → yS → Prop) (a1 : Int32) (a2 : Int32) (a3 : Int32) (a4 : Int32) (s : yS) (P : Option Value → yS → Prop) : Prop :=
  ((-2147483648 ≤ a4.toInt + 1 ∧ a4.toInt + 1 ≤ 2147483647) → ∀ x1 : Int32, x1.toInt = a4.toInt + 1 → R78 a1 a2 a3 x1  s)
set_option maxRecDepth 20000 in
theorem lk_193_112 {d N0 : Nat} {R78 : Int32 → Int32 → Int32 → Int32 → yS → Prop} {a1 : Int32} {a2 : Int32} {a3 : Int32} {a4 : Int32} {s : yS} {P : Option Value → yS → Prop} (r78 : ∀ a1 a2 a3 a4 s, R78 a1 a2 a3 a4 s → Lb d N0 6 (some .boolean) xE_193 (xE_193.drop 78) [.ref 213, .int a1, .int a2, .int a3, .int a4, .null, .null, .null, .null] [] s P) (h : ub_193_112 (Par d) R78 a1 a2 a3 a4 s P) : Lb d N0 6 (some .boolean) xE_193 (xE_193.drop 112) [.ref 213, .int a1, .int a2, .int a3, .int a4, .null, .null, .null, .null] [] s P := by
  unfold ub_193_112 at h
  refine Lb_w (lb_inc [.ref 213, .int a1, .int a2, .int a3, .int (a4 + 1), .null, .null, .null, .null] rfl rfl rfl rfl (fun hk => ?_))
  replace hk := kc_inc (x := a4) (n := 1) rfl hk
  replace h := h hk _ (i_add (x := a4) (y := 1) rfl (show (1 : Int32).toInt = 1 by decide) hk)
  refine Lb_w (lb_go rfl ?_)
  exact r78 a1 a2 a3 (a4 + 1)  s h
def ub_193_78 (T : Nat → List Value → yS → (Option Value → yS → Prop) → Prop) (R78 : Int32 → Int32 → Int32 → Int32 → yS → Prop) (a1 : Int32) (a2 : Int32) (a3 : Int32) (a4 : Int32) (s : yS) (P : Option Value → yS → Prop) : Prop :=
  ((0 ≤ a3.toInt ∧ a3.toInt < 48) → ((0 ≤ a3.toInt ∧ a3.toInt < 48) → ((-2147483648 ≤ (s.2.1 242 a3.toInt.toNat).toInt + (s.2.1 243 a3.toInt.toNat).toInt ∧ (s.2.1 242 a3.toInt.toNat).toInt + (s.2.1 243 a3.toInt.toNat).toInt ≤ 2147483647) → ∀ x1 : Int32, x1.toInt = (s.2.1 242 a3.toInt.toNat).toInt + (s.2.1 243 a3.toInt.toNat).toInt → (x1.toInt ≤ a4.toInt → ub_193_114 T  a1 a2 a3 a4  s P) ∧ (¬ (x1.toInt ≤ a4.toInt) → ((0 ≤ a4.toInt ∧ a4.toInt < 408) → ((0 ≤ (s.2.1 244 a4.toInt.toNat).toInt ∧ (s.2.1 244 a4.toInt.toNat).toInt < 12006) → (¬ ((s.2.1 217 (s.2.1 244 a4.toInt.toNat).toInt.toNat).toInt = a2.toInt) → ub_193_112 T R78 a1 a2 a3 a4  s P) ∧ ((s.2.1 217 (s.2.1 244 a4.toInt.toNat).toInt.toNat).toInt = a2.toInt → ∀ s2, s2 = sf s 73 a4 → ((0 ≤ a1.toInt ∧ a1.toInt < 200000) → T 185 [.int (s2.2.1 264 a1.toInt.toNat)] s2 (fun v4 s3 => ∃ x5, v4 = some (.int x5) ∧ (((-2147483648 ≤ 6 * x5.toInt ∧ 6 * x5.toInt ≤ 2147483647) → ∀ x6 : Int32, x6.toInt = 6 * x5.toInt → ((-2147483648 ≤ 1000 + x6.toInt ∧ 1000 + x6.toInt ≤ 2147483647) → ∀ x7 : Int32, x7.toInt = 1000 + x6.toInt → ∀ s8, s8 = sf s3 74 x7 → ub_193_112 T R78 a1 a2 a3 a4  s8 P))))))))))))
set_option maxRecDepth 20000 in
theorem lk_193_78 {d N0 : Nat} {R78 : Int32 → Int32 → Int32 → Int32 → yS → Prop} {a1 : Int32} {a2 : Int32} {a3 : Int32} {a4 : Int32} {s : yS} {P : Option Value → yS → Prop} (r78 : ∀ a1 a2 a3 a4 s, R78 a1 a2 a3 a4 s → Lb d N0 6 (some .boolean) xE_193 (xE_193.drop 78) [.ref 213, .int a1, .int a2, .int a3, .int a4, .null, .null, .null, .null] [] s P) (h : ub_193_78 (Par d) R78 a1 a2 a3 a4 s P) : Lb d (N0 + 1) 6 (some .boolean) xE_193 (xE_193.drop 78) [.ref 213, .int a1, .int a2, .int a3, .int a4, .null, .null, .null, .null] [] s P := by
  unfold ub_193_78 at h
  refine lb_ld rfl rfl rfl ?_
  refine Lb_w (lb_ld rfl rfl rfl ?_)
  refine Lb_w (lb_get rfl rfl ?_)
  change Lb _ _ _ _ _ _ _ [.ref 242, .int a4] _ _
  refine Lb_w (lb_ld rfl rfl rfl ?_)
  refine Lb_w (lb_ial rfl rfl (fun hk => ?_))
  change Lb _ _ _ _ _ _ _ [.int (s.2.1 242 a3.toInt.toNat), .int a4] _ _
  replace h := h (kc_in (x := a3) rfl hk)
  refine Lb_w (lb_ld rfl rfl rfl ?_)
  refine Lb_w (lb_get rfl rfl ?_)
  change Lb _ _ _ _ _ _ _ [.ref 243, .int (s.2.1 242 a3.toInt.toNat), .int a4] _ _
  refine Lb_w (lb_ld rfl rfl rfl ?_)
  refine Lb_w (lb_ial rfl rfl (fun hk => ?_))
  change Lb _ _ _ _ _ _ _ [.int (s.2.1 243 a3.toInt.toNat), .int (s.2.1 242 a3.toInt.toNat), .int a4] _ _
  replace h := h (kc_in (x := a3) rfl hk)
  refine Lb_w (lb_ca [.int ((s.2.1 242 a3.toInt.toNat) + (s.2.1 243 a3.toInt.toNat)), .int a4] xo_iadd rfl rfl (fun _ hk => ?_))
  replace hk := kc_add (x := s.2.1 242 a3.toInt.toNat) (y := s.2.1 243 a3.toInt.toNat) rfl rfl hk
  replace h := h hk _ (i_add (x := s.2.1 242 a3.toInt.toNat) (y := s.2.1 243 a3.toInt.toNat) rfl rfl hk)
  refine Lb_w (lb_brP rfl rfl ⟨fun hc => ?_, fun hc => ?_⟩)
  · replace h := h.1 ((i_le (x := ((s.2.1 242 a3.toInt.toNat) + (s.2.1 243 a3.toInt.toNat))) (y := a4) rfl rfl).mp hc)
    exact lk_193_114  h
  · replace h := h.2 (fun q => hc ((i_le (x := ((s.2.1 242 a3.toInt.toNat) + (s.2.1 243 a3.toInt.toNat))) (y := a4) rfl rfl).mpr q))
    refine Lb_w (lb_ld rfl rfl rfl ?_)
    refine Lb_w (lb_get rfl rfl ?_)
    change Lb _ _ _ _ _ _ _ [.ref 217] _ _
    refine Lb_w (lb_ld rfl rfl rfl ?_)
    refine Lb_w (lb_get rfl rfl ?_)
    change Lb _ _ _ _ _ _ _ [.ref 244, .ref 217] _ _
    refine Lb_w (lb_ld rfl rfl rfl ?_)
    refine Lb_w (lb_ial rfl rfl (fun hk => ?_))
    change Lb _ _ _ _ _ _ _ [.int (s.2.1 244 a4.toInt.toNat), .ref 217] _ _
    replace h := h (kc_in (x := a4) rfl hk)
    refine Lb_w (lb_ial rfl rfl (fun hk => ?_))
    change Lb _ _ _ _ _ _ _ [.int (s.2.1 217 (s.2.1 244 a4.toInt.toNat).toInt.toNat)] _ _
    replace h := h (kc_in (x := s.2.1 244 a4.toInt.toNat) rfl hk)
    refine Lb_w (lb_ld rfl rfl rfl ?_)
    refine Lb_w (lb_brN rfl rfl ⟨fun hc => ?_, fun hc => ?_⟩)
    · replace h := h.1 (fun q => hc ((i_eq (x := s.2.1 217 (s.2.1 244 a4.toInt.toNat).toInt.toNat) (y := a2) rfl rfl).mpr q))
      exact lk_193_112 r78 h
    · replace h := h.2 ((i_eq (x := s.2.1 217 (s.2.1 244 a4.toInt.toNat).toInt.toNat) (y := a2) rfl rfl).mp hc)
      refine Lb_w (lb_ld rfl rfl rfl ?_)
      refine Lb_w (lb_ld rfl rfl rfl ?_)
      refine Lb_w (lb_put rfl rfl (fun hk => ?_))
      replace h := h _ rfl
      refine Lb_w (lb_ld rfl rfl rfl ?_)
      refine Lb_w (lb_c [.int 1000, .ref 213] (xo_push (.int 1000)) rfl rfl ?_)
      refine Lb_w (lb_c [.int 6, .int 1000, .ref 213] (xo_push (.int 6)) rfl rfl ?_)
      refine Lb_w (lb_ld rfl rfl rfl ?_)
      refine Lb_w (lb_get rfl rfl ?_)
      change Lb _ _ _ _ _ _ _ [.ref 264, .int 6, .int 1000, .ref 213] _ _
      refine Lb_w (lb_ld rfl rfl rfl ?_)
      refine Lb_w (lb_ial rfl rfl (fun hk => ?_))
      change Lb _ _ _ _ _ _ _ [.int ((sf s 73 a4).2.1 264 a1.toInt.toNat), .int 6, .int 1000, .ref 213] _ _
      replace h := h (kc_in (x := a1) rfl hk)
      refine Lb_w (lb_call [.int ((sf s 73 a4).2.1 264 a1.toInt.toNat)] [.int 6, .int 1000, .ref 213] rfl rfl rfl (Par.imp h (fun v4 s3 h => ?_)))
      obtain ⟨x5, rfl, h⟩ := h
      change Lb _ _ _ _ _ _ _ [.int x5, .int 6, .int 1000, .ref 213] _ _
      refine Lb_w (lb_ca [.int (6 * x5), .int 1000, .ref 213] xo_imul rfl rfl (fun _ hk => ?_))
      replace hk := kc_mul (x := 6) (y := x5) (show (6 : Int32).toInt = 6 by decide) rfl hk
      replace h := h hk _ (i_mul (x := 6) (y := x5) (show (6 : Int32).toInt = 6 by decide) rfl hk)
      refine Lb_w (lb_ca [.int (1000 + (6 * x5)), .ref 213] xo_iadd rfl rfl (fun _ hk => ?_))
      replace hk := kc_add (x := 1000) (y := (6 * x5)) (show (1000 : Int32).toInt = 1000 by decide) rfl hk
      replace h := h hk _ (i_add (x := 1000) (y := (6 * x5)) (show (1000 : Int32).toInt = 1000 by decide) rfl hk)
      refine Lb_w (lb_put rfl rfl (fun hk => ?_))
      replace h := h _ rfl
      exact lk_193_112 r78 h
def ubl_193_78 (T : Nat → List Value → yS → (Option Value → yS → Prop) → Prop)  (a1 : Int32) (a2 : Int32) (a3 : Int32) (a4 : Int32) (s : yS) (P : Option Value → yS → Prop) : Prop :=
  ∃ (I : Int32 → Int32 → Int32 → Int32 → yS → Prop), I a1 a2 a3 a4 s ∧ ∀ (a1 : Int32) (a2 : Int32) (a3 : Int32) (a4 : Int32) (s : yS), I a1 a2 a3 a4 s → ub_193_78 T I a1 a2 a3 a4 s P
theorem lkl_193_78 {d N0 : Nat}  {a1 : Int32} {a2 : Int32} {a3 : Int32} {a4 : Int32} {s : yS} {P : Option Value → yS → Prop}  (h : ubl_193_78 (Par d)  a1 a2 a3 a4 s P) : Lb d N0 6 (some .boolean) xE_193 (xE_193.drop 78) [.ref 213, .int a1, .int a2, .int a3, .int a4, .null, .null, .null, .null] [] s P := by
  obtain ⟨I, h0, h1⟩ := h
  have key : ∀ (m : Nat), m ≤ N0 → ∀ (a1 : Int32) (a2 : Int32) (a3 : Int32) (a4 : Int32) (s : yS), I a1 a2 a3 a4 s → Lb d m 6 (some .boolean) xE_193 (xE_193.drop 78) [.ref 213, .int a1, .int a2, .int a3, .int a4, .null, .null, .null, .null] [] s P := by
    intro m
    induction m with
    | zero => exact fun _ a1 a2 a3 a4 s _ => Lb_0
    | succ m ih =>
      intro hm
      replace hm : m ≤ N0 := Nat.le_of_succ_le hm
      replace ih := ih hm
      intro a1 a2 a3 a4 s hI
      exact lk_193_78 ih (h1 a1 a2 a3 a4 s hI)
  exact key N0 (Nat.le_refl _) a1 a2 a3 a4 s h0
def ub_193_70 (T : Nat → List Value → yS → (Option Value → yS → Prop) → Prop) (R21 : Int32 → Int32 → Int32 → Int32 → yS → Prop) (a1 : Int32) (a2 : Int32) (a3 : Int32) (a4 : Int32) (a5 : Int32) (s : yS) (P : Option Value → yS → Prop) : Prop :=
  ((-2147483648 ≤ a4.toInt + 1 ∧ a4.toInt + 1 ≤ 2147483647) → ∀ x1 : Int32, x1.toInt = a4.toInt + 1 → R21 a1 a2 a3 x1  s)
set_option maxRecDepth 20000 in
theorem lk_193_70 {d N0 : Nat} {R21 : Int32 → Int32 → Int32 → Int32 → yS → Prop} {a1 : Int32} {a2 : Int32} {a3 : Int32} {a4 : Int32} {a5 : Int32} {s : yS} {P : Option Value → yS → Prop} (r21 : ∀ a1 a2 a3 a4 s, R21 a1 a2 a3 a4 s → Lb d N0 6 (some .boolean) xE_193 (xE_193.drop 21) [.ref 213, .int a1, .int a2, .int a3, .int a4, .null, .null, .null, .null] [] s P) (h : ub_193_70 (Par d) R21 a1 a2 a3 a4 a5 s P) : Lb d N0 6 (some .boolean) xE_193 (xE_193.drop 70) [.ref 213, .int a1, .int a2, .int a3, .int a4, .int a5, .null, .null, .null] [] s P := by
  unfold ub_193_70 at h
  refine Lb_w (lb_inc [.ref 213, .int a1, .int a2, .int a3, .int (a4 + 1), .int a5, .null, .null, .null] rfl rfl rfl rfl (fun hk => ?_))
  replace hk := kc_inc (x := a4) (n := 1) rfl hk
  replace h := h hk _ (i_add (x := a4) (y := 1) rfl (show (1 : Int32).toInt = 1 by decide) hk)
  refine Lb_w (lb_go rfl ?_)
  refine lb_fg 5 ?_
  exact r21 a1 a2 a3 (a4 + 1)  s h
def ub_193_21 (T : Nat → List Value → yS → (Option Value → yS → Prop) → Prop) (R21 : Int32 → Int32 → Int32 → Int32 → yS → Prop) (a1 : Int32) (a2 : Int32) (a3 : Int32) (a4 : Int32) (s : yS) (P : Option Value → yS → Prop) : Prop :=
  ((0 ≤ (s.1 75).toInt ∧ (s.1 75).toInt < 2) → ((s.2.1 252 (s.1 75).toInt.toNat).toInt ≤ a4.toInt → ub_193_114 T  a1 a2 a3 a4  s P) ∧ (¬ ((s.2.1 252 (s.1 75).toInt.toNat).toInt ≤ a4.toInt) → ((-2147483648 ≤ 60 * (s.1 75).toInt ∧ 60 * (s.1 75).toInt ≤ 2147483647) → ∀ x1 : Int32, x1.toInt = 60 * (s.1 75).toInt → ((-2147483648 ≤ x1.toInt + a4.toInt ∧ x1.toInt + a4.toInt ≤ 2147483647) → ∀ x2 : Int32, x2.toInt = x1.toInt + a4.toInt → ((0 ≤ x2.toInt ∧ x2.toInt < 120) → ((0 ≤ a1.toInt ∧ a1.toInt < 200000) → T 185 [.int (s.2.1 264 a1.toInt.toNat)] s (fun v4 s3 => ∃ x5, v4 = some (.int x5) ∧ ((¬ ((s.2.1 261 x2.toInt.toNat).toInt = x5.toInt) → ub_193_70 T R21 a1 a2 a3 a4 x2  s3 P) ∧ ((s.2.1 261 x2.toInt.toNat).toInt = x5.toInt → ((0 ≤ x2.toInt ∧ x2.toInt < 120) → ((0 ≤ (s3.2.1 257 x2.toInt.toNat).toInt ∧ (s3.2.1 257 x2.toInt.toNat).toInt < 408) → ((0 ≤ (s3.2.1 244 (s3.2.1 257 x2.toInt.toNat).toInt.toNat).toInt ∧ (s3.2.1 244 (s3.2.1 257 x2.toInt.toNat).toInt.toNat).toInt < 12006) → (¬ ((s3.2.1 217 (s3.2.1 244 (s3.2.1 257 x2.toInt.toNat).toInt.toNat).toInt.toNat).toInt = a2.toInt) → ub_193_70 T R21 a1 a2 a3 a4 x2  s3 P) ∧ ((s3.2.1 217 (s3.2.1 244 (s3.2.1 257 x2.toInt.toNat).toInt.toNat).toInt.toNat).toInt = a2.toInt → ((0 ≤ x2.toInt ∧ x2.toInt < 120) → ∀ s6, s6 = sf s3 73 (s3.2.1 257 x2.toInt.toNat) → ((-2147483648 ≤ 6 * a4.toInt ∧ 6 * a4.toInt ≤ 2147483647) → ∀ x7 : Int32, x7.toInt = 6 * a4.toInt → ((-2147483648 ≤ 4000 + x7.toInt ∧ 4000 + x7.toInt ≤ 2147483647) → ∀ x8 : Int32, x8.toInt = 4000 + x7.toInt → ∀ s9, s9 = sf s6 74 x8 → ub_193_70 T R21 a1 a2 a3 a4 x2  s9 P))))))))))))))))
set_option maxRecDepth 20000 in
theorem lk_193_21 {d N0 : Nat} {R21 : Int32 → Int32 → Int32 → Int32 → yS → Prop} {a1 : Int32} {a2 : Int32} {a3 : Int32} {a4 : Int32} {s : yS} {P : Option Value → yS → Prop} (r21 : ∀ a1 a2 a3 a4 s, R21 a1 a2 a3 a4 s → Lb d N0 6 (some .boolean) xE_193 (xE_193.drop 21) [.ref 213, .int a1, .int a2, .int a3, .int a4, .null, .null, .null, .null] [] s P) (h : ub_193_21 (Par d) R21 a1 a2 a3 a4 s P) : Lb d (N0 + 1) 6 (some .boolean) xE_193 (xE_193.drop 21) [.ref 213, .int a1, .int a2, .int a3, .int a4, .null, .null, .null, .null] [] s P := by
  unfold ub_193_21 at h
  refine lb_ld rfl rfl rfl ?_
  refine Lb_w (lb_ld rfl rfl rfl ?_)
  refine Lb_w (lb_get rfl rfl ?_)
  change Lb _ _ _ _ _ _ _ [.ref 252, .int a4] _ _
  refine Lb_w (lb_ld rfl rfl rfl ?_)
  refine Lb_w (lb_get rfl rfl ?_)
  change Lb _ _ _ _ _ _ _ [.int (s.1 75), .ref 252, .int a4] _ _
  refine Lb_w (lb_ial rfl rfl (fun hk => ?_))
  change Lb _ _ _ _ _ _ _ [.int (s.2.1 252 (s.1 75).toInt.toNat), .int a4] _ _
  replace h := h (kc_in (x := s.1 75) rfl hk)
  refine Lb_w (lb_brP rfl rfl ⟨fun hc => ?_, fun hc => ?_⟩)
  · replace h := h.1 ((i_le (x := s.2.1 252 (s.1 75).toInt.toNat) (y := a4) rfl rfl).mp hc)
    refine Lb_w (lb_go rfl ?_)
    exact lk_193_114  h
  · replace h := h.2 (fun q => hc ((i_le (x := s.2.1 252 (s.1 75).toInt.toNat) (y := a4) rfl rfl).mpr q))
    refine Lb_w (lb_c [.int 60] (xo_push (.int 60)) rfl rfl ?_)
    refine Lb_w (lb_ld rfl rfl rfl ?_)
    refine Lb_w (lb_get rfl rfl ?_)
    change Lb _ _ _ _ _ _ _ [.int (s.1 75), .int 60] _ _
    refine Lb_w (lb_ca [.int (60 * (s.1 75))] xo_imul rfl rfl (fun _ hk => ?_))
    replace hk := kc_mul (x := 60) (y := s.1 75) (show (60 : Int32).toInt = 60 by decide) rfl hk
    replace h := h hk _ (i_mul (x := 60) (y := s.1 75) (show (60 : Int32).toInt = 60 by decide) rfl hk)
    refine Lb_w (lb_ld rfl rfl rfl ?_)
    refine Lb_w (lb_ca [.int ((60 * (s.1 75)) + a4)] xo_iadd rfl rfl (fun _ hk => ?_))
    replace hk := kc_add (x := (60 * (s.1 75))) (y := a4) rfl rfl hk
    replace h := h hk _ (i_add (x := (60 * (s.1 75))) (y := a4) rfl rfl hk)
    refine Lb_w (lb_st [.ref 213, .int a1, .int a2, .int a3, .int a4, .int ((60 * (s.1 75)) + a4), .null, .null, .null] rfl rfl rfl ?_)
    refine Lb_w (lb_ld rfl rfl rfl ?_)
    refine Lb_w (lb_get rfl rfl ?_)
    change Lb _ _ _ _ _ _ _ [.ref 261] _ _
    refine Lb_w (lb_ld rfl rfl rfl ?_)
    refine Lb_w (lb_ial rfl rfl (fun hk => ?_))
    change Lb _ _ _ _ _ _ _ [.int (s.2.1 261 ((60 * (s.1 75)) + a4).toInt.toNat)] _ _
    replace h := h (kc_in (x := ((60 * (s.1 75)) + a4)) rfl hk)
    refine Lb_w (lb_ld rfl rfl rfl ?_)
    refine Lb_w (lb_get rfl rfl ?_)
    change Lb _ _ _ _ _ _ _ [.ref 264, .int (s.2.1 261 ((60 * (s.1 75)) + a4).toInt.toNat)] _ _
    refine Lb_w (lb_ld rfl rfl rfl ?_)
    refine Lb_w (lb_ial rfl rfl (fun hk => ?_))
    change Lb _ _ _ _ _ _ _ [.int (s.2.1 264 a1.toInt.toNat), .int (s.2.1 261 ((60 * (s.1 75)) + a4).toInt.toNat)] _ _
    replace h := h (kc_in (x := a1) rfl hk)
    refine Lb_w (lb_call [.int (s.2.1 264 a1.toInt.toNat)] [.int (s.2.1 261 ((60 * (s.1 75)) + a4).toInt.toNat)] rfl rfl rfl (Par.imp h (fun v4 s3 h => ?_)))
    obtain ⟨x5, rfl, h⟩ := h
    change Lb _ _ _ _ _ _ _ [.int x5, .int (s.2.1 261 ((60 * (s.1 75)) + a4).toInt.toNat)] _ _
    refine Lb_w (lb_brN rfl rfl ⟨fun hc => ?_, fun hc => ?_⟩)
    · replace h := h.1 (fun q => hc ((i_eq (x := s.2.1 261 ((60 * (s.1 75)) + a4).toInt.toNat) (y := x5) rfl rfl).mpr q))
      exact lk_193_70 r21 h
    · replace h := h.2 ((i_eq (x := s.2.1 261 ((60 * (s.1 75)) + a4).toInt.toNat) (y := x5) rfl rfl).mp hc)
      refine Lb_w (lb_ld rfl rfl rfl ?_)
      refine Lb_w (lb_get rfl rfl ?_)
      change Lb _ _ _ _ _ _ _ [.ref 217] _ _
      refine Lb_w (lb_ld rfl rfl rfl ?_)
      refine Lb_w (lb_get rfl rfl ?_)
      change Lb _ _ _ _ _ _ _ [.ref 244, .ref 217] _ _
      refine Lb_w (lb_ld rfl rfl rfl ?_)
      refine Lb_w (lb_get rfl rfl ?_)
      change Lb _ _ _ _ _ _ _ [.ref 257, .ref 244, .ref 217] _ _
      refine Lb_w (lb_ld rfl rfl rfl ?_)
      refine Lb_w (lb_ial rfl rfl (fun hk => ?_))
      change Lb _ _ _ _ _ _ _ [.int (s3.2.1 257 ((60 * (s.1 75)) + a4).toInt.toNat), .ref 244, .ref 217] _ _
      replace h := h (kc_in (x := ((60 * (s.1 75)) + a4)) rfl hk)
      refine Lb_w (lb_ial rfl rfl (fun hk => ?_))
      change Lb _ _ _ _ _ _ _ [.int (s3.2.1 244 (s3.2.1 257 ((60 * (s.1 75)) + a4).toInt.toNat).toInt.toNat), .ref 217] _ _
      replace h := h (kc_in (x := s3.2.1 257 ((60 * (s.1 75)) + a4).toInt.toNat) rfl hk)
      refine Lb_w (lb_ial rfl rfl (fun hk => ?_))
      change Lb _ _ _ _ _ _ _ [.int (s3.2.1 217 (s3.2.1 244 (s3.2.1 257 ((60 * (s.1 75)) + a4).toInt.toNat).toInt.toNat).toInt.toNat)] _ _
      replace h := h (kc_in (x := s3.2.1 244 (s3.2.1 257 ((60 * (s.1 75)) + a4).toInt.toNat).toInt.toNat) rfl hk)
      refine Lb_w (lb_ld rfl rfl rfl ?_)
      refine Lb_w (lb_brN rfl rfl ⟨fun hc => ?_, fun hc => ?_⟩)
      · replace h := h.1 (fun q => hc ((i_eq (x := s3.2.1 217 (s3.2.1 244 (s3.2.1 257 ((60 * (s.1 75)) + a4).toInt.toNat).toInt.toNat).toInt.toNat) (y := a2) rfl rfl).mpr q))
        exact lk_193_70 r21 h
      · replace h := h.2 ((i_eq (x := s3.2.1 217 (s3.2.1 244 (s3.2.1 257 ((60 * (s.1 75)) + a4).toInt.toNat).toInt.toNat).toInt.toNat) (y := a2) rfl rfl).mp hc)
        refine Lb_w (lb_ld rfl rfl rfl ?_)
        refine Lb_w (lb_ld rfl rfl rfl ?_)
        refine Lb_w (lb_get rfl rfl ?_)
        change Lb _ _ _ _ _ _ _ [.ref 257, .ref 213] _ _
        refine Lb_w (lb_ld rfl rfl rfl ?_)
        refine Lb_w (lb_ial rfl rfl (fun hk => ?_))
        change Lb _ _ _ _ _ _ _ [.int (s3.2.1 257 ((60 * (s.1 75)) + a4).toInt.toNat), .ref 213] _ _
        replace h := h (kc_in (x := ((60 * (s.1 75)) + a4)) rfl hk)
        refine Lb_w (lb_put rfl rfl (fun hk => ?_))
        replace h := h _ rfl
        refine Lb_w (lb_ld rfl rfl rfl ?_)
        refine Lb_w (lb_c [.int 4000, .ref 213] (xo_push (.int 4000)) rfl rfl ?_)
        refine Lb_w (lb_c [.int 6, .int 4000, .ref 213] (xo_push (.int 6)) rfl rfl ?_)
        refine Lb_w (lb_ld rfl rfl rfl ?_)
        refine Lb_w (lb_ca [.int (6 * a4), .int 4000, .ref 213] xo_imul rfl rfl (fun _ hk => ?_))
        replace hk := kc_mul (x := 6) (y := a4) (show (6 : Int32).toInt = 6 by decide) rfl hk
        replace h := h hk _ (i_mul (x := 6) (y := a4) (show (6 : Int32).toInt = 6 by decide) rfl hk)
        refine Lb_w (lb_ca [.int (4000 + (6 * a4)), .ref 213] xo_iadd rfl rfl (fun _ hk => ?_))
        replace hk := kc_add (x := 4000) (y := (6 * a4)) (show (4000 : Int32).toInt = 4000 by decide) rfl hk
        replace h := h hk _ (i_add (x := 4000) (y := (6 * a4)) (show (4000 : Int32).toInt = 4000 by decide) rfl hk)
        refine Lb_w (lb_put rfl rfl (fun hk => ?_))
        replace h := h _ rfl
        exact lk_193_70 r21 h
def ubl_193_21 (T : Nat → List Value → yS → (Option Value → yS → Prop) → Prop)  (a1 : Int32) (a2 : Int32) (a3 : Int32) (a4 : Int32) (s : yS) (P : Option Value → yS → Prop) : Prop :=
  ∃ (I : Int32 → Int32 → Int32 → Int32 → yS → Prop), I a1 a2 a3 a4 s ∧ ∀ (a1 : Int32) (a2 : Int32) (a3 : Int32) (a4 : Int32) (s : yS), I a1 a2 a3 a4 s → ub_193_21 T I a1 a2 a3 a4 s P
theorem lkl_193_21 {d N0 : Nat}  {a1 : Int32} {a2 : Int32} {a3 : Int32} {a4 : Int32} {s : yS} {P : Option Value → yS → Prop}  (h : ubl_193_21 (Par d)  a1 a2 a3 a4 s P) : Lb d N0 6 (some .boolean) xE_193 (xE_193.drop 21) [.ref 213, .int a1, .int a2, .int a3, .int a4, .null, .null, .null, .null] [] s P := by
  obtain ⟨I, h0, h1⟩ := h
  have key : ∀ (m : Nat), m ≤ N0 → ∀ (a1 : Int32) (a2 : Int32) (a3 : Int32) (a4 : Int32) (s : yS), I a1 a2 a3 a4 s → Lb d m 6 (some .boolean) xE_193 (xE_193.drop 21) [.ref 213, .int a1, .int a2, .int a3, .int a4, .null, .null, .null, .null] [] s P := by
    intro m
    induction m with
    | zero => exact fun _ a1 a2 a3 a4 s _ => Lb_0
    | succ m ih =>
      intro hm
      replace hm : m ≤ N0 := Nat.le_of_succ_le hm
      replace ih := ih hm
      intro a1 a2 a3 a4 s hI
      exact lk_193_21 ih (h1 a1 a2 a3 a4 s hI)
  exact key N0 (Nat.le_refl _) a1 a2 a3 a4 s h0
def ub_193_0 (T : Nat → List Value → yS → (Option Value → yS → Prop) → Prop)  (a1 : Int32) (a2 : Int32) (s : yS) (P : Option Value → yS → Prop) : Prop :=
  ((-2147483648 ≤ 24 * (s.1 75).toInt ∧ 24 * (s.1 75).toInt ≤ 2147483647) → ∀ x1 : Int32, x1.toInt = 24 * (s.1 75).toInt → ((0 ≤ a1.toInt ∧ a1.toInt < 200000) → T 185 [.int (s.2.1 264 a1.toInt.toNat)] s (fun v3 s2 => ∃ x4, v3 = some (.int x4) ∧ (((-2147483648 ≤ x1.toInt + x4.toInt ∧ x1.toInt + x4.toInt ≤ 2147483647) → ∀ x5 : Int32, x5.toInt = x1.toInt + x4.toInt → ∀ s6, s6 = sf s2 73 (-1) → ((0 ≤ x5.toInt ∧ x5.toInt < 48) → ((s6.2.1 235 x5.toInt.toNat).toInt = 0 → ((0 ≤ x5.toInt ∧ x5.toInt < 48) → ubl_193_78 T  a1 a2 x5 (s6.2.1 242 x5.toInt.toNat)  s6 P)) ∧ (¬ ((s6.2.1 235 x5.toInt.toNat).toInt = 0) → ubl_193_21 T  a1 a2 x5 0  s6 P)))))))
set_option maxRecDepth 20000 in
theorem lk_193_0 {d N0 : Nat}  {a1 : Int32} {a2 : Int32} {s : yS} {P : Option Value → yS → Prop}  (h : ub_193_0 (Par d)  a1 a2 s P) : Lb d N0 6 (some .boolean) xE_193 (xE_193.drop 0) [.ref 213, .int a1, .int a2, .null, .null, .null, .null, .null, .null] [] s P := by
  unfold ub_193_0 at h
  refine Lb_w (lb_c [.int 24] (xo_push (.int 24)) rfl rfl ?_)
  refine Lb_w (lb_ld rfl rfl rfl ?_)
  refine Lb_w (lb_get rfl rfl ?_)
  change Lb _ _ _ _ _ _ _ [.int (s.1 75), .int 24] _ _
  refine Lb_w (lb_ca [.int (24 * (s.1 75))] xo_imul rfl rfl (fun _ hk => ?_))
  replace hk := kc_mul (x := 24) (y := s.1 75) (show (24 : Int32).toInt = 24 by decide) rfl hk
  replace h := h hk _ (i_mul (x := 24) (y := s.1 75) (show (24 : Int32).toInt = 24 by decide) rfl hk)
  refine Lb_w (lb_ld rfl rfl rfl ?_)
  refine Lb_w (lb_get rfl rfl ?_)
  change Lb _ _ _ _ _ _ _ [.ref 264, .int (24 * (s.1 75))] _ _
  refine Lb_w (lb_ld rfl rfl rfl ?_)
  refine Lb_w (lb_ial rfl rfl (fun hk => ?_))
  change Lb _ _ _ _ _ _ _ [.int (s.2.1 264 a1.toInt.toNat), .int (24 * (s.1 75))] _ _
  replace h := h (kc_in (x := a1) rfl hk)
  refine Lb_w (lb_call [.int (s.2.1 264 a1.toInt.toNat)] [.int (24 * (s.1 75))] rfl rfl rfl (Par.imp h (fun v3 s2 h => ?_)))
  obtain ⟨x4, rfl, h⟩ := h
  change Lb _ _ _ _ _ _ _ [.int x4, .int (24 * (s.1 75))] _ _
  refine Lb_w (lb_ca [.int ((24 * (s.1 75)) + x4)] xo_iadd rfl rfl (fun _ hk => ?_))
  replace hk := kc_add (x := (24 * (s.1 75))) (y := x4) rfl rfl hk
  replace h := h hk _ (i_add (x := (24 * (s.1 75))) (y := x4) rfl rfl hk)
  refine Lb_w (lb_st [.ref 213, .int a1, .int a2, .int ((24 * (s.1 75)) + x4), .null, .null, .null, .null, .null] rfl rfl rfl ?_)
  refine Lb_w (lb_ld rfl rfl rfl ?_)
  refine Lb_w (lb_c [.int (-1), .ref 213] (xo_push (.int (-1))) rfl rfl ?_)
  refine Lb_w (lb_put rfl rfl (fun hk => ?_))
  replace h := h _ rfl
  refine Lb_w (lb_ld rfl rfl rfl ?_)
  refine Lb_w (lb_get rfl rfl ?_)
  change Lb _ _ _ _ _ _ _ [.ref 235] _ _
  refine Lb_w (lb_ld rfl rfl rfl ?_)
  refine Lb_w (lb_zal rfl rfl (fun hk => ?_))
  change Lb _ _ _ _ _ _ _ [.int ((sf s2 73 (-1)).2.1 235 ((24 * (s.1 75)) + x4).toInt.toNat)] _ _
  replace h := h (kc_in (x := ((24 * (s.1 75)) + x4)) rfl hk)
  refine Lb_w (lb_brP rfl rfl ⟨fun hc => ?_, fun hc => ?_⟩)
  · replace h := h.1 ((i_eq (x := (sf s2 73 (-1)).2.1 235 ((24 * (s.1 75)) + x4).toInt.toNat) (y := 0) rfl (show (0 : Int32).toInt = 0 by decide)).mp hc)
    refine Lb_w (lb_ld rfl rfl rfl ?_)
    refine Lb_w (lb_get rfl rfl ?_)
    change Lb _ _ _ _ _ _ _ [.ref 242] _ _
    refine Lb_w (lb_ld rfl rfl rfl ?_)
    refine Lb_w (lb_ial rfl rfl (fun hk => ?_))
    change Lb _ _ _ _ _ _ _ [.int ((sf s2 73 (-1)).2.1 242 ((24 * (s.1 75)) + x4).toInt.toNat)] _ _
    replace h := h (kc_in (x := ((24 * (s.1 75)) + x4)) rfl hk)
    refine Lb_w (lb_st [.ref 213, .int a1, .int a2, .int ((24 * (s.1 75)) + x4), .int ((sf s2 73 (-1)).2.1 242 ((24 * (s.1 75)) + x4).toInt.toNat), .null, .null, .null, .null] rfl rfl rfl ?_)
    exact lkl_193_78  h
  · replace h := h.2 (fun q => hc ((i_eq (x := (sf s2 73 (-1)).2.1 235 ((24 * (s.1 75)) + x4).toInt.toNat) (y := 0) rfl (show (0 : Int32).toInt = 0 by decide)).mpr q))
    refine Lb_w (lb_c [.int 0] (xo_push (.int 0)) rfl rfl ?_)
    refine Lb_w (lb_st [.ref 213, .int a1, .int a2, .int ((24 * (s.1 75)) + x4), .int 0, .null, .null, .null, .null] rfl rfl rfl ?_)
    exact lkl_193_21  h
theorem pb_193 {d : Nat} {a1 : Int32} {a2 : Int32} {s : yS} {P : Option Value → yS → Prop} (h : ub_193_0 (Par d) a1 a2 s P) : Par (d + 1) 193 [.ref 213, .int a1, .int a2] s P := par_of (E := xE_193) (ml := 6) (ret := some .boolean) rfl (fun _ => lk_193_0 h)
/-! bound -/
def ub_194_147 (T : Nat → List Value → yS → (Option Value → yS → Prop) → Prop)  (a1 : Int32) (a2 : Int32) (a3 : Int32) (s : yS) (P : Option Value → yS → Prop) : Prop :=
  ((0 ≤ a3.toInt ∧ a3.toInt < 12006) → ((0 ≤ a3.toInt ∧ a3.toInt < 12006) → T 191 [.ref 213, .int (s.2.1 231 a3.toInt.toNat), .int (s.2.1 232 a3.toInt.toNat), .int a2] s (fun v2 s1 => ∃ x3, v2 = some (.int x3) ∧ (((-2147483648 ≤ (s1.1 70).toInt - 1 ∧ (s1.1 70).toInt - 1 ≤ 2147483647) → ∀ x4 : Int32, x4.toInt = (s1.1 70).toInt - 1 → ∀ s5, s5 = sf s1 70 x4 → P none s5)))))
set_option maxRecDepth 20000 in
theorem lk_194_147 {d N0 : Nat}  {a1 : Int32} {a2 : Int32} {a3 : Int32} {s : yS} {P : Option Value → yS → Prop}  (h : ub_194_147 (Par d)  a1 a2 a3 s P) : Lb d N0 8 (none) xE_194 (xE_194.drop 147) [.ref 213, .int a1, .int a2, .int a3, .null, .null, .null, .null, .null, .null] [] s P := by
  unfold ub_194_147 at h
  refine Lb_w (lb_ld rfl rfl rfl ?_)
  refine Lb_w (lb_ld rfl rfl rfl ?_)
  refine Lb_w (lb_get rfl rfl ?_)
  change Lb _ _ _ _ _ _ _ [.ref 231, .ref 213] _ _
  refine Lb_w (lb_ld rfl rfl rfl ?_)
  refine Lb_w (lb_ial rfl rfl (fun hk => ?_))
  change Lb _ _ _ _ _ _ _ [.int (s.2.1 231 a3.toInt.toNat), .ref 213] _ _
  replace h := h (kc_in (x := a3) rfl hk)
  refine Lb_w (lb_ld rfl rfl rfl ?_)
  refine Lb_w (lb_get rfl rfl ?_)
  change Lb _ _ _ _ _ _ _ [.ref 232, .int (s.2.1 231 a3.toInt.toNat), .ref 213] _ _
  refine Lb_w (lb_ld rfl rfl rfl ?_)
  refine Lb_w (lb_ial rfl rfl (fun hk => ?_))
  change Lb _ _ _ _ _ _ _ [.int (s.2.1 232 a3.toInt.toNat), .int (s.2.1 231 a3.toInt.toNat), .ref 213] _ _
  replace h := h (kc_in (x := a3) rfl hk)
  refine Lb_w (lb_ld rfl rfl rfl ?_)
  refine Lb_w (lb_call [.ref 213, .int (s.2.1 231 a3.toInt.toNat), .int (s.2.1 232 a3.toInt.toNat), .int a2] [] rfl rfl rfl (Par.imp h (fun v2 s1 h => ?_)))
  obtain ⟨x3, rfl, h⟩ := h
  change Lb _ _ _ _ _ _ _ [.int x3] _ _
  refine Lb_w (lb_st [.ref 213, .int a1, .int a2, .int a3, .int x3, .null, .null, .null, .null, .null] rfl rfl rfl ?_)
  refine Lb_w (lb_ld rfl rfl rfl ?_)
  refine Lb_w (lb_c [.ref 213, .ref 213] xo_dup rfl rfl ?_)
  refine Lb_w (lb_get rfl rfl ?_)
  change Lb _ _ _ _ _ _ _ [.int (s1.1 70), .ref 213] _ _
  refine Lb_w (lb_c [.int 1, .int (s1.1 70), .ref 213] (xo_push (.int 1)) rfl rfl ?_)
  refine Lb_w (lb_ca [.int ((s1.1 70) - 1), .ref 213] xo_isub rfl rfl (fun _ hk => ?_))
  replace hk := kc_sub (x := s1.1 70) (y := 1) rfl (show (1 : Int32).toInt = 1 by decide) hk
  replace h := h hk _ (i_sub (x := s1.1 70) (y := 1) rfl (show (1 : Int32).toInt = 1 by decide) hk)
  refine Lb_w (lb_put rfl rfl (fun hk => ?_))
  replace h := h _ rfl
  exact Lb_w (lb_ret0 rfl h)
def ub_194_58 (T : Nat → List Value → yS → (Option Value → yS → Prop) → Prop) (R58 : Int32 → Int32 → Int32 → Int32 → Int32 → Int32 → yS → Prop) (a1 : Int32) (a2 : Int32) (a4 : Int32) (a5 : Int32) (a6 : Int32) (a7 : Int32) (s : yS) (P : Option Value → yS → Prop) : Prop :=
  ((0 ≤ a5.toInt ∧ a5.toInt < 48) → ((s.2.1 236 a5.toInt.toNat).toInt ≤ a7.toInt → ((-2147483648 ≤ 6 * a5.toInt ∧ 6 * a5.toInt ≤ 2147483647) → ∀ x1 : Int32, x1.toInt = 6 * a5.toInt → ((-2147483648 ≤ a1.toInt - 4000 ∧ a1.toInt - 4000 ≤ 2147483647) → ∀ x2 : Int32, x2.toInt = a1.toInt - 4000 → (0 ≤ x2.toInt → ∀ x3 : Int32, x3.toInt = x2.toInt % 6 → ((-2147483648 ≤ x1.toInt + x3.toInt ∧ x1.toInt + x3.toInt ≤ 2147483647) → ∀ x4 : Int32, x4.toInt = x1.toInt + x3.toInt → ((0 ≤ x4.toInt ∧ x4.toInt < 288) → ub_194_147 T  a1 a2 (s.2.1 238 x4.toInt.toNat)  s P)))))) ∧ (¬ ((s.2.1 236 a5.toInt.toNat).toInt ≤ a7.toInt) → ((-2147483648 ≤ 6 * a4.toInt ∧ 6 * a4.toInt ≤ 2147483647) → ∀ x5 : Int32, x5.toInt = 6 * a4.toInt → ((-2147483648 ≤ 4000 + x5.toInt ∧ 4000 + x5.toInt ≤ 2147483647) → ∀ x6 : Int32, x6.toInt = 4000 + x5.toInt → ((-2147483648 ≤ x6.toInt + a7.toInt ∧ x6.toInt + a7.toInt ≤ 2147483647) → ∀ x7 : Int32, x7.toInt = x6.toInt + a7.toInt → ((-2147483648 ≤ 8 * x7.toInt ∧ 8 * x7.toInt ≤ 2147483647) → ∀ x8 : Int32, x8.toInt = 8 * x7.toInt → ((0 ≤ (s.1 64).toInt ∧ (s.1 64).toInt < 200000) → ∀ s9, s9 = sa s 264 (s.1 64).toInt.toNat x8 → ((-2147483648 ≤ 6 * a6.toInt ∧ 6 * a6.toInt ≤ 2147483647) → ∀ x10 : Int32, x10.toInt = 6 * a6.toInt → ((-2147483648 ≤ x10.toInt + a7.toInt ∧ x10.toInt + a7.toInt ≤ 2147483647) → ∀ x11 : Int32, x11.toInt = x10.toInt + a7.toInt → ((0 ≤ x11.toInt ∧ x11.toInt < 3600) → ∀ s12, s12 = sa s9 267 x11.toInt.toNat (s9.1 64) → ((-2147483648 ≤ 6 * a6.toInt ∧ 6 * a6.toInt ≤ 2147483647) → ∀ x13 : Int32, x13.toInt = 6 * a6.toInt → ((-2147483648 ≤ x13.toInt + a7.toInt ∧ x13.toInt + a7.toInt ≤ 2147483647) → ∀ x14 : Int32, x14.toInt = x13.toInt + a7.toInt → ((0 ≤ x14.toInt ∧ x14.toInt < 3600) → ∀ s15, s15 = sa s12 268 x14.toInt.toNat 1 → ((-2147483648 ≤ (s15.1 64).toInt + 1 ∧ (s15.1 64).toInt + 1 ≤ 2147483647) → ∀ x16 : Int32, x16.toInt = (s15.1 64).toInt + 1 → ∀ s17, s17 = sf s15 64 x16 → ((-2147483648 ≤ a7.toInt + 1 ∧ a7.toInt + 1 ≤ 2147483647) → ∀ x18 : Int32, x18.toInt = a7.toInt + 1 → R58 a1 a2 a4 a5 a6 x18  s17)))))))))))))))
set_option maxRecDepth 20000 in
theorem lk_194_58 {d N0 : Nat} {R58 : Int32 → Int32 → Int32 → Int32 → Int32 → Int32 → yS → Prop} {a1 : Int32} {a2 : Int32} {a4 : Int32} {a5 : Int32} {a6 : Int32} {a7 : Int32} {s : yS} {P : Option Value → yS → Prop} (r58 : ∀ a1 a2 a4 a5 a6 a7 s, R58 a1 a2 a4 a5 a6 a7 s → Lb d N0 8 (none) xE_194 (xE_194.drop 58) [.ref 213, .int a1, .int a2, .null, .int a4, .int a5, .int a6, .int a7, .null, .null] [] s P) (h : ub_194_58 (Par d) R58 a1 a2 a4 a5 a6 a7 s P) : Lb d (N0 + 1) 8 (none) xE_194 (xE_194.drop 58) [.ref 213, .int a1, .int a2, .null, .int a4, .int a5, .int a6, .int a7, .null, .null] [] s P := by
  unfold ub_194_58 at h
  refine lb_ld rfl rfl rfl ?_
  refine Lb_w (lb_ld rfl rfl rfl ?_)
  refine Lb_w (lb_get rfl rfl ?_)
  change Lb _ _ _ _ _ _ _ [.ref 236, .int a7] _ _
  refine Lb_w (lb_ld rfl rfl rfl ?_)
  refine Lb_w (lb_ial rfl rfl (fun hk => ?_))
  change Lb _ _ _ _ _ _ _ [.int (s.2.1 236 a5.toInt.toNat), .int a7] _ _
  replace h := h (kc_in (x := a5) rfl hk)
  refine Lb_w (lb_brP rfl rfl ⟨fun hc => ?_, fun hc => ?_⟩)
  · replace h := h.1 ((i_le (x := s.2.1 236 a5.toInt.toNat) (y := a7) rfl rfl).mp hc)
    refine Lb_w (lb_ld rfl rfl rfl ?_)
    refine Lb_w (lb_get rfl rfl ?_)
    change Lb _ _ _ _ _ _ _ [.ref 238] _ _
    refine Lb_w (lb_c [.int 6, .ref 238] (xo_push (.int 6)) rfl rfl ?_)
    refine Lb_w (lb_ld rfl rfl rfl ?_)
    refine Lb_w (lb_ca [.int (6 * a5), .ref 238] xo_imul rfl rfl (fun _ hk => ?_))
    replace hk := kc_mul (x := 6) (y := a5) (show (6 : Int32).toInt = 6 by decide) rfl hk
    replace h := h hk _ (i_mul (x := 6) (y := a5) (show (6 : Int32).toInt = 6 by decide) rfl hk)
    refine Lb_w (lb_ld rfl rfl rfl ?_)
    refine Lb_w (lb_c [.int 4000, .int a1, .int (6 * a5), .ref 238] (xo_push (.int 4000)) rfl rfl ?_)
    refine Lb_w (lb_ca [.int (a1 - 4000), .int (6 * a5), .ref 238] xo_isub rfl rfl (fun _ hk => ?_))
    replace hk := kc_sub (x := a1) (y := 4000) rfl (show (4000 : Int32).toInt = 4000 by decide) hk
    replace h := h hk _ (i_sub (x := a1) (y := 4000) rfl (show (4000 : Int32).toInt = 4000 by decide) hk)
    refine Lb_w (lb_c [.int 6, .int (a1 - 4000), .int (6 * a5), .ref 238] (xo_push (.int 6)) rfl rfl ?_)
    refine Lb_w (lb_ca [.int ((a1 - 4000) - (a1 - 4000) / 6 * 6), .int (6 * a5), .ref 238] xo_irem rfl (o_irem (by decide)) (fun _ hk => ?_))
    replace hk := kc_d6 (x := (a1 - 4000)) (y := 6) rfl rfl hk
    replace h := h hk _ (i_rem6 (x := (a1 - 4000)) rfl hk)
    refine Lb_w (lb_ca [.int ((6 * a5) + ((a1 - 4000) - (a1 - 4000) / 6 * 6)), .ref 238] xo_iadd rfl rfl (fun _ hk => ?_))
    replace hk := kc_add (x := (6 * a5)) (y := ((a1 - 4000) - (a1 - 4000) / 6 * 6)) rfl rfl hk
    replace h := h hk _ (i_add (x := (6 * a5)) (y := ((a1 - 4000) - (a1 - 4000) / 6 * 6)) rfl rfl hk)
    refine Lb_w (lb_ial rfl rfl (fun hk => ?_))
    change Lb _ _ _ _ _ _ _ [.int (s.2.1 238 ((6 * a5) + ((a1 - 4000) - (a1 - 4000) / 6 * 6)).toInt.toNat)] _ _
    replace h := h (kc_in (x := ((6 * a5) + ((a1 - 4000) - (a1 - 4000) / 6 * 6))) rfl hk)
    refine Lb_w (lb_st [.ref 213, .int a1, .int a2, .int (s.2.1 238 ((6 * a5) + ((a1 - 4000) - (a1 - 4000) / 6 * 6)).toInt.toNat), .int a4, .int a5, .int a6, .int a7, .null, .null] rfl rfl rfl ?_)
    refine Lb_w (lb_go rfl ?_)
    refine lb_fg 4 ?_
    refine lb_fg 5 ?_
    refine lb_fg 6 ?_
    refine lb_fg 7 ?_
    exact lk_194_147  h
  · replace h := h.2 (fun q => hc ((i_le (x := s.2.1 236 a5.toInt.toNat) (y := a7) rfl rfl).mpr q))
    refine Lb_w (lb_ld rfl rfl rfl ?_)
    refine Lb_w (lb_get rfl rfl ?_)
    change Lb _ _ _ _ _ _ _ [.ref 264] _ _
    refine Lb_w (lb_ld rfl rfl rfl ?_)
    refine Lb_w (lb_get rfl rfl ?_)
    change Lb _ _ _ _ _ _ _ [.int (s.1 64), .ref 264] _ _
    refine Lb_w (lb_c [.int 8, .int (s.1 64), .ref 264] (xo_push (.int 8)) rfl rfl ?_)
    refine Lb_w (lb_c [.int 4000, .int 8, .int (s.1 64), .ref 264] (xo_push (.int 4000)) rfl rfl ?_)
    refine Lb_w (lb_c [.int 6, .int 4000, .int 8, .int (s.1 64), .ref 264] (xo_push (.int 6)) rfl rfl ?_)
    refine Lb_w (lb_ld rfl rfl rfl ?_)
    refine Lb_w (lb_ca [.int (6 * a4), .int 4000, .int 8, .int (s.1 64), .ref 264] xo_imul rfl rfl (fun _ hk => ?_))
    replace hk := kc_mul (x := 6) (y := a4) (show (6 : Int32).toInt = 6 by decide) rfl hk
    replace h := h hk _ (i_mul (x := 6) (y := a4) (show (6 : Int32).toInt = 6 by decide) rfl hk)
    refine Lb_w (lb_ca [.int (4000 + (6 * a4)), .int 8, .int (s.1 64), .ref 264] xo_iadd rfl rfl (fun _ hk => ?_))
    replace hk := kc_add (x := 4000) (y := (6 * a4)) (show (4000 : Int32).toInt = 4000 by decide) rfl hk
    replace h := h hk _ (i_add (x := 4000) (y := (6 * a4)) (show (4000 : Int32).toInt = 4000 by decide) rfl hk)
    refine Lb_w (lb_ld rfl rfl rfl ?_)
    refine Lb_w (lb_ca [.int ((4000 + (6 * a4)) + a7), .int 8, .int (s.1 64), .ref 264] xo_iadd rfl rfl (fun _ hk => ?_))
    replace hk := kc_add (x := (4000 + (6 * a4))) (y := a7) rfl rfl hk
    replace h := h hk _ (i_add (x := (4000 + (6 * a4))) (y := a7) rfl rfl hk)
    refine Lb_w (lb_ca [.int (8 * ((4000 + (6 * a4)) + a7)), .int (s.1 64), .ref 264] xo_imul rfl rfl (fun _ hk => ?_))
    replace hk := kc_mul (x := 8) (y := ((4000 + (6 * a4)) + a7)) (show (8 : Int32).toInt = 8 by decide) rfl hk
    replace h := h hk _ (i_mul (x := 8) (y := ((4000 + (6 * a4)) + a7)) (show (8 : Int32).toInt = 8 by decide) rfl hk)
    refine Lb_w (lb_ias rfl rfl (fun hk => ?_))
    replace h := h (kc_in (x := s.1 64) rfl hk)
    replace h := h _ rfl
    refine Lb_w (lb_ld rfl rfl rfl ?_)
    refine Lb_w (lb_get rfl rfl ?_)
    change Lb _ _ _ _ _ _ _ [.ref 267] _ _
    refine Lb_w (lb_c [.int 6, .ref 267] (xo_push (.int 6)) rfl rfl ?_)
    refine Lb_w (lb_ld rfl rfl rfl ?_)
    refine Lb_w (lb_ca [.int (6 * a6), .ref 267] xo_imul rfl rfl (fun _ hk => ?_))
    replace hk := kc_mul (x := 6) (y := a6) (show (6 : Int32).toInt = 6 by decide) rfl hk
    replace h := h hk _ (i_mul (x := 6) (y := a6) (show (6 : Int32).toInt = 6 by decide) rfl hk)
    refine Lb_w (lb_ld rfl rfl rfl ?_)
    refine Lb_w (lb_ca [.int ((6 * a6) + a7), .ref 267] xo_iadd rfl rfl (fun _ hk => ?_))
    replace hk := kc_add (x := (6 * a6)) (y := a7) rfl rfl hk
    replace h := h hk _ (i_add (x := (6 * a6)) (y := a7) rfl rfl hk)
    refine Lb_w (lb_ld rfl rfl rfl ?_)
    refine Lb_w (lb_get rfl rfl ?_)
    change Lb _ _ _ _ _ _ _ [.int ((sa s 264 (s.1 64).toInt.toNat (8 * ((4000 + (6 * a4)) + a7))).1 64), .int ((6 * a6) + a7), .ref 267] _ _
    refine Lb_w (lb_ias rfl rfl (fun hk => ?_))
    replace h := h (kc_in (x := ((6 * a6) + a7)) rfl hk)
    replace h := h _ rfl
    refine Lb_w (lb_ld rfl rfl rfl ?_)
    refine Lb_w (lb_get rfl rfl ?_)
    change Lb _ _ _ _ _ _ _ [.ref 268] _ _
    refine Lb_w (lb_c [.int 6, .ref 268] (xo_push (.int 6)) rfl rfl ?_)
    refine Lb_w (lb_ld rfl rfl rfl ?_)
    refine Lb_w (lb_ca [.int (6 * a6), .ref 268] xo_imul rfl rfl (fun _ hk => ?_))
    replace hk := kc_mul (x := 6) (y := a6) (show (6 : Int32).toInt = 6 by decide) rfl hk
    replace h := h hk _ (i_mul (x := 6) (y := a6) (show (6 : Int32).toInt = 6 by decide) rfl hk)
    refine Lb_w (lb_ld rfl rfl rfl ?_)
    refine Lb_w (lb_ca [.int ((6 * a6) + a7), .ref 268] xo_iadd rfl rfl (fun _ hk => ?_))
    replace hk := kc_add (x := (6 * a6)) (y := a7) rfl rfl hk
    replace h := h hk _ (i_add (x := (6 * a6)) (y := a7) rfl rfl hk)
    refine Lb_w (lb_c [.int 1, .int ((6 * a6) + a7), .ref 268] (xo_push (.int 1)) rfl rfl ?_)
    refine Lb_w (lb_ias rfl rfl (fun hk => ?_))
    replace h := h (kc_in (x := ((6 * a6) + a7)) rfl hk)
    replace h := h _ rfl
    refine Lb_w (lb_ld rfl rfl rfl ?_)
    refine Lb_w (lb_c [.ref 213, .ref 213] xo_dup rfl rfl ?_)
    refine Lb_w (lb_get rfl rfl ?_)
    change Lb _ _ _ _ _ _ _ [.int ((sa (sa (sa s 264 (s.1 64).toInt.toNat (8 * ((4000 + (6 * a4)) + a7))) 267 ((6 * a6) + a7).toInt.toNat ((sa s 264 (s.1 64).toInt.toNat (8 * ((4000 + (6 * a4)) + a7))).1 64)) 268 ((6 * a6) + a7).toInt.toNat 1).1 64), .ref 213] _ _
    refine Lb_w (lb_c [.int 1, .int ((sa (sa (sa s 264 (s.1 64).toInt.toNat (8 * ((4000 + (6 * a4)) + a7))) 267 ((6 * a6) + a7).toInt.toNat ((sa s 264 (s.1 64).toInt.toNat (8 * ((4000 + (6 * a4)) + a7))).1 64)) 268 ((6 * a6) + a7).toInt.toNat 1).1 64), .ref 213] (xo_push (.int 1)) rfl rfl ?_)
    refine Lb_w (lb_ca [.int (((sa (sa (sa s 264 (s.1 64).toInt.toNat (8 * ((4000 + (6 * a4)) + a7))) 267 ((6 * a6) + a7).toInt.toNat ((sa s 264 (s.1 64).toInt.toNat (8 * ((4000 + (6 * a4)) + a7))).1 64)) 268 ((6 * a6) + a7).toInt.toNat 1).1 64) + 1), .ref 213] xo_iadd rfl rfl (fun _ hk => ?_))
    replace hk := kc_add (x := (sa (sa (sa s 264 (s.1 64).toInt.toNat (8 * ((4000 + (6 * a4)) + a7))) 267 ((6 * a6) + a7).toInt.toNat ((sa s 264 (s.1 64).toInt.toNat (8 * ((4000 + (6 * a4)) + a7))).1 64)) 268 ((6 * a6) + a7).toInt.toNat 1).1 64) (y := 1) rfl (show (1 : Int32).toInt = 1 by decide) hk
    replace h := h hk _ (i_add (x := (sa (sa (sa s 264 (s.1 64).toInt.toNat (8 * ((4000 + (6 * a4)) + a7))) 267 ((6 * a6) + a7).toInt.toNat ((sa s 264 (s.1 64).toInt.toNat (8 * ((4000 + (6 * a4)) + a7))).1 64)) 268 ((6 * a6) + a7).toInt.toNat 1).1 64) (y := 1) rfl (show (1 : Int32).toInt = 1 by decide) hk)
    refine Lb_w (lb_put rfl rfl (fun hk => ?_))
    replace h := h _ rfl
    refine Lb_w (lb_inc [.ref 213, .int a1, .int a2, .null, .int a4, .int a5, .int a6, .int (a7 + 1), .null, .null] rfl rfl rfl rfl (fun hk => ?_))
    replace hk := kc_inc (x := a7) (n := 1) rfl hk
    replace h := h hk _ (i_add (x := a7) (y := 1) rfl (show (1 : Int32).toInt = 1 by decide) hk)
    refine Lb_w (lb_go rfl ?_)
    exact r58 a1 a2 a4 a5 a6 (a7 + 1)  (sf (sa (sa (sa s 264 (s.1 64).toInt.toNat (8 * ((4000 + (6 * a4)) + a7))) 267 ((6 * a6) + a7).toInt.toNat ((sa s 264 (s.1 64).toInt.toNat (8 * ((4000 + (6 * a4)) + a7))).1 64)) 268 ((6 * a6) + a7).toInt.toNat 1) 64 (((sa (sa (sa s 264 (s.1 64).toInt.toNat (8 * ((4000 + (6 * a4)) + a7))) 267 ((6 * a6) + a7).toInt.toNat ((sa s 264 (s.1 64).toInt.toNat (8 * ((4000 + (6 * a4)) + a7))).1 64)) 268 ((6 * a6) + a7).toInt.toNat 1).1 64) + 1)) h
def ubl_194_58 (T : Nat → List Value → yS → (Option Value → yS → Prop) → Prop)  (a1 : Int32) (a2 : Int32) (a4 : Int32) (a5 : Int32) (a6 : Int32) (a7 : Int32) (s : yS) (P : Option Value → yS → Prop) : Prop :=
  ∃ (I : Int32 → Int32 → Int32 → Int32 → Int32 → Int32 → yS → Prop), I a1 a2 a4 a5 a6 a7 s ∧ ∀ (a1 : Int32) (a2 : Int32) (a4 : Int32) (a5 : Int32) (a6 : Int32) (a7 : Int32) (s : yS), I a1 a2 a4 a5 a6 a7 s → ub_194_58 T I a1 a2 a4 a5 a6 a7 s P
theorem lkl_194_58 {d N0 : Nat}  {a1 : Int32} {a2 : Int32} {a4 : Int32} {a5 : Int32} {a6 : Int32} {a7 : Int32} {s : yS} {P : Option Value → yS → Prop}  (h : ubl_194_58 (Par d)  a1 a2 a4 a5 a6 a7 s P) : Lb d N0 8 (none) xE_194 (xE_194.drop 58) [.ref 213, .int a1, .int a2, .null, .int a4, .int a5, .int a6, .int a7, .null, .null] [] s P := by
  obtain ⟨I, h0, h1⟩ := h
  have key : ∀ (m : Nat), m ≤ N0 → ∀ (a1 : Int32) (a2 : Int32) (a4 : Int32) (a5 : Int32) (a6 : Int32) (a7 : Int32) (s : yS), I a1 a2 a4 a5 a6 a7 s → Lb d m 8 (none) xE_194 (xE_194.drop 58) [.ref 213, .int a1, .int a2, .null, .int a4, .int a5, .int a6, .int a7, .null, .null] [] s P := by
    intro m
    induction m with
    | zero => exact fun _ a1 a2 a4 a5 a6 a7 s _ => Lb_0
    | succ m ih =>
      intro hm
      replace hm : m ≤ N0 := Nat.le_of_succ_le hm
      replace ih := ih hm
      intro a1 a2 a4 a5 a6 a7 s hI
      exact lk_194_58 ih (h1 a1 a2 a4 a5 a6 a7 s hI)
  exact key N0 (Nat.le_refl _) a1 a2 a4 a5 a6 a7 s h0
def ub_194_0 (T : Nat → List Value → yS → (Option Value → yS → Prop) → Prop)  (a1 : Int32) (s : yS) (P : Option Value → yS → Prop) : Prop :=
  T 188 [.ref 213] s (fun v2 s1 => ∃ x3, v2 = some (.int x3) ∧ ((a1.toInt < 4000 → (a1.toInt < 2000 → ((-2147483648 ≤ 144 * (s1.1 75).toInt ∧ 144 * (s1.1 75).toInt ≤ 2147483647) → ∀ x4 : Int32, x4.toInt = 144 * (s1.1 75).toInt → ((-2147483648 ≤ x4.toInt + a1.toInt ∧ x4.toInt + a1.toInt ≤ 2147483647) → ∀ x5 : Int32, x5.toInt = x4.toInt + a1.toInt → ((-2147483648 ≤ x5.toInt - 1000 ∧ x5.toInt - 1000 ≤ 2147483647) → ∀ x6 : Int32, x6.toInt = x5.toInt - 1000 → ((0 ≤ x6.toInt ∧ x6.toInt < 288) → ub_194_147 T  a1 x3 (s1.2.1 238 x6.toInt.toNat)  s1 P))))) ∧ (¬ (a1.toInt < 2000) → ((-2147483648 ≤ 1224 * (s1.1 75).toInt ∧ 1224 * (s1.1 75).toInt ≤ 2147483647) → ∀ x7 : Int32, x7.toInt = 1224 * (s1.1 75).toInt → ((-2147483648 ≤ x7.toInt + a1.toInt ∧ x7.toInt + a1.toInt ≤ 2147483647) → ∀ x8 : Int32, x8.toInt = x7.toInt + a1.toInt → ((-2147483648 ≤ x8.toInt - 2000 ∧ x8.toInt - 2000 ≤ 2147483647) → ∀ x9 : Int32, x9.toInt = x8.toInt - 2000 → ((0 ≤ x9.toInt ∧ x9.toInt < 2448) → ub_194_147 T  a1 x3 (s1.2.1 247 x9.toInt.toNat)  s1 P)))))) ∧ (¬ (a1.toInt < 4000) → ((-2147483648 ≤ a1.toInt - 4000 ∧ a1.toInt - 4000 ≤ 2147483647) → ∀ x10 : Int32, x10.toInt = a1.toInt - 4000 → (0 ≤ x10.toInt → ∀ x11 : Int32, x11.toInt = x10.toInt / 6 → ((-2147483648 ≤ 24 * (s1.1 75).toInt ∧ 24 * (s1.1 75).toInt ≤ 2147483647) → ∀ x12 : Int32, x12.toInt = 24 * (s1.1 75).toInt → ((-2147483648 ≤ 60 * (s1.1 75).toInt ∧ 60 * (s1.1 75).toInt ≤ 2147483647) → ∀ x13 : Int32, x13.toInt = 60 * (s1.1 75).toInt → ((-2147483648 ≤ x13.toInt + x11.toInt ∧ x13.toInt + x11.toInt ≤ 2147483647) → ∀ x14 : Int32, x14.toInt = x13.toInt + x11.toInt → ((0 ≤ x14.toInt ∧ x14.toInt < 120) → ((-2147483648 ≤ x12.toInt + (s1.2.1 261 x14.toInt.toNat).toInt ∧ x12.toInt + (s1.2.1 261 x14.toInt.toNat).toInt ≤ 2147483647) → ∀ x15 : Int32, x15.toInt = x12.toInt + (s1.2.1 261 x14.toInt.toNat).toInt → ((-2147483648 ≤ 2 * x3.toInt ∧ 2 * x3.toInt ≤ 2147483647) → ∀ x16 : Int32, x16.toInt = 2 * x3.toInt → ((-2147483648 ≤ 60 * (s1.1 75).toInt ∧ 60 * (s1.1 75).toInt ≤ 2147483647) → ∀ x17 : Int32, x17.toInt = 60 * (s1.1 75).toInt → ((-2147483648 ≤ x17.toInt + x11.toInt ∧ x17.toInt + x11.toInt ≤ 2147483647) → ∀ x18 : Int32, x18.toInt = x17.toInt + x11.toInt → ((0 ≤ x18.toInt ∧ x18.toInt < 120) → ((-2147483648 ≤ 6 * (s1.2.1 261 x18.toInt.toNat).toInt ∧ 6 * (s1.2.1 261 x18.toInt.toNat).toInt ≤ 2147483647) → ∀ x19 : Int32, x19.toInt = 6 * (s1.2.1 261 x18.toInt.toNat).toInt → ((-2147483648 ≤ 1000 + x19.toInt ∧ 1000 + x19.toInt ≤ 2147483647) → ∀ x20 : Int32, x20.toInt = 1000 + x19.toInt → ((0 ≤ x16.toInt ∧ x16.toInt < 600) → ∀ s21, s21 = sa s1 265 x16.toInt.toNat x20 → ((0 ≤ x15.toInt ∧ x15.toInt < 48) → ((0 ≤ x16.toInt ∧ x16.toInt < 600) → ∀ s22, s22 = sa s21 266 x16.toInt.toNat (s21.2.1 236 x15.toInt.toNat) → ubl_194_58 T  a1 x3 x11 x15 x16 0  s22 P)))))))))))))))))))
set_option maxRecDepth 20000 in
theorem lk_194_0 {d N0 : Nat}  {a1 : Int32} {s : yS} {P : Option Value → yS → Prop}  (h : ub_194_0 (Par d)  a1 s P) : Lb d N0 8 (none) xE_194 (xE_194.drop 0) [.ref 213, .int a1, .null, .null, .null, .null, .null, .null, .null, .null] [] s P := by
  unfold ub_194_0 at h
  refine Lb_w (lb_ld rfl rfl rfl ?_)
  refine Lb_w (lb_call [.ref 213] [] rfl rfl rfl (Par.imp h (fun v2 s1 h => ?_)))
  obtain ⟨x3, rfl, h⟩ := h
  change Lb _ _ _ _ _ _ _ [.int x3] _ _
  refine Lb_w (lb_st [.ref 213, .int a1, .int x3, .null, .null, .null, .null, .null, .null, .null] rfl rfl rfl ?_)
  refine Lb_w (lb_ld rfl rfl rfl ?_)
  refine Lb_w (lb_c [.int 4000, .int a1] (xo_push (.int 4000)) rfl rfl ?_)
  refine Lb_w (lb_brP rfl rfl ⟨fun hc => ?_, fun hc => ?_⟩)
  · replace h := h.1 ((i_lt (x := a1) (y := 4000) rfl (show (4000 : Int32).toInt = 4000 by decide)).mp hc)
    refine Lb_w (lb_ld rfl rfl rfl ?_)
    refine Lb_w (lb_c [.int 2000, .int a1] (xo_push (.int 2000)) rfl rfl ?_)
    refine Lb_w (lb_brP rfl rfl ⟨fun hc => ?_, fun hc => ?_⟩)
    · replace h := h.1 ((i_lt (x := a1) (y := 2000) rfl (show (2000 : Int32).toInt = 2000 by decide)).mp hc)
      refine Lb_w (lb_ld rfl rfl rfl ?_)
      refine Lb_w (lb_get rfl rfl ?_)
      change Lb _ _ _ _ _ _ _ [.ref 238] _ _
      refine Lb_w (lb_c [.int 144, .ref 238] (xo_push (.int 144)) rfl rfl ?_)
      refine Lb_w (lb_ld rfl rfl rfl ?_)
      refine Lb_w (lb_get rfl rfl ?_)
      change Lb _ _ _ _ _ _ _ [.int (s1.1 75), .int 144, .ref 238] _ _
      refine Lb_w (lb_ca [.int (144 * (s1.1 75)), .ref 238] xo_imul rfl rfl (fun _ hk => ?_))
      replace hk := kc_mul (x := 144) (y := s1.1 75) (show (144 : Int32).toInt = 144 by decide) rfl hk
      replace h := h hk _ (i_mul (x := 144) (y := s1.1 75) (show (144 : Int32).toInt = 144 by decide) rfl hk)
      refine Lb_w (lb_ld rfl rfl rfl ?_)
      refine Lb_w (lb_ca [.int ((144 * (s1.1 75)) + a1), .ref 238] xo_iadd rfl rfl (fun _ hk => ?_))
      replace hk := kc_add (x := (144 * (s1.1 75))) (y := a1) rfl rfl hk
      replace h := h hk _ (i_add (x := (144 * (s1.1 75))) (y := a1) rfl rfl hk)
      refine Lb_w (lb_c [.int 1000, .int ((144 * (s1.1 75)) + a1), .ref 238] (xo_push (.int 1000)) rfl rfl ?_)
      refine Lb_w (lb_ca [.int (((144 * (s1.1 75)) + a1) - 1000), .ref 238] xo_isub rfl rfl (fun _ hk => ?_))
      replace hk := kc_sub (x := ((144 * (s1.1 75)) + a1)) (y := 1000) rfl (show (1000 : Int32).toInt = 1000 by decide) hk
      replace h := h hk _ (i_sub (x := ((144 * (s1.1 75)) + a1)) (y := 1000) rfl (show (1000 : Int32).toInt = 1000 by decide) hk)
      refine Lb_w (lb_ial rfl rfl (fun hk => ?_))
      change Lb _ _ _ _ _ _ _ [.int (s1.2.1 238 (((144 * (s1.1 75)) + a1) - 1000).toInt.toNat)] _ _
      replace h := h (kc_in (x := (((144 * (s1.1 75)) + a1) - 1000)) rfl hk)
      refine Lb_w (lb_st [.ref 213, .int a1, .int x3, .int (s1.2.1 238 (((144 * (s1.1 75)) + a1) - 1000).toInt.toNat), .null, .null, .null, .null, .null, .null] rfl rfl rfl ?_)
      exact lk_194_147  h
    · replace h := h.2 (fun q => hc ((i_lt (x := a1) (y := 2000) rfl (show (2000 : Int32).toInt = 2000 by decide)).mpr q))
      refine Lb_w (lb_ld rfl rfl rfl ?_)
      refine Lb_w (lb_get rfl rfl ?_)
      change Lb _ _ _ _ _ _ _ [.ref 247] _ _
      refine Lb_w (lb_c [.int 1224, .ref 247] (xo_push (.int 1224)) rfl rfl ?_)
      refine Lb_w (lb_ld rfl rfl rfl ?_)
      refine Lb_w (lb_get rfl rfl ?_)
      change Lb _ _ _ _ _ _ _ [.int (s1.1 75), .int 1224, .ref 247] _ _
      refine Lb_w (lb_ca [.int (1224 * (s1.1 75)), .ref 247] xo_imul rfl rfl (fun _ hk => ?_))
      replace hk := kc_mul (x := 1224) (y := s1.1 75) (show (1224 : Int32).toInt = 1224 by decide) rfl hk
      replace h := h hk _ (i_mul (x := 1224) (y := s1.1 75) (show (1224 : Int32).toInt = 1224 by decide) rfl hk)
      refine Lb_w (lb_ld rfl rfl rfl ?_)
      refine Lb_w (lb_ca [.int ((1224 * (s1.1 75)) + a1), .ref 247] xo_iadd rfl rfl (fun _ hk => ?_))
      replace hk := kc_add (x := (1224 * (s1.1 75))) (y := a1) rfl rfl hk
      replace h := h hk _ (i_add (x := (1224 * (s1.1 75))) (y := a1) rfl rfl hk)
      refine Lb_w (lb_c [.int 2000, .int ((1224 * (s1.1 75)) + a1), .ref 247] (xo_push (.int 2000)) rfl rfl ?_)
      refine Lb_w (lb_ca [.int (((1224 * (s1.1 75)) + a1) - 2000), .ref 247] xo_isub rfl rfl (fun _ hk => ?_))
      replace hk := kc_sub (x := ((1224 * (s1.1 75)) + a1)) (y := 2000) rfl (show (2000 : Int32).toInt = 2000 by decide) hk
      replace h := h hk _ (i_sub (x := ((1224 * (s1.1 75)) + a1)) (y := 2000) rfl (show (2000 : Int32).toInt = 2000 by decide) hk)
      refine Lb_w (lb_ial rfl rfl (fun hk => ?_))
      change Lb _ _ _ _ _ _ _ [.int (s1.2.1 247 (((1224 * (s1.1 75)) + a1) - 2000).toInt.toNat)] _ _
      replace h := h (kc_in (x := (((1224 * (s1.1 75)) + a1) - 2000)) rfl hk)
      refine Lb_w (lb_st [.ref 213, .int a1, .int x3, .int (s1.2.1 247 (((1224 * (s1.1 75)) + a1) - 2000).toInt.toNat), .null, .null, .null, .null, .null, .null] rfl rfl rfl ?_)
      refine Lb_w (lb_go rfl ?_)
      exact lk_194_147  h
  · replace h := h.2 (fun q => hc ((i_lt (x := a1) (y := 4000) rfl (show (4000 : Int32).toInt = 4000 by decide)).mpr q))
    refine Lb_w (lb_ld rfl rfl rfl ?_)
    refine Lb_w (lb_c [.int 4000, .int a1] (xo_push (.int 4000)) rfl rfl ?_)
    refine Lb_w (lb_ca [.int (a1 - 4000)] xo_isub rfl rfl (fun _ hk => ?_))
    replace hk := kc_sub (x := a1) (y := 4000) rfl (show (4000 : Int32).toInt = 4000 by decide) hk
    replace h := h hk _ (i_sub (x := a1) (y := 4000) rfl (show (4000 : Int32).toInt = 4000 by decide) hk)
    refine Lb_w (lb_c [.int 6, .int (a1 - 4000)] (xo_push (.int 6)) rfl rfl ?_)
    refine Lb_w (lb_ca [.int ((a1 - 4000) / 6)] xo_idiv rfl (o_idiv (by decide)) (fun _ hk => ?_))
    replace hk := kc_d6 (x := (a1 - 4000)) (y := 6) rfl rfl hk
    replace h := h hk _ (i_div6 (x := (a1 - 4000)) rfl hk)
    refine Lb_w (lb_st [.ref 213, .int a1, .int x3, .null, .int ((a1 - 4000) / 6), .null, .null, .null, .null, .null] rfl rfl rfl ?_)
    refine Lb_w (lb_c [.int 24] (xo_push (.int 24)) rfl rfl ?_)
    refine Lb_w (lb_ld rfl rfl rfl ?_)
    refine Lb_w (lb_get rfl rfl ?_)
    change Lb _ _ _ _ _ _ _ [.int (s1.1 75), .int 24] _ _
    refine Lb_w (lb_ca [.int (24 * (s1.1 75))] xo_imul rfl rfl (fun _ hk => ?_))
    replace hk := kc_mul (x := 24) (y := s1.1 75) (show (24 : Int32).toInt = 24 by decide) rfl hk
    replace h := h hk _ (i_mul (x := 24) (y := s1.1 75) (show (24 : Int32).toInt = 24 by decide) rfl hk)
    refine Lb_w (lb_ld rfl rfl rfl ?_)
    refine Lb_w (lb_get rfl rfl ?_)
    change Lb _ _ _ _ _ _ _ [.ref 261, .int (24 * (s1.1 75))] _ _
    refine Lb_w (lb_c [.int 60, .ref 261, .int (24 * (s1.1 75))] (xo_push (.int 60)) rfl rfl ?_)
    refine Lb_w (lb_ld rfl rfl rfl ?_)
    refine Lb_w (lb_get rfl rfl ?_)
    change Lb _ _ _ _ _ _ _ [.int (s1.1 75), .int 60, .ref 261, .int (24 * (s1.1 75))] _ _
    refine Lb_w (lb_ca [.int (60 * (s1.1 75)), .ref 261, .int (24 * (s1.1 75))] xo_imul rfl rfl (fun _ hk => ?_))
    replace hk := kc_mul (x := 60) (y := s1.1 75) (show (60 : Int32).toInt = 60 by decide) rfl hk
    replace h := h hk _ (i_mul (x := 60) (y := s1.1 75) (show (60 : Int32).toInt = 60 by decide) rfl hk)
    refine Lb_w (lb_ld rfl rfl rfl ?_)
    refine Lb_w (lb_ca [.int ((60 * (s1.1 75)) + ((a1 - 4000) / 6)), .ref 261, .int (24 * (s1.1 75))] xo_iadd rfl rfl (fun _ hk => ?_))
    replace hk := kc_add (x := (60 * (s1.1 75))) (y := ((a1 - 4000) / 6)) rfl rfl hk
    replace h := h hk _ (i_add (x := (60 * (s1.1 75))) (y := ((a1 - 4000) / 6)) rfl rfl hk)
    refine Lb_w (lb_ial rfl rfl (fun hk => ?_))
    change Lb _ _ _ _ _ _ _ [.int (s1.2.1 261 ((60 * (s1.1 75)) + ((a1 - 4000) / 6)).toInt.toNat), .int (24 * (s1.1 75))] _ _
    replace h := h (kc_in (x := ((60 * (s1.1 75)) + ((a1 - 4000) / 6))) rfl hk)
    refine Lb_w (lb_ca [.int ((24 * (s1.1 75)) + (s1.2.1 261 ((60 * (s1.1 75)) + ((a1 - 4000) / 6)).toInt.toNat))] xo_iadd rfl rfl (fun _ hk => ?_))
    replace hk := kc_add (x := (24 * (s1.1 75))) (y := s1.2.1 261 ((60 * (s1.1 75)) + ((a1 - 4000) / 6)).toInt.toNat) rfl rfl hk
    replace h := h hk _ (i_add (x := (24 * (s1.1 75))) (y := s1.2.1 261 ((60 * (s1.1 75)) + ((a1 - 4000) / 6)).toInt.toNat) rfl rfl hk)
    refine Lb_w (lb_st [.ref 213, .int a1, .int x3, .null, .int ((a1 - 4000) / 6), .int ((24 * (s1.1 75)) + (s1.2.1 261 ((60 * (s1.1 75)) + ((a1 - 4000) / 6)).toInt.toNat)), .null, .null, .null, .null] rfl rfl rfl ?_)
    refine Lb_w (lb_c [.int 2] (xo_push (.int 2)) rfl rfl ?_)
    refine Lb_w (lb_ld rfl rfl rfl ?_)
    refine Lb_w (lb_ca [.int (2 * x3)] xo_imul rfl rfl (fun _ hk => ?_))
    replace hk := kc_mul (x := 2) (y := x3) (show (2 : Int32).toInt = 2 by decide) rfl hk
    replace h := h hk _ (i_mul (x := 2) (y := x3) (show (2 : Int32).toInt = 2 by decide) rfl hk)
    refine Lb_w (lb_st [.ref 213, .int a1, .int x3, .null, .int ((a1 - 4000) / 6), .int ((24 * (s1.1 75)) + (s1.2.1 261 ((60 * (s1.1 75)) + ((a1 - 4000) / 6)).toInt.toNat)), .int (2 * x3), .null, .null, .null] rfl rfl rfl ?_)
    refine Lb_w (lb_ld rfl rfl rfl ?_)
    refine Lb_w (lb_get rfl rfl ?_)
    change Lb _ _ _ _ _ _ _ [.ref 265] _ _
    refine Lb_w (lb_ld rfl rfl rfl ?_)
    refine Lb_w (lb_c [.int 1000, .int (2 * x3), .ref 265] (xo_push (.int 1000)) rfl rfl ?_)
    refine Lb_w (lb_c [.int 6, .int 1000, .int (2 * x3), .ref 265] (xo_push (.int 6)) rfl rfl ?_)
    refine Lb_w (lb_ld rfl rfl rfl ?_)
    refine Lb_w (lb_get rfl rfl ?_)
    change Lb _ _ _ _ _ _ _ [.ref 261, .int 6, .int 1000, .int (2 * x3), .ref 265] _ _
    refine Lb_w (lb_c [.int 60, .ref 261, .int 6, .int 1000, .int (2 * x3), .ref 265] (xo_push (.int 60)) rfl rfl ?_)
    refine Lb_w (lb_ld rfl rfl rfl ?_)
    refine Lb_w (lb_get rfl rfl ?_)
    change Lb _ _ _ _ _ _ _ [.int (s1.1 75), .int 60, .ref 261, .int 6, .int 1000, .int (2 * x3), .ref 265] _ _
    refine Lb_w (lb_ca [.int (60 * (s1.1 75)), .ref 261, .int 6, .int 1000, .int (2 * x3), .ref 265] xo_imul rfl rfl (fun _ hk => ?_))
    replace hk := kc_mul (x := 60) (y := s1.1 75) (show (60 : Int32).toInt = 60 by decide) rfl hk
    replace h := h hk _ (i_mul (x := 60) (y := s1.1 75) (show (60 : Int32).toInt = 60 by decide) rfl hk)
    refine Lb_w (lb_ld rfl rfl rfl ?_)
    refine Lb_w (lb_ca [.int ((60 * (s1.1 75)) + ((a1 - 4000) / 6)), .ref 261, .int 6, .int 1000, .int (2 * x3), .ref 265] xo_iadd rfl rfl (fun _ hk => ?_))
    replace hk := kc_add (x := (60 * (s1.1 75))) (y := ((a1 - 4000) / 6)) rfl rfl hk
    replace h := h hk _ (i_add (x := (60 * (s1.1 75))) (y := ((a1 - 4000) / 6)) rfl rfl hk)
    refine Lb_w (lb_ial rfl rfl (fun hk => ?_))
    change Lb _ _ _ _ _ _ _ [.int (s1.2.1 261 ((60 * (s1.1 75)) + ((a1 - 4000) / 6)).toInt.toNat), .int 6, .int 1000, .int (2 * x3), .ref 265] _ _
    replace h := h (kc_in (x := ((60 * (s1.1 75)) + ((a1 - 4000) / 6))) rfl hk)
    refine Lb_w (lb_ca [.int (6 * (s1.2.1 261 ((60 * (s1.1 75)) + ((a1 - 4000) / 6)).toInt.toNat)), .int 1000, .int (2 * x3), .ref 265] xo_imul rfl rfl (fun _ hk => ?_))
    replace hk := kc_mul (x := 6) (y := s1.2.1 261 ((60 * (s1.1 75)) + ((a1 - 4000) / 6)).toInt.toNat) (show (6 : Int32).toInt = 6 by decide) rfl hk
    replace h := h hk _ (i_mul (x := 6) (y := s1.2.1 261 ((60 * (s1.1 75)) + ((a1 - 4000) / 6)).toInt.toNat) (show (6 : Int32).toInt = 6 by decide) rfl hk)
    refine Lb_w (lb_ca [.int (1000 + (6 * (s1.2.1 261 ((60 * (s1.1 75)) + ((a1 - 4000) / 6)).toInt.toNat))), .int (2 * x3), .ref 265] xo_iadd rfl rfl (fun _ hk => ?_))
    replace hk := kc_add (x := 1000) (y := (6 * (s1.2.1 261 ((60 * (s1.1 75)) + ((a1 - 4000) / 6)).toInt.toNat))) (show (1000 : Int32).toInt = 1000 by decide) rfl hk
    replace h := h hk _ (i_add (x := 1000) (y := (6 * (s1.2.1 261 ((60 * (s1.1 75)) + ((a1 - 4000) / 6)).toInt.toNat))) (show (1000 : Int32).toInt = 1000 by decide) rfl hk)
    refine Lb_w (lb_ias rfl rfl (fun hk => ?_))
    replace h := h (kc_in (x := (2 * x3)) rfl hk)
    replace h := h _ rfl
    refine Lb_w (lb_ld rfl rfl rfl ?_)
    refine Lb_w (lb_get rfl rfl ?_)
    change Lb _ _ _ _ _ _ _ [.ref 266] _ _
    refine Lb_w (lb_ld rfl rfl rfl ?_)
    refine Lb_w (lb_ld rfl rfl rfl ?_)
    refine Lb_w (lb_get rfl rfl ?_)
    change Lb _ _ _ _ _ _ _ [.ref 236, .int (2 * x3), .ref 266] _ _
    refine Lb_w (lb_ld rfl rfl rfl ?_)
    refine Lb_w (lb_ial rfl rfl (fun hk => ?_))
    change Lb _ _ _ _ _ _ _ [.int ((sa s1 265 (2 * x3).toInt.toNat (1000 + (6 * (s1.2.1 261 ((60 * (s1.1 75)) + ((a1 - 4000) / 6)).toInt.toNat)))).2.1 236 ((24 * (s1.1 75)) + (s1.2.1 261 ((60 * (s1.1 75)) + ((a1 - 4000) / 6)).toInt.toNat)).toInt.toNat), .int (2 * x3), .ref 266] _ _
    replace h := h (kc_in (x := ((24 * (s1.1 75)) + (s1.2.1 261 ((60 * (s1.1 75)) + ((a1 - 4000) / 6)).toInt.toNat))) rfl hk)
    refine Lb_w (lb_ias rfl rfl (fun hk => ?_))
    replace h := h (kc_in (x := (2 * x3)) rfl hk)
    replace h := h _ rfl
    refine Lb_w (lb_c [.int 0] (xo_push (.int 0)) rfl rfl ?_)
    refine Lb_w (lb_st [.ref 213, .int a1, .int x3, .null, .int ((a1 - 4000) / 6), .int ((24 * (s1.1 75)) + (s1.2.1 261 ((60 * (s1.1 75)) + ((a1 - 4000) / 6)).toInt.toNat)), .int (2 * x3), .int 0, .null, .null] rfl rfl rfl ?_)
    exact lkl_194_58  h
theorem pb_194 {d : Nat} {a1 : Int32} {s : yS} {P : Option Value → yS → Prop} (h : ub_194_0 (Par d) a1 s P) : Par (d + 1) 194 [.ref 213, .int a1] s P := par_of (E := xE_194) (ml := 8) (ret := none) rfl (fun _ => lk_194_0 h)
/-! implement -/
def ub_195_103 (T : Nat → List Value → yS → (Option Value → yS → Prop) → Prop)  (a1 : Int32) (a2 : Int32) (a3 : Int32) (a4 : Int32) (a5 : Int32) (a6 : Int32) (a7 : Int32) (a8 : Int32) (a9 : Int32) (a10 : Int32) (s : yS) (P : Option Value → yS → Prop) : Prop :=
  ∀ s1, s1 = sf s 64 a6 → P (some (.int a9)) s1
set_option maxRecDepth 20000 in
theorem lk_195_103 {d N0 : Nat}  {a1 : Int32} {a2 : Int32} {a3 : Int32} {a4 : Int32} {a5 : Int32} {a6 : Int32} {a7 : Int32} {a8 : Int32} {a9 : Int32} {a10 : Int32} {s : yS} {P : Option Value → yS → Prop}  (h : ub_195_103 (Par d)  a1 a2 a3 a4 a5 a6 a7 a8 a9 a10 s P) : Lb d N0 12 (some .int) xE_195 (xE_195.drop 103) [.ref 213, .int a1, .int a2, .int a3, .int a4, .int a5, .int a6, .int a7, .int a8, .int a9, .int a10, .null, .null, .null, .null, .null, .null] [] s P := by
  unfold ub_195_103 at h
  refine Lb_w (lb_ld rfl rfl rfl ?_)
  refine Lb_w (lb_ld rfl rfl rfl ?_)
  refine Lb_w (lb_put rfl rfl (fun hk => ?_))
  replace h := h _ rfl
  refine Lb_w (lb_ld rfl rfl rfl ?_)
  exact Lb_w (lb_retI rfl h)
def ub_195_100 (T : Nat → List Value → yS → (Option Value → yS → Prop) → Prop) (R63 : Int32 → Int32 → Int32 → Int32 → Int32 → Int32 → Int32 → Int32 → Int32 → Int32 → yS → Prop) (a1 : Int32) (a2 : Int32) (a3 : Int32) (a4 : Int32) (a5 : Int32) (a6 : Int32) (a7 : Int32) (a8 : Int32) (a9 : Int32) (a10 : Int32) (a11 : Int32) (t0 : Int32) (s : yS) (P : Option Value → yS → Prop) : Prop :=
  ((-2147483648 ≤ a10.toInt + 1 ∧ a10.toInt + 1 ≤ 2147483647) → ∀ x1 : Int32, x1.toInt = a10.toInt + 1 → R63 a1 a2 a3 a4 a5 a6 a7 a8 t0 x1  s)
set_option maxRecDepth 20000 in
theorem lk_195_100 {d N0 : Nat} {R63 : Int32 → Int32 → Int32 → Int32 → Int32 → Int32 → Int32 → Int32 → Int32 → Int32 → yS → Prop} {a1 : Int32} {a2 : Int32} {a3 : Int32} {a4 : Int32} {a5 : Int32} {a6 : Int32} {a7 : Int32} {a8 : Int32} {a9 : Int32} {a10 : Int32} {a11 : Int32} {t0 : Int32} {s : yS} {P : Option Value → yS → Prop} (r63 : ∀ a1 a2 a3 a4 a5 a6 a7 a8 a9 a10 s, R63 a1 a2 a3 a4 a5 a6 a7 a8 a9 a10 s → Lb d N0 12 (some .int) xE_195 (xE_195.drop 63) [.ref 213, .int a1, .int a2, .int a3, .int a4, .int a5, .int a6, .int a7, .int a8, .int a9, .int a10, .null, .null, .null, .null, .null, .null] [] s P) (h : ub_195_100 (Par d) R63 a1 a2 a3 a4 a5 a6 a7 a8 a9 a10 a11 t0 s P) : Lb d N0 12 (some .int) xE_195 (xE_195.drop 100) [.ref 213, .int a1, .int a2, .int a3, .int a4, .int a5, .int a6, .int a7, .int a8, .int a9, .int a10, .int a11, .null, .null, .null, .null, .null] [.int t0] s P := by
  unfold ub_195_100 at h
  refine Lb_w (lb_st [.ref 213, .int a1, .int a2, .int a3, .int a4, .int a5, .int a6, .int a7, .int a8, .int t0, .int a10, .int a11, .null, .null, .null, .null, .null] rfl rfl rfl ?_)
  refine Lb_w (lb_inc [.ref 213, .int a1, .int a2, .int a3, .int a4, .int a5, .int a6, .int a7, .int a8, .int t0, .int (a10 + 1), .int a11, .null, .null, .null, .null, .null] rfl rfl rfl rfl (fun hk => ?_))
  replace hk := kc_inc (x := a10) (n := 1) rfl hk
  replace h := h hk _ (i_add (x := a10) (y := 1) rfl (show (1 : Int32).toInt = 1 by decide) hk)
  refine Lb_w (lb_go rfl ?_)
  refine lb_fg 11 ?_
  exact r63 a1 a2 a3 a4 a5 a6 a7 a8 t0 (a10 + 1)  s h
def ub_195_63 (T : Nat → List Value → yS → (Option Value → yS → Prop) → Prop) (R63 : Int32 → Int32 → Int32 → Int32 → Int32 → Int32 → Int32 → Int32 → Int32 → Int32 → yS → Prop) (a1 : Int32) (a2 : Int32) (a3 : Int32) (a4 : Int32) (a5 : Int32) (a6 : Int32) (a7 : Int32) (a8 : Int32) (a9 : Int32) (a10 : Int32) (s : yS) (P : Option Value → yS → Prop) : Prop :=
  ((0 ≤ a8.toInt ∧ a8.toInt < 48) → ((s.2.1 243 a8.toInt.toNat).toInt ≤ a10.toInt → ub_195_103 T  a1 a2 a3 a4 a5 a6 a7 a8 a9 a10  s P) ∧ (¬ ((s.2.1 243 a8.toInt.toNat).toInt ≤ a10.toInt) → (¬ (a9.toInt = 1) → ub_195_103 T  a1 a2 a3 a4 a5 a6 a7 a8 a9 a10  s P) ∧ (a9.toInt = 1 → ((0 ≤ a8.toInt ∧ a8.toInt < 48) → ((-2147483648 ≤ (s.2.1 242 a8.toInt.toNat).toInt + a10.toInt ∧ (s.2.1 242 a8.toInt.toNat).toInt + a10.toInt ≤ 2147483647) → ∀ x1 : Int32, x1.toInt = (s.2.1 242 a8.toInt.toNat).toInt + a10.toInt → ((0 ≤ x1.toInt ∧ x1.toInt < 408) → ((0 ≤ (s.2.1 244 x1.toInt.toNat).toInt ∧ (s.2.1 244 x1.toInt.toNat).toInt < 12006) → T 193 [.ref 213, .int a7, .int (s.2.1 217 (s.2.1 244 x1.toInt.toNat).toInt.toNat)] s (fun v3 s2 => ∃ x4, v3 = some (.int x4) ∧ ((x4.toInt = 0 → ub_195_100 T R63 a1 a2 a3 a4 a5 a6 a7 a8 a9 a10 x1 0 s2 P) ∧ (¬ (x4.toInt = 0) → T 196 [.ref 213, .int x1, .int a3, .int a5, .int (s2.1 73), .int a7] s2 (fun v6 s5 => ∃ x7, v6 = some (.int x7) ∧ (ub_195_100 T R63 a1 a2 a3 a4 a5 a6 a7 a8 a9 a10 x1 x7 s5 P))))))))))))
set_option maxRecDepth 20000 in
theorem lk_195_63 {d N0 : Nat} {R63 : Int32 → Int32 → Int32 → Int32 → Int32 → Int32 → Int32 → Int32 → Int32 → Int32 → yS → Prop} {a1 : Int32} {a2 : Int32} {a3 : Int32} {a4 : Int32} {a5 : Int32} {a6 : Int32} {a7 : Int32} {a8 : Int32} {a9 : Int32} {a10 : Int32} {s : yS} {P : Option Value → yS → Prop} (r63 : ∀ a1 a2 a3 a4 a5 a6 a7 a8 a9 a10 s, R63 a1 a2 a3 a4 a5 a6 a7 a8 a9 a10 s → Lb d N0 12 (some .int) xE_195 (xE_195.drop 63) [.ref 213, .int a1, .int a2, .int a3, .int a4, .int a5, .int a6, .int a7, .int a8, .int a9, .int a10, .null, .null, .null, .null, .null, .null] [] s P) (h : ub_195_63 (Par d) R63 a1 a2 a3 a4 a5 a6 a7 a8 a9 a10 s P) : Lb d (N0 + 1) 12 (some .int) xE_195 (xE_195.drop 63) [.ref 213, .int a1, .int a2, .int a3, .int a4, .int a5, .int a6, .int a7, .int a8, .int a9, .int a10, .null, .null, .null, .null, .null, .null] [] s P := by
  unfold ub_195_63 at h
  refine lb_ld rfl rfl rfl ?_
  refine Lb_w (lb_ld rfl rfl rfl ?_)
  refine Lb_w (lb_get rfl rfl ?_)
  change Lb _ _ _ _ _ _ _ [.ref 243, .int a10] _ _
  refine Lb_w (lb_ld rfl rfl rfl ?_)
  refine Lb_w (lb_ial rfl rfl (fun hk => ?_))
  change Lb _ _ _ _ _ _ _ [.int (s.2.1 243 a8.toInt.toNat), .int a10] _ _
  replace h := h (kc_in (x := a8) rfl hk)
  refine Lb_w (lb_brP rfl rfl ⟨fun hc => ?_, fun hc => ?_⟩)
  · replace h := h.1 ((i_le (x := s.2.1 243 a8.toInt.toNat) (y := a10) rfl rfl).mp hc)
    exact lk_195_103  h
  · replace h := h.2 (fun q => hc ((i_le (x := s.2.1 243 a8.toInt.toNat) (y := a10) rfl rfl).mpr q))
    refine Lb_w (lb_ld rfl rfl rfl ?_)
    refine Lb_w (lb_c [.int 1, .int a9] (xo_push (.int 1)) rfl rfl ?_)
    refine Lb_w (lb_brN rfl rfl ⟨fun hc => ?_, fun hc => ?_⟩)
    · replace h := h.1 (fun q => hc ((i_eq (x := a9) (y := 1) rfl (show (1 : Int32).toInt = 1 by decide)).mpr q))
      exact lk_195_103  h
    · replace h := h.2 ((i_eq (x := a9) (y := 1) rfl (show (1 : Int32).toInt = 1 by decide)).mp hc)
      refine Lb_w (lb_ld rfl rfl rfl ?_)
      refine Lb_w (lb_get rfl rfl ?_)
      change Lb _ _ _ _ _ _ _ [.ref 242] _ _
      refine Lb_w (lb_ld rfl rfl rfl ?_)
      refine Lb_w (lb_ial rfl rfl (fun hk => ?_))
      change Lb _ _ _ _ _ _ _ [.int (s.2.1 242 a8.toInt.toNat)] _ _
      replace h := h (kc_in (x := a8) rfl hk)
      refine Lb_w (lb_ld rfl rfl rfl ?_)
      refine Lb_w (lb_ca [.int ((s.2.1 242 a8.toInt.toNat) + a10)] xo_iadd rfl rfl (fun _ hk => ?_))
      replace hk := kc_add (x := s.2.1 242 a8.toInt.toNat) (y := a10) rfl rfl hk
      replace h := h hk _ (i_add (x := s.2.1 242 a8.toInt.toNat) (y := a10) rfl rfl hk)
      refine Lb_w (lb_st [.ref 213, .int a1, .int a2, .int a3, .int a4, .int a5, .int a6, .int a7, .int a8, .int a9, .int a10, .int ((s.2.1 242 a8.toInt.toNat) + a10), .null, .null, .null, .null, .null] rfl rfl rfl ?_)
      refine Lb_w (lb_ld rfl rfl rfl ?_)
      refine Lb_w (lb_ld rfl rfl rfl ?_)
      refine Lb_w (lb_ld rfl rfl rfl ?_)
      refine Lb_w (lb_get rfl rfl ?_)
      change Lb _ _ _ _ _ _ _ [.ref 217, .int a7, .ref 213] _ _
      refine Lb_w (lb_ld rfl rfl rfl ?_)
      refine Lb_w (lb_get rfl rfl ?_)
      change Lb _ _ _ _ _ _ _ [.ref 244, .ref 217, .int a7, .ref 213] _ _
      refine Lb_w (lb_ld rfl rfl rfl ?_)
      refine Lb_w (lb_ial rfl rfl (fun hk => ?_))
      change Lb _ _ _ _ _ _ _ [.int (s.2.1 244 ((s.2.1 242 a8.toInt.toNat) + a10).toInt.toNat), .ref 217, .int a7, .ref 213] _ _
      replace h := h (kc_in (x := ((s.2.1 242 a8.toInt.toNat) + a10)) rfl hk)
      refine Lb_w (lb_ial rfl rfl (fun hk => ?_))
      change Lb _ _ _ _ _ _ _ [.int (s.2.1 217 (s.2.1 244 ((s.2.1 242 a8.toInt.toNat) + a10).toInt.toNat).toInt.toNat), .int a7, .ref 213] _ _
      replace h := h (kc_in (x := s.2.1 244 ((s.2.1 242 a8.toInt.toNat) + a10).toInt.toNat) rfl hk)
      refine Lb_w (lb_call [.ref 213, .int a7, .int (s.2.1 217 (s.2.1 244 ((s.2.1 242 a8.toInt.toNat) + a10).toInt.toNat).toInt.toNat)] [] rfl rfl rfl (Par.imp h (fun v3 s2 h => ?_)))
      obtain ⟨x4, rfl, h⟩ := h
      change Lb _ _ _ _ _ _ _ [.int x4] _ _
      refine Lb_w (lb_brP rfl rfl ⟨fun hc => ?_, fun hc => ?_⟩)
      · replace h := h.1 ((i_eq (x := x4) (y := 0) rfl (show (0 : Int32).toInt = 0 by decide)).mp hc)
        refine Lb_w (lb_c [.int 0] (xo_push (.int 0)) rfl rfl ?_)
        exact lk_195_100 r63 h
      · replace h := h.2 (fun q => hc ((i_eq (x := x4) (y := 0) rfl (show (0 : Int32).toInt = 0 by decide)).mpr q))
        refine Lb_w (lb_ld rfl rfl rfl ?_)
        refine Lb_w (lb_ld rfl rfl rfl ?_)
        refine Lb_w (lb_ld rfl rfl rfl ?_)
        refine Lb_w (lb_ld rfl rfl rfl ?_)
        refine Lb_w (lb_ld rfl rfl rfl ?_)
        refine Lb_w (lb_get rfl rfl ?_)
        change Lb _ _ _ _ _ _ _ [.int (s2.1 73), .int a5, .int a3, .int ((s.2.1 242 a8.toInt.toNat) + a10), .ref 213] _ _
        refine Lb_w (lb_ld rfl rfl rfl ?_)
        refine Lb_w (lb_call [.ref 213, .int ((s.2.1 242 a8.toInt.toNat) + a10), .int a3, .int a5, .int (s2.1 73), .int a7] [] rfl rfl rfl (Par.imp h (fun v6 s5 h => ?_)))
        obtain ⟨x7, rfl, h⟩ := h
        change Lb _ _ _ _ _ _ _ [.int x7] _ _
        refine Lb_w (lb_go rfl ?_)
        exact lk_195_100 r63 h
def ubl_195_63 (T : Nat → List Value → yS → (Option Value → yS → Prop) → Prop)  (a1 : Int32) (a2 : Int32) (a3 : Int32) (a4 : Int32) (a5 : Int32) (a6 : Int32) (a7 : Int32) (a8 : Int32) (a9 : Int32) (a10 : Int32) (s : yS) (P : Option Value → yS → Prop) : Prop :=
  ∃ (I : Int32 → Int32 → Int32 → Int32 → Int32 → Int32 → Int32 → Int32 → Int32 → Int32 → yS → Prop), I a1 a2 a3 a4 a5 a6 a7 a8 a9 a10 s ∧ ∀ (a1 : Int32) (a2 : Int32) (a3 : Int32) (a4 : Int32) (a5 : Int32) (a6 : Int32) (a7 : Int32) (a8 : Int32) (a9 : Int32) (a10 : Int32) (s : yS), I a1 a2 a3 a4 a5 a6 a7 a8 a9 a10 s → ub_195_63 T I a1 a2 a3 a4 a5 a6 a7 a8 a9 a10 s P
theorem lkl_195_63 {d N0 : Nat}  {a1 : Int32} {a2 : Int32} {a3 : Int32} {a4 : Int32} {a5 : Int32} {a6 : Int32} {a7 : Int32} {a8 : Int32} {a9 : Int32} {a10 : Int32} {s : yS} {P : Option Value → yS → Prop}  (h : ubl_195_63 (Par d)  a1 a2 a3 a4 a5 a6 a7 a8 a9 a10 s P) : Lb d N0 12 (some .int) xE_195 (xE_195.drop 63) [.ref 213, .int a1, .int a2, .int a3, .int a4, .int a5, .int a6, .int a7, .int a8, .int a9, .int a10, .null, .null, .null, .null, .null, .null] [] s P := by
  obtain ⟨I, h0, h1⟩ := h
  have key : ∀ (m : Nat), m ≤ N0 → ∀ (a1 : Int32) (a2 : Int32) (a3 : Int32) (a4 : Int32) (a5 : Int32) (a6 : Int32) (a7 : Int32) (a8 : Int32) (a9 : Int32) (a10 : Int32) (s : yS), I a1 a2 a3 a4 a5 a6 a7 a8 a9 a10 s → Lb d m 12 (some .int) xE_195 (xE_195.drop 63) [.ref 213, .int a1, .int a2, .int a3, .int a4, .int a5, .int a6, .int a7, .int a8, .int a9, .int a10, .null, .null, .null, .null, .null, .null] [] s P := by
    intro m
    induction m with
    | zero => exact fun _ a1 a2 a3 a4 a5 a6 a7 a8 a9 a10 s _ => Lb_0
    | succ m ih =>
      intro hm
      replace hm : m ≤ N0 := Nat.le_of_succ_le hm
      replace ih := ih hm
      intro a1 a2 a3 a4 a5 a6 a7 a8 a9 a10 s hI
      exact lk_195_63 ih (h1 a1 a2 a3 a4 a5 a6 a7 a8 a9 a10 s hI)
  exact key N0 (Nat.le_refl _) a1 a2 a3 a4 a5 a6 a7 a8 a9 a10 s h0
def ub_195_52 (T : Nat → List Value → yS → (Option Value → yS → Prop) → Prop)  (a1 : Int32) (a2 : Int32) (a3 : Int32) (a4 : Int32) (a5 : Int32) (a6 : Int32) (a7 : Int32) (s : yS) (P : Option Value → yS → Prop) : Prop :=
  ((-2147483648 ≤ 24 * (s.1 75).toInt ∧ 24 * (s.1 75).toInt ≤ 2147483647) → ∀ x1 : Int32, x1.toInt = 24 * (s.1 75).toInt → ((-2147483648 ≤ x1.toInt + a5.toInt ∧ x1.toInt + a5.toInt ≤ 2147483647) → ∀ x2 : Int32, x2.toInt = x1.toInt + a5.toInt → ubl_195_63 T  a1 a2 a3 a4 a5 a6 a7 x2 1 0  s P))
set_option maxRecDepth 20000 in
theorem lk_195_52 {d N0 : Nat}  {a1 : Int32} {a2 : Int32} {a3 : Int32} {a4 : Int32} {a5 : Int32} {a6 : Int32} {a7 : Int32} {s : yS} {P : Option Value → yS → Prop}  (h : ub_195_52 (Par d)  a1 a2 a3 a4 a5 a6 a7 s P) : Lb d N0 12 (some .int) xE_195 (xE_195.drop 52) [.ref 213, .int a1, .int a2, .int a3, .int a4, .int a5, .int a6, .int a7, .null, .null, .null, .null, .null, .null, .null, .null, .null] [] s P := by
  unfold ub_195_52 at h
  refine Lb_w (lb_c [.int 24] (xo_push (.int 24)) rfl rfl ?_)
  refine Lb_w (lb_ld rfl rfl rfl ?_)
  refine Lb_w (lb_get rfl rfl ?_)
  change Lb _ _ _ _ _ _ _ [.int (s.1 75), .int 24] _ _
  refine Lb_w (lb_ca [.int (24 * (s.1 75))] xo_imul rfl rfl (fun _ hk => ?_))
  replace hk := kc_mul (x := 24) (y := s.1 75) (show (24 : Int32).toInt = 24 by decide) rfl hk
  replace h := h hk _ (i_mul (x := 24) (y := s.1 75) (show (24 : Int32).toInt = 24 by decide) rfl hk)
  refine Lb_w (lb_ld rfl rfl rfl ?_)
  refine Lb_w (lb_ca [.int ((24 * (s.1 75)) + a5)] xo_iadd rfl rfl (fun _ hk => ?_))
  replace hk := kc_add (x := (24 * (s.1 75))) (y := a5) rfl rfl hk
  replace h := h hk _ (i_add (x := (24 * (s.1 75))) (y := a5) rfl rfl hk)
  refine Lb_w (lb_st [.ref 213, .int a1, .int a2, .int a3, .int a4, .int a5, .int a6, .int a7, .int ((24 * (s.1 75)) + a5), .null, .null, .null, .null, .null, .null, .null, .null] rfl rfl rfl ?_)
  refine Lb_w (lb_c [.int 1] (xo_push (.int 1)) rfl rfl ?_)
  refine Lb_w (lb_st [.ref 213, .int a1, .int a2, .int a3, .int a4, .int a5, .int a6, .int a7, .int ((24 * (s.1 75)) + a5), .int 1, .null, .null, .null, .null, .null, .null, .null] rfl rfl rfl ?_)
  refine Lb_w (lb_c [.int 0] (xo_push (.int 0)) rfl rfl ?_)
  refine Lb_w (lb_st [.ref 213, .int a1, .int a2, .int a3, .int a4, .int a5, .int a6, .int a7, .int ((24 * (s.1 75)) + a5), .int 1, .int 0, .null, .null, .null, .null, .null, .null] rfl rfl rfl ?_)
  exact lkl_195_63  h
def ub_195_29 (T : Nat → List Value → yS → (Option Value → yS → Prop) → Prop)  (a1 : Int32) (a2 : Int32) (a3 : Int32) (a4 : Int32) (a5 : Int32) (t0 : Int32) (s : yS) (P : Option Value → yS → Prop) : Prop :=
  P (some (.int t0)) s
set_option maxRecDepth 20000 in
theorem lk_195_29 {d N0 : Nat}  {a1 : Int32} {a2 : Int32} {a3 : Int32} {a4 : Int32} {a5 : Int32} {t0 : Int32} {s : yS} {P : Option Value → yS → Prop}  (h : ub_195_29 (Par d)  a1 a2 a3 a4 a5 t0 s P) : Lb d N0 12 (some .int) xE_195 (xE_195.drop 29) [.ref 213, .int a1, .int a2, .int a3, .int a4, .int a5, .null, .null, .null, .null, .null, .null, .null, .null, .null, .null, .null] [.int t0] s P := by
  unfold ub_195_29 at h
  exact Lb_w (lb_retI rfl h)
def ub_195_19 (T : Nat → List Value → yS → (Option Value → yS → Prop) → Prop)  (a1 : Int32) (a2 : Int32) (a3 : Int32) (a4 : Int32) (a5 : Int32) (s : yS) (P : Option Value → yS → Prop) : Prop :=
  T 187 [.ref 213, .int a1, .int a2, .int a3, .int a4] s (fun v2 s1 => ∃ x3, v2 = some (.int x3) ∧ ((x3.toInt = 0 → ub_195_29 T  a1 a2 a3 a4 a5 0 s1 P) ∧ (¬ (x3.toInt = 0) → ub_195_29 T  a1 a2 a3 a4 a5 1 s1 P)))
set_option maxRecDepth 20000 in
theorem lk_195_19 {d N0 : Nat}  {a1 : Int32} {a2 : Int32} {a3 : Int32} {a4 : Int32} {a5 : Int32} {s : yS} {P : Option Value → yS → Prop}  (h : ub_195_19 (Par d)  a1 a2 a3 a4 a5 s P) : Lb d N0 12 (some .int) xE_195 (xE_195.drop 19) [.ref 213, .int a1, .int a2, .int a3, .int a4, .int a5, .null, .null, .null, .null, .null, .null, .null, .null, .null, .null, .null] [] s P := by
  unfold ub_195_19 at h
  refine Lb_w (lb_ld rfl rfl rfl ?_)
  refine Lb_w (lb_ld rfl rfl rfl ?_)
  refine Lb_w (lb_ld rfl rfl rfl ?_)
  refine Lb_w (lb_ld rfl rfl rfl ?_)
  refine Lb_w (lb_ld rfl rfl rfl ?_)
  refine Lb_w (lb_call [.ref 213, .int a1, .int a2, .int a3, .int a4] [] rfl rfl rfl (Par.imp h (fun v2 s1 h => ?_)))
  obtain ⟨x3, rfl, h⟩ := h
  change Lb _ _ _ _ _ _ _ [.int x3] _ _
  refine Lb_w (lb_brP rfl rfl ⟨fun hc => ?_, fun hc => ?_⟩)
  · replace h := h.1 ((i_eq (x := x3) (y := 0) rfl (show (0 : Int32).toInt = 0 by decide)).mp hc)
    refine Lb_w (lb_c [.int 0] (xo_push (.int 0)) rfl rfl ?_)
    exact lk_195_29  h
  · replace h := h.2 (fun q => hc ((i_eq (x := x3) (y := 0) rfl (show (0 : Int32).toInt = 0 by decide)).mpr q))
    refine Lb_w (lb_c [.int 1] (xo_push (.int 1)) rfl rfl ?_)
    refine Lb_w (lb_go rfl ?_)
    exact lk_195_29  h
def ub_195_0 (T : Nat → List Value → yS → (Option Value → yS → Prop) → Prop)  (a1 : Int32) (a2 : Int32) (a3 : Int32) (a4 : Int32) (s : yS) (P : Option Value → yS → Prop) : Prop :=
  ((0 ≤ a3.toInt ∧ a3.toInt < 200000) → T 185 [.int (s.2.1 264 a3.toInt.toNat)] s (fun v2 s1 => ∃ x3, v2 = some (.int x3) ∧ ((1000 ≤ x3.toInt → ub_195_19 T  a1 a2 a3 a4 x3  s1 P) ∧ (¬ (1000 ≤ x3.toInt) → ((-2147483648 ≤ 24 * (s1.1 75).toInt ∧ 24 * (s1.1 75).toInt ≤ 2147483647) → ∀ x4 : Int32, x4.toInt = 24 * (s1.1 75).toInt → ((-2147483648 ≤ x4.toInt + x3.toInt ∧ x4.toInt + x3.toInt ≤ 2147483647) → ∀ x5 : Int32, x5.toInt = x4.toInt + x3.toInt → ((0 ≤ x5.toInt ∧ x5.toInt < 48) → ((s1.2.1 235 x5.toInt.toNat).toInt = 0 → ((0 ≤ a1.toInt ∧ a1.toInt < 200000) → T 185 [.int (s1.2.1 264 a1.toInt.toNat)] s1 (fun v7 s6 => ∃ x8, v7 = some (.int x8) ∧ ((x8.toInt < 1000 → ub_195_52 T  a1 a2 a3 a4 x3 (s1.1 64) a1  s6 P) ∧ (¬ (x8.toInt < 1000) → ((0 ≤ a1.toInt ∧ a1.toInt < 200000) → T 185 [.int (s6.2.1 264 a1.toInt.toNat)] s6 (fun v10 s9 => ∃ x11, v10 = some (.int x11) ∧ (T 194 [.ref 213, .int x11] s9 (fun v13 s12 => v13 = none ∧ (ub_195_52 T  a1 a2 a3 a4 x3 (s1.1 64) (s12.1 71)  s12 P)))))))))) ∧ (¬ ((s1.2.1 235 x5.toInt.toNat).toInt = 0) → ub_195_19 T  a1 a2 a3 a4 x3  s1 P))))))))
set_option maxRecDepth 20000 in
theorem lk_195_0 {d N0 : Nat}  {a1 : Int32} {a2 : Int32} {a3 : Int32} {a4 : Int32} {s : yS} {P : Option Value → yS → Prop}  (h : ub_195_0 (Par d)  a1 a2 a3 a4 s P) : Lb d N0 12 (some .int) xE_195 (xE_195.drop 0) [.ref 213, .int a1, .int a2, .int a3, .int a4, .null, .null, .null, .null, .null, .null, .null, .null, .null, .null, .null, .null] [] s P := by
  unfold ub_195_0 at h
  refine Lb_w (lb_ld rfl rfl rfl ?_)
  refine Lb_w (lb_get rfl rfl ?_)
  change Lb _ _ _ _ _ _ _ [.ref 264] _ _
  refine Lb_w (lb_ld rfl rfl rfl ?_)
  refine Lb_w (lb_ial rfl rfl (fun hk => ?_))
  change Lb _ _ _ _ _ _ _ [.int (s.2.1 264 a3.toInt.toNat)] _ _
  replace h := h (kc_in (x := a3) rfl hk)
  refine Lb_w (lb_call [.int (s.2.1 264 a3.toInt.toNat)] [] rfl rfl rfl (Par.imp h (fun v2 s1 h => ?_)))
  obtain ⟨x3, rfl, h⟩ := h
  change Lb _ _ _ _ _ _ _ [.int x3] _ _
  refine Lb_w (lb_st [.ref 213, .int a1, .int a2, .int a3, .int a4, .int x3, .null, .null, .null, .null, .null, .null, .null, .null, .null, .null, .null] rfl rfl rfl ?_)
  refine Lb_w (lb_ld rfl rfl rfl ?_)
  refine Lb_w (lb_c [.int 1000, .int x3] (xo_push (.int 1000)) rfl rfl ?_)
  refine Lb_w (lb_brP rfl rfl ⟨fun hc => ?_, fun hc => ?_⟩)
  · replace h := h.1 ((i_le (x := 1000) (y := x3) (show (1000 : Int32).toInt = 1000 by decide) rfl).mp hc)
    exact lk_195_19  h
  · replace h := h.2 (fun q => hc ((i_le (x := 1000) (y := x3) (show (1000 : Int32).toInt = 1000 by decide) rfl).mpr q))
    refine Lb_w (lb_ld rfl rfl rfl ?_)
    refine Lb_w (lb_get rfl rfl ?_)
    change Lb _ _ _ _ _ _ _ [.ref 235] _ _
    refine Lb_w (lb_c [.int 24, .ref 235] (xo_push (.int 24)) rfl rfl ?_)
    refine Lb_w (lb_ld rfl rfl rfl ?_)
    refine Lb_w (lb_get rfl rfl ?_)
    change Lb _ _ _ _ _ _ _ [.int (s1.1 75), .int 24, .ref 235] _ _
    refine Lb_w (lb_ca [.int (24 * (s1.1 75)), .ref 235] xo_imul rfl rfl (fun _ hk => ?_))
    replace hk := kc_mul (x := 24) (y := s1.1 75) (show (24 : Int32).toInt = 24 by decide) rfl hk
    replace h := h hk _ (i_mul (x := 24) (y := s1.1 75) (show (24 : Int32).toInt = 24 by decide) rfl hk)
    refine Lb_w (lb_ld rfl rfl rfl ?_)
    refine Lb_w (lb_ca [.int ((24 * (s1.1 75)) + x3), .ref 235] xo_iadd rfl rfl (fun _ hk => ?_))
    replace hk := kc_add (x := (24 * (s1.1 75))) (y := x3) rfl rfl hk
    replace h := h hk _ (i_add (x := (24 * (s1.1 75))) (y := x3) rfl rfl hk)
    refine Lb_w (lb_zal rfl rfl (fun hk => ?_))
    change Lb _ _ _ _ _ _ _ [.int (s1.2.1 235 ((24 * (s1.1 75)) + x3).toInt.toNat)] _ _
    replace h := h (kc_in (x := ((24 * (s1.1 75)) + x3)) rfl hk)
    refine Lb_w (lb_brP rfl rfl ⟨fun hc => ?_, fun hc => ?_⟩)
    · replace h := h.1 ((i_eq (x := s1.2.1 235 ((24 * (s1.1 75)) + x3).toInt.toNat) (y := 0) rfl (show (0 : Int32).toInt = 0 by decide)).mp hc)
      refine Lb_w (lb_ld rfl rfl rfl ?_)
      refine Lb_w (lb_get rfl rfl ?_)
      change Lb _ _ _ _ _ _ _ [.int (s1.1 64)] _ _
      refine Lb_w (lb_st [.ref 213, .int a1, .int a2, .int a3, .int a4, .int x3, .int (s1.1 64), .null, .null, .null, .null, .null, .null, .null, .null, .null, .null] rfl rfl rfl ?_)
      refine Lb_w (lb_ld rfl rfl rfl ?_)
      refine Lb_w (lb_st [.ref 213, .int a1, .int a2, .int a3, .int a4, .int x3, .int (s1.1 64), .int a1, .null, .null, .null, .null, .null, .null, .null, .null, .null] rfl rfl rfl ?_)
      refine Lb_w (lb_ld rfl rfl rfl ?_)
      refine Lb_w (lb_get rfl rfl ?_)
      change Lb _ _ _ _ _ _ _ [.ref 264] _ _
      refine Lb_w (lb_ld rfl rfl rfl ?_)
      refine Lb_w (lb_ial rfl rfl (fun hk => ?_))
      change Lb _ _ _ _ _ _ _ [.int (s1.2.1 264 a1.toInt.toNat)] _ _
      replace h := h (kc_in (x := a1) rfl hk)
      refine Lb_w (lb_call [.int (s1.2.1 264 a1.toInt.toNat)] [] rfl rfl rfl (Par.imp h (fun v7 s6 h => ?_)))
      obtain ⟨x8, rfl, h⟩ := h
      change Lb _ _ _ _ _ _ _ [.int x8] _ _
      refine Lb_w (lb_c [.int 1000, .int x8] (xo_push (.int 1000)) rfl rfl ?_)
      refine Lb_w (lb_brP rfl rfl ⟨fun hc => ?_, fun hc => ?_⟩)
      · replace h := h.1 ((i_lt (x := x8) (y := 1000) rfl (show (1000 : Int32).toInt = 1000 by decide)).mp hc)
        exact lk_195_52  h
      · replace h := h.2 (fun q => hc ((i_lt (x := x8) (y := 1000) rfl (show (1000 : Int32).toInt = 1000 by decide)).mpr q))
        refine Lb_w (lb_ld rfl rfl rfl ?_)
        refine Lb_w (lb_ld rfl rfl rfl ?_)
        refine Lb_w (lb_get rfl rfl ?_)
        change Lb _ _ _ _ _ _ _ [.ref 264, .ref 213] _ _
        refine Lb_w (lb_ld rfl rfl rfl ?_)
        refine Lb_w (lb_ial rfl rfl (fun hk => ?_))
        change Lb _ _ _ _ _ _ _ [.int (s6.2.1 264 a1.toInt.toNat), .ref 213] _ _
        replace h := h (kc_in (x := a1) rfl hk)
        refine Lb_w (lb_call [.int (s6.2.1 264 a1.toInt.toNat)] [.ref 213] rfl rfl rfl (Par.imp h (fun v10 s9 h => ?_)))
        obtain ⟨x11, rfl, h⟩ := h
        change Lb _ _ _ _ _ _ _ [.int x11, .ref 213] _ _
        refine Lb_w (lb_call [.ref 213, .int x11] [] rfl rfl rfl (Par.imp h (fun v13 s12 h => ?_)))
        obtain ⟨rfl, h⟩ := h
        change Lb _ _ _ _ _ _ _ [] _ _
        refine Lb_w (lb_ld rfl rfl rfl ?_)
        refine Lb_w (lb_get rfl rfl ?_)
        change Lb _ _ _ _ _ _ _ [.int (s12.1 71)] _ _
        refine Lb_w (lb_st [.ref 213, .int a1, .int a2, .int a3, .int a4, .int x3, .int (s1.1 64), .int (s12.1 71), .null, .null, .null, .null, .null, .null, .null, .null, .null] rfl rfl rfl ?_)
        exact lk_195_52  h
    · replace h := h.2 (fun q => hc ((i_eq (x := s1.2.1 235 ((24 * (s1.1 75)) + x3).toInt.toNat) (y := 0) rfl (show (0 : Int32).toInt = 0 by decide)).mpr q))
      exact lk_195_19  h
theorem pb_195 {d : Nat} {a1 : Int32} {a2 : Int32} {a3 : Int32} {a4 : Int32} {s : yS} {P : Option Value → yS → Prop} (h : ub_195_0 (Par d) a1 a2 a3 a4 s P) : Par (d + 1) 195 [.ref 213, .int a1, .int a2, .int a3, .int a4] s P := par_of (E := xE_195) (ml := 12) (ret := some .int) rfl (fun _ => lk_195_0 h)
/-! alike -/
def ub_196_171 (T : Nat → List Value → yS → (Option Value → yS → Prop) → Prop)  (a1 : Int32) (a2 : Int32) (a3 : Int32) (a4 : Int32) (a5 : Int32) (a6 : Int32) (a7 : Int32) (a8 : Int32) (a9 : Int32) (t0 : Int32) (s : yS) (P : Option Value → yS → Prop) : Prop :=
  ((-2147483648 ≤ (s.1 70).toInt - 2 ∧ (s.1 70).toInt - 2 ≤ 2147483647) → ∀ x1 : Int32, x1.toInt = (s.1 70).toInt - 2 → ∀ s2, s2 = sf s 70 x1 → P (some (.int t0)) s2)
set_option maxRecDepth 20000 in
theorem lk_196_171 {d N0 : Nat}  {a1 : Int32} {a2 : Int32} {a3 : Int32} {a4 : Int32} {a5 : Int32} {a6 : Int32} {a7 : Int32} {a8 : Int32} {a9 : Int32} {t0 : Int32} {s : yS} {P : Option Value → yS → Prop}  (h : ub_196_171 (Par d)  a1 a2 a3 a4 a5 a6 a7 a8 a9 t0 s P) : Lb d N0 10 (some .int) xE_196 (xE_196.drop 171) [.ref 213, .int a1, .int a2, .int a3, .int a4, .int a5, .int a6, .int a7, .int a8, .int a9, .null, .null, .null, .null, .null, .null] [.int t0] s P := by
  unfold ub_196_171 at h
  refine Lb_w (lb_st [.ref 213, .int a1, .int a2, .int a3, .int a4, .int a5, .int a6, .int a7, .int t0, .int a9, .null, .null, .null, .null, .null, .null] rfl rfl rfl ?_)
  refine Lb_w (lb_ld rfl rfl rfl ?_)
  refine Lb_w (lb_c [.ref 213, .ref 213] xo_dup rfl rfl ?_)
  refine Lb_w (lb_get rfl rfl ?_)
  change Lb _ _ _ _ _ _ _ [.int (s.1 70), .ref 213] _ _
  refine Lb_w (lb_c [.int 2, .int (s.1 70), .ref 213] (xo_push (.int 2)) rfl rfl ?_)
  refine Lb_w (lb_ca [.int ((s.1 70) - 2), .ref 213] xo_isub rfl rfl (fun _ hk => ?_))
  replace hk := kc_sub (x := s.1 70) (y := 2) rfl (show (2 : Int32).toInt = 2 by decide) hk
  replace h := h hk _ (i_sub (x := s.1 70) (y := 2) rfl (show (2 : Int32).toInt = 2 by decide) hk)
  refine Lb_w (lb_put rfl rfl (fun hk => ?_))
  replace h := h _ rfl
  refine Lb_w (lb_ld rfl rfl rfl ?_)
  exact Lb_w (lb_retI rfl h)
def ub_196_154 (T : Nat → List Value → yS → (Option Value → yS → Prop) → Prop)  (a1 : Int32) (a2 : Int32) (a3 : Int32) (a4 : Int32) (a5 : Int32) (a6 : Int32) (a7 : Int32) (a8 : Int32) (a9 : Int32) (s : yS) (P : Option Value → yS → Prop) : Prop :=
  (¬ (a8.toInt = 1) → ub_196_171 T  a1 a2 a3 a4 a5 a6 a7 a8 a9 a8 s P) ∧ (a8.toInt = 1 → ((0 ≤ a1.toInt ∧ a1.toInt < 408) → ((0 ≤ a4.toInt ∧ a4.toInt < 408) → T 197 [.ref 213, .int (s.2.1 251 a1.toInt.toNat), .int a6, .int (s.2.1 251 a4.toInt.toNat), .int a7] s (fun v2 s1 => ∃ x3, v2 = some (.int x3) ∧ (ub_196_171 T  a1 a2 a3 a4 a5 a6 a7 a8 a9 x3 s1 P)))))
set_option maxRecDepth 20000 in
theorem lk_196_154 {d N0 : Nat}  {a1 : Int32} {a2 : Int32} {a3 : Int32} {a4 : Int32} {a5 : Int32} {a6 : Int32} {a7 : Int32} {a8 : Int32} {a9 : Int32} {s : yS} {P : Option Value → yS → Prop}  (h : ub_196_154 (Par d)  a1 a2 a3 a4 a5 a6 a7 a8 a9 s P) : Lb d N0 10 (some .int) xE_196 (xE_196.drop 154) [.ref 213, .int a1, .int a2, .int a3, .int a4, .int a5, .int a6, .int a7, .int a8, .int a9, .null, .null, .null, .null, .null, .null] [] s P := by
  unfold ub_196_154 at h
  refine Lb_w (lb_ld rfl rfl rfl ?_)
  refine Lb_w (lb_c [.int 1, .int a8] (xo_push (.int 1)) rfl rfl ?_)
  refine Lb_w (lb_brN rfl rfl ⟨fun hc => ?_, fun hc => ?_⟩)
  · replace h := h.1 (fun q => hc ((i_eq (x := a8) (y := 1) rfl (show (1 : Int32).toInt = 1 by decide)).mpr q))
    refine Lb_w (lb_ld rfl rfl rfl ?_)
    exact lk_196_171  h
  · replace h := h.2 ((i_eq (x := a8) (y := 1) rfl (show (1 : Int32).toInt = 1 by decide)).mp hc)
    refine Lb_w (lb_ld rfl rfl rfl ?_)
    refine Lb_w (lb_ld rfl rfl rfl ?_)
    refine Lb_w (lb_get rfl rfl ?_)
    change Lb _ _ _ _ _ _ _ [.ref 251, .ref 213] _ _
    refine Lb_w (lb_ld rfl rfl rfl ?_)
    refine Lb_w (lb_ial rfl rfl (fun hk => ?_))
    change Lb _ _ _ _ _ _ _ [.int (s.2.1 251 a1.toInt.toNat), .ref 213] _ _
    replace h := h (kc_in (x := a1) rfl hk)
    refine Lb_w (lb_ld rfl rfl rfl ?_)
    refine Lb_w (lb_ld rfl rfl rfl ?_)
    refine Lb_w (lb_get rfl rfl ?_)
    change Lb _ _ _ _ _ _ _ [.ref 251, .int a6, .int (s.2.1 251 a1.toInt.toNat), .ref 213] _ _
    refine Lb_w (lb_ld rfl rfl rfl ?_)
    refine Lb_w (lb_ial rfl rfl (fun hk => ?_))
    change Lb _ _ _ _ _ _ _ [.int (s.2.1 251 a4.toInt.toNat), .int a6, .int (s.2.1 251 a1.toInt.toNat), .ref 213] _ _
    replace h := h (kc_in (x := a4) rfl hk)
    refine Lb_w (lb_ld rfl rfl rfl ?_)
    refine Lb_w (lb_call [.ref 213, .int (s.2.1 251 a1.toInt.toNat), .int a6, .int (s.2.1 251 a4.toInt.toNat), .int a7] [] rfl rfl rfl (Par.imp h (fun v2 s1 h => ?_)))
    obtain ⟨x3, rfl, h⟩ := h
    change Lb _ _ _ _ _ _ _ [.int x3] _ _
    refine Lb_w (lb_go rfl ?_)
    exact lk_196_171  h
def ub_196_122 (T : Nat → List Value → yS → (Option Value → yS → Prop) → Prop) (R122 : Int32 → Int32 → Int32 → Int32 → Int32 → Int32 → Int32 → Int32 → Int32 → yS → Prop) (a1 : Int32) (a2 : Int32) (a3 : Int32) (a4 : Int32) (a5 : Int32) (a6 : Int32) (a7 : Int32) (a8 : Int32) (a9 : Int32) (s : yS) (P : Option Value → yS → Prop) : Prop :=
  ((0 ≤ a1.toInt ∧ a1.toInt < 408) → ((s.2.1 248 a1.toInt.toNat).toInt ≤ a9.toInt → ub_196_154 T  a1 a2 a3 a4 a5 a6 a7 a8 a9  s P) ∧ (¬ ((s.2.1 248 a1.toInt.toNat).toInt ≤ a9.toInt) → (¬ (a8.toInt = 1) → ub_196_154 T  a1 a2 a3 a4 a5 a6 a7 a8 a9  s P) ∧ (a8.toInt = 1 → ((-2147483648 ≤ 6 * a1.toInt ∧ 6 * a1.toInt ≤ 2147483647) → ∀ x1 : Int32, x1.toInt = 6 * a1.toInt → ((-2147483648 ≤ x1.toInt + a9.toInt ∧ x1.toInt + a9.toInt ≤ 2147483647) → ∀ x2 : Int32, x2.toInt = x1.toInt + a9.toInt → ((0 ≤ x2.toInt ∧ x2.toInt < 2448) → ((-2147483648 ≤ 6 * a4.toInt ∧ 6 * a4.toInt ≤ 2147483647) → ∀ x3 : Int32, x3.toInt = 6 * a4.toInt → ((-2147483648 ≤ x3.toInt + a9.toInt ∧ x3.toInt + a9.toInt ≤ 2147483647) → ∀ x4 : Int32, x4.toInt = x3.toInt + a9.toInt → ((0 ≤ x4.toInt ∧ x4.toInt < 2448) → T 197 [.ref 213, .int (s.2.1 250 x2.toInt.toNat), .int a6, .int (s.2.1 250 x4.toInt.toNat), .int a7] s (fun v6 s5 => ∃ x7, v6 = some (.int x7) ∧ (((-2147483648 ≤ a9.toInt + 1 ∧ a9.toInt + 1 ≤ 2147483647) → ∀ x8 : Int32, x8.toInt = a9.toInt + 1 → R122 a1 a2 a3 a4 a5 a6 a7 x7 x8  s5))))))))))))
set_option maxRecDepth 20000 in
theorem lk_196_122 {d N0 : Nat} {R122 : Int32 → Int32 → Int32 → Int32 → Int32 → Int32 → Int32 → Int32 → Int32 → yS → Prop} {a1 : Int32} {a2 : Int32} {a3 : Int32} {a4 : Int32} {a5 : Int32} {a6 : Int32} {a7 : Int32} {a8 : Int32} {a9 : Int32} {s : yS} {P : Option Value → yS → Prop} (r122 : ∀ a1 a2 a3 a4 a5 a6 a7 a8 a9 s, R122 a1 a2 a3 a4 a5 a6 a7 a8 a9 s → Lb d N0 10 (some .int) xE_196 (xE_196.drop 122) [.ref 213, .int a1, .int a2, .int a3, .int a4, .int a5, .int a6, .int a7, .int a8, .int a9, .null, .null, .null, .null, .null, .null] [] s P) (h : ub_196_122 (Par d) R122 a1 a2 a3 a4 a5 a6 a7 a8 a9 s P) : Lb d (N0 + 1) 10 (some .int) xE_196 (xE_196.drop 122) [.ref 213, .int a1, .int a2, .int a3, .int a4, .int a5, .int a6, .int a7, .int a8, .int a9, .null, .null, .null, .null, .null, .null] [] s P := by
  unfold ub_196_122 at h
  refine lb_ld rfl rfl rfl ?_
  refine Lb_w (lb_ld rfl rfl rfl ?_)
  refine Lb_w (lb_get rfl rfl ?_)
  change Lb _ _ _ _ _ _ _ [.ref 248, .int a9] _ _
  refine Lb_w (lb_ld rfl rfl rfl ?_)
  refine Lb_w (lb_ial rfl rfl (fun hk => ?_))
  change Lb _ _ _ _ _ _ _ [.int (s.2.1 248 a1.toInt.toNat), .int a9] _ _
  replace h := h (kc_in (x := a1) rfl hk)
  refine Lb_w (lb_brP rfl rfl ⟨fun hc => ?_, fun hc => ?_⟩)
  · replace h := h.1 ((i_le (x := s.2.1 248 a1.toInt.toNat) (y := a9) rfl rfl).mp hc)
    exact lk_196_154  h
  · replace h := h.2 (fun q => hc ((i_le (x := s.2.1 248 a1.toInt.toNat) (y := a9) rfl rfl).mpr q))
    refine Lb_w (lb_ld rfl rfl rfl ?_)
    refine Lb_w (lb_c [.int 1, .int a8] (xo_push (.int 1)) rfl rfl ?_)
    refine Lb_w (lb_brN rfl rfl ⟨fun hc => ?_, fun hc => ?_⟩)
    · replace h := h.1 (fun q => hc ((i_eq (x := a8) (y := 1) rfl (show (1 : Int32).toInt = 1 by decide)).mpr q))
      exact lk_196_154  h
    · replace h := h.2 ((i_eq (x := a8) (y := 1) rfl (show (1 : Int32).toInt = 1 by decide)).mp hc)
      refine Lb_w (lb_ld rfl rfl rfl ?_)
      refine Lb_w (lb_ld rfl rfl rfl ?_)
      refine Lb_w (lb_get rfl rfl ?_)
      change Lb _ _ _ _ _ _ _ [.ref 250, .ref 213] _ _
      refine Lb_w (lb_c [.int 6, .ref 250, .ref 213] (xo_push (.int 6)) rfl rfl ?_)
      refine Lb_w (lb_ld rfl rfl rfl ?_)
      refine Lb_w (lb_ca [.int (6 * a1), .ref 250, .ref 213] xo_imul rfl rfl (fun _ hk => ?_))
      replace hk := kc_mul (x := 6) (y := a1) (show (6 : Int32).toInt = 6 by decide) rfl hk
      replace h := h hk _ (i_mul (x := 6) (y := a1) (show (6 : Int32).toInt = 6 by decide) rfl hk)
      refine Lb_w (lb_ld rfl rfl rfl ?_)
      refine Lb_w (lb_ca [.int ((6 * a1) + a9), .ref 250, .ref 213] xo_iadd rfl rfl (fun _ hk => ?_))
      replace hk := kc_add (x := (6 * a1)) (y := a9) rfl rfl hk
      replace h := h hk _ (i_add (x := (6 * a1)) (y := a9) rfl rfl hk)
      refine Lb_w (lb_ial rfl rfl (fun hk => ?_))
      change Lb _ _ _ _ _ _ _ [.int (s.2.1 250 ((6 * a1) + a9).toInt.toNat), .ref 213] _ _
      replace h := h (kc_in (x := ((6 * a1) + a9)) rfl hk)
      refine Lb_w (lb_ld rfl rfl rfl ?_)
      refine Lb_w (lb_ld rfl rfl rfl ?_)
      refine Lb_w (lb_get rfl rfl ?_)
      change Lb _ _ _ _ _ _ _ [.ref 250, .int a6, .int (s.2.1 250 ((6 * a1) + a9).toInt.toNat), .ref 213] _ _
      refine Lb_w (lb_c [.int 6, .ref 250, .int a6, .int (s.2.1 250 ((6 * a1) + a9).toInt.toNat), .ref 213] (xo_push (.int 6)) rfl rfl ?_)
      refine Lb_w (lb_ld rfl rfl rfl ?_)
      refine Lb_w (lb_ca [.int (6 * a4), .ref 250, .int a6, .int (s.2.1 250 ((6 * a1) + a9).toInt.toNat), .ref 213] xo_imul rfl rfl (fun _ hk => ?_))
      replace hk := kc_mul (x := 6) (y := a4) (show (6 : Int32).toInt = 6 by decide) rfl hk
      replace h := h hk _ (i_mul (x := 6) (y := a4) (show (6 : Int32).toInt = 6 by decide) rfl hk)
      refine Lb_w (lb_ld rfl rfl rfl ?_)
      refine Lb_w (lb_ca [.int ((6 * a4) + a9), .ref 250, .int a6, .int (s.2.1 250 ((6 * a1) + a9).toInt.toNat), .ref 213] xo_iadd rfl rfl (fun _ hk => ?_))
      replace hk := kc_add (x := (6 * a4)) (y := a9) rfl rfl hk
      replace h := h hk _ (i_add (x := (6 * a4)) (y := a9) rfl rfl hk)
      refine Lb_w (lb_ial rfl rfl (fun hk => ?_))
      change Lb _ _ _ _ _ _ _ [.int (s.2.1 250 ((6 * a4) + a9).toInt.toNat), .int a6, .int (s.2.1 250 ((6 * a1) + a9).toInt.toNat), .ref 213] _ _
      replace h := h (kc_in (x := ((6 * a4) + a9)) rfl hk)
      refine Lb_w (lb_ld rfl rfl rfl ?_)
      refine Lb_w (lb_call [.ref 213, .int (s.2.1 250 ((6 * a1) + a9).toInt.toNat), .int a6, .int (s.2.1 250 ((6 * a4) + a9).toInt.toNat), .int a7] [] rfl rfl rfl (Par.imp h (fun v6 s5 h => ?_)))
      obtain ⟨x7, rfl, h⟩ := h
      change Lb _ _ _ _ _ _ _ [.int x7] _ _
      refine Lb_w (lb_st [.ref 213, .int a1, .int a2, .int a3, .int a4, .int a5, .int a6, .int a7, .int x7, .int a9, .null, .null, .null, .null, .null, .null] rfl rfl rfl ?_)
      refine Lb_w (lb_inc [.ref 213, .int a1, .int a2, .int a3, .int a4, .int a5, .int a6, .int a7, .int x7, .int (a9 + 1), .null, .null, .null, .null, .null, .null] rfl rfl rfl rfl (fun hk => ?_))
      replace hk := kc_inc (x := a9) (n := 1) rfl hk
      replace h := h hk _ (i_add (x := a9) (y := 1) rfl (show (1 : Int32).toInt = 1 by decide) hk)
      refine Lb_w (lb_go rfl ?_)
      exact r122 a1 a2 a3 a4 a5 a6 a7 x7 (a9 + 1)  s5 h
def ubl_196_122 (T : Nat → List Value → yS → (Option Value → yS → Prop) → Prop)  (a1 : Int32) (a2 : Int32) (a3 : Int32) (a4 : Int32) (a5 : Int32) (a6 : Int32) (a7 : Int32) (a8 : Int32) (a9 : Int32) (s : yS) (P : Option Value → yS → Prop) : Prop :=
  ∃ (I : Int32 → Int32 → Int32 → Int32 → Int32 → Int32 → Int32 → Int32 → Int32 → yS → Prop), I a1 a2 a3 a4 a5 a6 a7 a8 a9 s ∧ ∀ (a1 : Int32) (a2 : Int32) (a3 : Int32) (a4 : Int32) (a5 : Int32) (a6 : Int32) (a7 : Int32) (a8 : Int32) (a9 : Int32) (s : yS), I a1 a2 a3 a4 a5 a6 a7 a8 a9 s → ub_196_122 T I a1 a2 a3 a4 a5 a6 a7 a8 a9 s P
theorem lkl_196_122 {d N0 : Nat}  {a1 : Int32} {a2 : Int32} {a3 : Int32} {a4 : Int32} {a5 : Int32} {a6 : Int32} {a7 : Int32} {a8 : Int32} {a9 : Int32} {s : yS} {P : Option Value → yS → Prop}  (h : ubl_196_122 (Par d)  a1 a2 a3 a4 a5 a6 a7 a8 a9 s P) : Lb d N0 10 (some .int) xE_196 (xE_196.drop 122) [.ref 213, .int a1, .int a2, .int a3, .int a4, .int a5, .int a6, .int a7, .int a8, .int a9, .null, .null, .null, .null, .null, .null] [] s P := by
  obtain ⟨I, h0, h1⟩ := h
  have key : ∀ (m : Nat), m ≤ N0 → ∀ (a1 : Int32) (a2 : Int32) (a3 : Int32) (a4 : Int32) (a5 : Int32) (a6 : Int32) (a7 : Int32) (a8 : Int32) (a9 : Int32) (s : yS), I a1 a2 a3 a4 a5 a6 a7 a8 a9 s → Lb d m 10 (some .int) xE_196 (xE_196.drop 122) [.ref 213, .int a1, .int a2, .int a3, .int a4, .int a5, .int a6, .int a7, .int a8, .int a9, .null, .null, .null, .null, .null, .null] [] s P := by
    intro m
    induction m with
    | zero => exact fun _ a1 a2 a3 a4 a5 a6 a7 a8 a9 s _ => Lb_0
    | succ m ih =>
      intro hm
      replace hm : m ≤ N0 := Nat.le_of_succ_le hm
      replace ih := ih hm
      intro a1 a2 a3 a4 a5 a6 a7 a8 a9 s hI
      exact lk_196_122 ih (h1 a1 a2 a3 a4 a5 a6 a7 a8 a9 s hI)
  exact key N0 (Nat.le_refl _) a1 a2 a3 a4 a5 a6 a7 a8 a9 s h0
def ub_196_119 (T : Nat → List Value → yS → (Option Value → yS → Prop) → Prop)  (a1 : Int32) (a2 : Int32) (a3 : Int32) (a4 : Int32) (a5 : Int32) (a6 : Int32) (a7 : Int32) (a8 : Int32) (a9 : Int32) (t0 : Int32) (s : yS) (P : Option Value → yS → Prop) : Prop :=
  ubl_196_122 T  a1 a2 a3 a4 a5 a6 a7 t0 0  s P
set_option maxRecDepth 20000 in
theorem lk_196_119 {d N0 : Nat}  {a1 : Int32} {a2 : Int32} {a3 : Int32} {a4 : Int32} {a5 : Int32} {a6 : Int32} {a7 : Int32} {a8 : Int32} {a9 : Int32} {t0 : Int32} {s : yS} {P : Option Value → yS → Prop}  (h : ub_196_119 (Par d)  a1 a2 a3 a4 a5 a6 a7 a8 a9 t0 s P) : Lb d N0 10 (some .int) xE_196 (xE_196.drop 119) [.ref 213, .int a1, .int a2, .int a3, .int a4, .int a5, .int a6, .int a7, .int a8, .int a9, .null, .null, .null, .null, .null, .null] [.int t0] s P := by
  unfold ub_196_119 at h
  refine Lb_w (lb_st [.ref 213, .int a1, .int a2, .int a3, .int a4, .int a5, .int a6, .int a7, .int t0, .int a9, .null, .null, .null, .null, .null, .null] rfl rfl rfl ?_)
  refine Lb_w (lb_c [.int 0] (xo_push (.int 0)) rfl rfl ?_)
  refine Lb_w (lb_st [.ref 213, .int a1, .int a2, .int a3, .int a4, .int a5, .int a6, .int a7, .int t0, .int 0, .null, .null, .null, .null, .null, .null] rfl rfl rfl ?_)
  exact lkl_196_122  h
def ub_196_118 (T : Nat → List Value → yS → (Option Value → yS → Prop) → Prop)  (a1 : Int32) (a2 : Int32) (a3 : Int32) (a4 : Int32) (a5 : Int32) (a6 : Int32) (a7 : Int32) (a8 : Int32) (a9 : Int32) (s : yS) (P : Option Value → yS → Prop) : Prop :=
  ub_196_119 T  a1 a2 a3 a4 a5 a6 a7 a8 a9 a8 s P
set_option maxRecDepth 20000 in
theorem lk_196_118 {d N0 : Nat}  {a1 : Int32} {a2 : Int32} {a3 : Int32} {a4 : Int32} {a5 : Int32} {a6 : Int32} {a7 : Int32} {a8 : Int32} {a9 : Int32} {s : yS} {P : Option Value → yS → Prop}  (h : ub_196_118 (Par d)  a1 a2 a3 a4 a5 a6 a7 a8 a9 s P) : Lb d N0 10 (some .int) xE_196 (xE_196.drop 118) [.ref 213, .int a1, .int a2, .int a3, .int a4, .int a5, .int a6, .int a7, .int a8, .int a9, .null, .null, .null, .null, .null, .null] [] s P := by
  unfold ub_196_118 at h
  refine Lb_w (lb_ld rfl rfl rfl ?_)
  exact lk_196_119  h
def ub_196_104 (T : Nat → List Value → yS → (Option Value → yS → Prop) → Prop)  (a1 : Int32) (a2 : Int32) (a3 : Int32) (a4 : Int32) (a5 : Int32) (a6 : Int32) (a7 : Int32) (a8 : Int32) (a9 : Int32) (s : yS) (P : Option Value → yS → Prop) : Prop :=
  (¬ (a8.toInt = 1) → ub_196_118 T  a1 a2 a3 a4 a5 a6 a7 a8 a9  s P) ∧ (a8.toInt = 1 → ((0 ≤ a1.toInt ∧ a1.toInt < 408) → ((0 ≤ a4.toInt ∧ a4.toInt < 408) → ((s.2.1 248 a1.toInt.toNat).toInt = (s.2.1 248 a4.toInt.toNat).toInt → ub_196_118 T  a1 a2 a3 a4 a5 a6 a7 a8 a9  s P) ∧ (¬ ((s.2.1 248 a1.toInt.toNat).toInt = (s.2.1 248 a4.toInt.toNat).toInt) → ub_196_119 T  a1 a2 a3 a4 a5 a6 a7 a8 a9 0 s P))))
set_option maxRecDepth 20000 in
theorem lk_196_104 {d N0 : Nat}  {a1 : Int32} {a2 : Int32} {a3 : Int32} {a4 : Int32} {a5 : Int32} {a6 : Int32} {a7 : Int32} {a8 : Int32} {a9 : Int32} {s : yS} {P : Option Value → yS → Prop}  (h : ub_196_104 (Par d)  a1 a2 a3 a4 a5 a6 a7 a8 a9 s P) : Lb d N0 10 (some .int) xE_196 (xE_196.drop 104) [.ref 213, .int a1, .int a2, .int a3, .int a4, .int a5, .int a6, .int a7, .int a8, .int a9, .null, .null, .null, .null, .null, .null] [] s P := by
  unfold ub_196_104 at h
  refine Lb_w (lb_ld rfl rfl rfl ?_)
  refine Lb_w (lb_c [.int 1, .int a8] (xo_push (.int 1)) rfl rfl ?_)
  refine Lb_w (lb_brN rfl rfl ⟨fun hc => ?_, fun hc => ?_⟩)
  · replace h := h.1 (fun q => hc ((i_eq (x := a8) (y := 1) rfl (show (1 : Int32).toInt = 1 by decide)).mpr q))
    exact lk_196_118  h
  · replace h := h.2 ((i_eq (x := a8) (y := 1) rfl (show (1 : Int32).toInt = 1 by decide)).mp hc)
    refine Lb_w (lb_ld rfl rfl rfl ?_)
    refine Lb_w (lb_get rfl rfl ?_)
    change Lb _ _ _ _ _ _ _ [.ref 248] _ _
    refine Lb_w (lb_ld rfl rfl rfl ?_)
    refine Lb_w (lb_ial rfl rfl (fun hk => ?_))
    change Lb _ _ _ _ _ _ _ [.int (s.2.1 248 a1.toInt.toNat)] _ _
    replace h := h (kc_in (x := a1) rfl hk)
    refine Lb_w (lb_ld rfl rfl rfl ?_)
    refine Lb_w (lb_get rfl rfl ?_)
    change Lb _ _ _ _ _ _ _ [.ref 248, .int (s.2.1 248 a1.toInt.toNat)] _ _
    refine Lb_w (lb_ld rfl rfl rfl ?_)
    refine Lb_w (lb_ial rfl rfl (fun hk => ?_))
    change Lb _ _ _ _ _ _ _ [.int (s.2.1 248 a4.toInt.toNat), .int (s.2.1 248 a1.toInt.toNat)] _ _
    replace h := h (kc_in (x := a4) rfl hk)
    refine Lb_w (lb_brP rfl rfl ⟨fun hc => ?_, fun hc => ?_⟩)
    · replace h := h.1 ((i_eq (x := s.2.1 248 a1.toInt.toNat) (y := s.2.1 248 a4.toInt.toNat) rfl rfl).mp hc)
      exact lk_196_118  h
    · replace h := h.2 (fun q => hc ((i_eq (x := s.2.1 248 a1.toInt.toNat) (y := s.2.1 248 a4.toInt.toNat) rfl rfl).mpr q))
      refine Lb_w (lb_c [.int 0] (xo_push (.int 0)) rfl rfl ?_)
      refine Lb_w (lb_go rfl ?_)
      exact lk_196_119  h
def ub_196_72 (T : Nat → List Value → yS → (Option Value → yS → Prop) → Prop) (R72 : Int32 → Int32 → Int32 → Int32 → Int32 → Int32 → Int32 → Int32 → Int32 → yS → Prop) (a1 : Int32) (a2 : Int32) (a3 : Int32) (a4 : Int32) (a5 : Int32) (a6 : Int32) (a7 : Int32) (a8 : Int32) (a9 : Int32) (s : yS) (P : Option Value → yS → Prop) : Prop :=
  ((0 ≤ a1.toInt ∧ a1.toInt < 408) → ((s.2.1 245 a1.toInt.toNat).toInt ≤ a9.toInt → ub_196_104 T  a1 a2 a3 a4 a5 a6 a7 a8 a9  s P) ∧ (¬ ((s.2.1 245 a1.toInt.toNat).toInt ≤ a9.toInt) → (¬ (a8.toInt = 1) → ub_196_104 T  a1 a2 a3 a4 a5 a6 a7 a8 a9  s P) ∧ (a8.toInt = 1 → ((-2147483648 ≤ 6 * a1.toInt ∧ 6 * a1.toInt ≤ 2147483647) → ∀ x1 : Int32, x1.toInt = 6 * a1.toInt → ((-2147483648 ≤ x1.toInt + a9.toInt ∧ x1.toInt + a9.toInt ≤ 2147483647) → ∀ x2 : Int32, x2.toInt = x1.toInt + a9.toInt → ((0 ≤ x2.toInt ∧ x2.toInt < 2448) → ((-2147483648 ≤ 6 * a4.toInt ∧ 6 * a4.toInt ≤ 2147483647) → ∀ x3 : Int32, x3.toInt = 6 * a4.toInt → ((-2147483648 ≤ x3.toInt + a9.toInt ∧ x3.toInt + a9.toInt ≤ 2147483647) → ∀ x4 : Int32, x4.toInt = x3.toInt + a9.toInt → ((0 ≤ x4.toInt ∧ x4.toInt < 2448) → T 197 [.ref 213, .int (s.2.1 247 x2.toInt.toNat), .int a6, .int (s.2.1 247 x4.toInt.toNat), .int a7] s (fun v6 s5 => ∃ x7, v6 = some (.int x7) ∧ (((-2147483648 ≤ a9.toInt + 1 ∧ a9.toInt + 1 ≤ 2147483647) → ∀ x8 : Int32, x8.toInt = a9.toInt + 1 → R72 a1 a2 a3 a4 a5 a6 a7 x7 x8  s5))))))))))))
set_option maxRecDepth 20000 in
theorem lk_196_72 {d N0 : Nat} {R72 : Int32 → Int32 → Int32 → Int32 → Int32 → Int32 → Int32 → Int32 → Int32 → yS → Prop} {a1 : Int32} {a2 : Int32} {a3 : Int32} {a4 : Int32} {a5 : Int32} {a6 : Int32} {a7 : Int32} {a8 : Int32} {a9 : Int32} {s : yS} {P : Option Value → yS → Prop} (r72 : ∀ a1 a2 a3 a4 a5 a6 a7 a8 a9 s, R72 a1 a2 a3 a4 a5 a6 a7 a8 a9 s → Lb d N0 10 (some .int) xE_196 (xE_196.drop 72) [.ref 213, .int a1, .int a2, .int a3, .int a4, .int a5, .int a6, .int a7, .int a8, .int a9, .null, .null, .null, .null, .null, .null] [] s P) (h : ub_196_72 (Par d) R72 a1 a2 a3 a4 a5 a6 a7 a8 a9 s P) : Lb d (N0 + 1) 10 (some .int) xE_196 (xE_196.drop 72) [.ref 213, .int a1, .int a2, .int a3, .int a4, .int a5, .int a6, .int a7, .int a8, .int a9, .null, .null, .null, .null, .null, .null] [] s P := by
  unfold ub_196_72 at h
  refine lb_ld rfl rfl rfl ?_
  refine Lb_w (lb_ld rfl rfl rfl ?_)
  refine Lb_w (lb_get rfl rfl ?_)
  change Lb _ _ _ _ _ _ _ [.ref 245, .int a9] _ _
  refine Lb_w (lb_ld rfl rfl rfl ?_)
  refine Lb_w (lb_ial rfl rfl (fun hk => ?_))
  change Lb _ _ _ _ _ _ _ [.int (s.2.1 245 a1.toInt.toNat), .int a9] _ _
  replace h := h (kc_in (x := a1) rfl hk)
  refine Lb_w (lb_brP rfl rfl ⟨fun hc => ?_, fun hc => ?_⟩)
  · replace h := h.1 ((i_le (x := s.2.1 245 a1.toInt.toNat) (y := a9) rfl rfl).mp hc)
    exact lk_196_104  h
  · replace h := h.2 (fun q => hc ((i_le (x := s.2.1 245 a1.toInt.toNat) (y := a9) rfl rfl).mpr q))
    refine Lb_w (lb_ld rfl rfl rfl ?_)
    refine Lb_w (lb_c [.int 1, .int a8] (xo_push (.int 1)) rfl rfl ?_)
    refine Lb_w (lb_brN rfl rfl ⟨fun hc => ?_, fun hc => ?_⟩)
    · replace h := h.1 (fun q => hc ((i_eq (x := a8) (y := 1) rfl (show (1 : Int32).toInt = 1 by decide)).mpr q))
      exact lk_196_104  h
    · replace h := h.2 ((i_eq (x := a8) (y := 1) rfl (show (1 : Int32).toInt = 1 by decide)).mp hc)
      refine Lb_w (lb_ld rfl rfl rfl ?_)
      refine Lb_w (lb_ld rfl rfl rfl ?_)
      refine Lb_w (lb_get rfl rfl ?_)
      change Lb _ _ _ _ _ _ _ [.ref 247, .ref 213] _ _
      refine Lb_w (lb_c [.int 6, .ref 247, .ref 213] (xo_push (.int 6)) rfl rfl ?_)
      refine Lb_w (lb_ld rfl rfl rfl ?_)
      refine Lb_w (lb_ca [.int (6 * a1), .ref 247, .ref 213] xo_imul rfl rfl (fun _ hk => ?_))
      replace hk := kc_mul (x := 6) (y := a1) (show (6 : Int32).toInt = 6 by decide) rfl hk
      replace h := h hk _ (i_mul (x := 6) (y := a1) (show (6 : Int32).toInt = 6 by decide) rfl hk)
      refine Lb_w (lb_ld rfl rfl rfl ?_)
      refine Lb_w (lb_ca [.int ((6 * a1) + a9), .ref 247, .ref 213] xo_iadd rfl rfl (fun _ hk => ?_))
      replace hk := kc_add (x := (6 * a1)) (y := a9) rfl rfl hk
      replace h := h hk _ (i_add (x := (6 * a1)) (y := a9) rfl rfl hk)
      refine Lb_w (lb_ial rfl rfl (fun hk => ?_))
      change Lb _ _ _ _ _ _ _ [.int (s.2.1 247 ((6 * a1) + a9).toInt.toNat), .ref 213] _ _
      replace h := h (kc_in (x := ((6 * a1) + a9)) rfl hk)
      refine Lb_w (lb_ld rfl rfl rfl ?_)
      refine Lb_w (lb_ld rfl rfl rfl ?_)
      refine Lb_w (lb_get rfl rfl ?_)
      change Lb _ _ _ _ _ _ _ [.ref 247, .int a6, .int (s.2.1 247 ((6 * a1) + a9).toInt.toNat), .ref 213] _ _
      refine Lb_w (lb_c [.int 6, .ref 247, .int a6, .int (s.2.1 247 ((6 * a1) + a9).toInt.toNat), .ref 213] (xo_push (.int 6)) rfl rfl ?_)
      refine Lb_w (lb_ld rfl rfl rfl ?_)
      refine Lb_w (lb_ca [.int (6 * a4), .ref 247, .int a6, .int (s.2.1 247 ((6 * a1) + a9).toInt.toNat), .ref 213] xo_imul rfl rfl (fun _ hk => ?_))
      replace hk := kc_mul (x := 6) (y := a4) (show (6 : Int32).toInt = 6 by decide) rfl hk
      replace h := h hk _ (i_mul (x := 6) (y := a4) (show (6 : Int32).toInt = 6 by decide) rfl hk)
      refine Lb_w (lb_ld rfl rfl rfl ?_)
      refine Lb_w (lb_ca [.int ((6 * a4) + a9), .ref 247, .int a6, .int (s.2.1 247 ((6 * a1) + a9).toInt.toNat), .ref 213] xo_iadd rfl rfl (fun _ hk => ?_))
      replace hk := kc_add (x := (6 * a4)) (y := a9) rfl rfl hk
      replace h := h hk _ (i_add (x := (6 * a4)) (y := a9) rfl rfl hk)
      refine Lb_w (lb_ial rfl rfl (fun hk => ?_))
      change Lb _ _ _ _ _ _ _ [.int (s.2.1 247 ((6 * a4) + a9).toInt.toNat), .int a6, .int (s.2.1 247 ((6 * a1) + a9).toInt.toNat), .ref 213] _ _
      replace h := h (kc_in (x := ((6 * a4) + a9)) rfl hk)
      refine Lb_w (lb_ld rfl rfl rfl ?_)
      refine Lb_w (lb_call [.ref 213, .int (s.2.1 247 ((6 * a1) + a9).toInt.toNat), .int a6, .int (s.2.1 247 ((6 * a4) + a9).toInt.toNat), .int a7] [] rfl rfl rfl (Par.imp h (fun v6 s5 h => ?_)))
      obtain ⟨x7, rfl, h⟩ := h
      change Lb _ _ _ _ _ _ _ [.int x7] _ _
      refine Lb_w (lb_st [.ref 213, .int a1, .int a2, .int a3, .int a4, .int a5, .int a6, .int a7, .int x7, .int a9, .null, .null, .null, .null, .null, .null] rfl rfl rfl ?_)
      refine Lb_w (lb_inc [.ref 213, .int a1, .int a2, .int a3, .int a4, .int a5, .int a6, .int a7, .int x7, .int (a9 + 1), .null, .null, .null, .null, .null, .null] rfl rfl rfl rfl (fun hk => ?_))
      replace hk := kc_inc (x := a9) (n := 1) rfl hk
      replace h := h hk _ (i_add (x := a9) (y := 1) rfl (show (1 : Int32).toInt = 1 by decide) hk)
      refine Lb_w (lb_go rfl ?_)
      exact r72 a1 a2 a3 a4 a5 a6 a7 x7 (a9 + 1)  s5 h
def ubl_196_72 (T : Nat → List Value → yS → (Option Value → yS → Prop) → Prop)  (a1 : Int32) (a2 : Int32) (a3 : Int32) (a4 : Int32) (a5 : Int32) (a6 : Int32) (a7 : Int32) (a8 : Int32) (a9 : Int32) (s : yS) (P : Option Value → yS → Prop) : Prop :=
  ∃ (I : Int32 → Int32 → Int32 → Int32 → Int32 → Int32 → Int32 → Int32 → Int32 → yS → Prop), I a1 a2 a3 a4 a5 a6 a7 a8 a9 s ∧ ∀ (a1 : Int32) (a2 : Int32) (a3 : Int32) (a4 : Int32) (a5 : Int32) (a6 : Int32) (a7 : Int32) (a8 : Int32) (a9 : Int32) (s : yS), I a1 a2 a3 a4 a5 a6 a7 a8 a9 s → ub_196_72 T I a1 a2 a3 a4 a5 a6 a7 a8 a9 s P
theorem lkl_196_72 {d N0 : Nat}  {a1 : Int32} {a2 : Int32} {a3 : Int32} {a4 : Int32} {a5 : Int32} {a6 : Int32} {a7 : Int32} {a8 : Int32} {a9 : Int32} {s : yS} {P : Option Value → yS → Prop}  (h : ubl_196_72 (Par d)  a1 a2 a3 a4 a5 a6 a7 a8 a9 s P) : Lb d N0 10 (some .int) xE_196 (xE_196.drop 72) [.ref 213, .int a1, .int a2, .int a3, .int a4, .int a5, .int a6, .int a7, .int a8, .int a9, .null, .null, .null, .null, .null, .null] [] s P := by
  obtain ⟨I, h0, h1⟩ := h
  have key : ∀ (m : Nat), m ≤ N0 → ∀ (a1 : Int32) (a2 : Int32) (a3 : Int32) (a4 : Int32) (a5 : Int32) (a6 : Int32) (a7 : Int32) (a8 : Int32) (a9 : Int32) (s : yS), I a1 a2 a3 a4 a5 a6 a7 a8 a9 s → Lb d m 10 (some .int) xE_196 (xE_196.drop 72) [.ref 213, .int a1, .int a2, .int a3, .int a4, .int a5, .int a6, .int a7, .int a8, .int a9, .null, .null, .null, .null, .null, .null] [] s P := by
    intro m
    induction m with
    | zero => exact fun _ a1 a2 a3 a4 a5 a6 a7 a8 a9 s _ => Lb_0
    | succ m ih =>
      intro hm
      replace hm : m ≤ N0 := Nat.le_of_succ_le hm
      replace ih := ih hm
      intro a1 a2 a3 a4 a5 a6 a7 a8 a9 s hI
      exact lk_196_72 ih (h1 a1 a2 a3 a4 a5 a6 a7 a8 a9 s hI)
  exact key N0 (Nat.le_refl _) a1 a2 a3 a4 a5 a6 a7 a8 a9 s h0
def ub_196_0 (T : Nat → List Value → yS → (Option Value → yS → Prop) → Prop)  (a1 : Int32) (a2 : Int32) (a3 : Int32) (a4 : Int32) (a5 : Int32) (s : yS) (P : Option Value → yS → Prop) : Prop :=
  ((0 ≤ a1.toInt ∧ a1.toInt < 408) → ((0 ≤ a4.toInt ∧ a4.toInt < 408) → ((s.2.1 245 a1.toInt.toNat).toInt = (s.2.1 245 a4.toInt.toNat).toInt → T 188 [.ref 213] s (fun v2 s1 => ∃ x3, v2 = some (.int x3) ∧ (((-2147483648 ≤ 6 * a3.toInt ∧ 6 * a3.toInt ≤ 2147483647) → ∀ x4 : Int32, x4.toInt = 6 * a3.toInt → ((-2147483648 ≤ 1000 + x4.toInt ∧ 1000 + x4.toInt ≤ 2147483647) → ∀ x5 : Int32, x5.toInt = 1000 + x4.toInt → T 189 [.ref 213, .int x3, .int 0, .int x5, .int a2] s1 (fun v7 s6 => v7 = none ∧ (((-2147483648 ≤ 204 * (s6.1 75).toInt ∧ 204 * (s6.1 75).toInt ≤ 2147483647) → ∀ x8 : Int32, x8.toInt = 204 * (s6.1 75).toInt → ((-2147483648 ≤ a1.toInt - x8.toInt ∧ a1.toInt - x8.toInt ≤ 2147483647) → ∀ x9 : Int32, x9.toInt = a1.toInt - x8.toInt → ((-2147483648 ≤ 6 * x9.toInt ∧ 6 * x9.toInt ≤ 2147483647) → ∀ x10 : Int32, x10.toInt = 6 * x9.toInt → ((-2147483648 ≤ 2000 + x10.toInt ∧ 2000 + x10.toInt ≤ 2147483647) → ∀ x11 : Int32, x11.toInt = 2000 + x10.toInt → ((0 ≤ a1.toInt ∧ a1.toInt < 408) → T 190 [.ref 213, .int x3, .int x11, .int (s6.2.1 245 a1.toInt.toNat)] s6 (fun v13 s12 => v13 = none ∧ (T 188 [.ref 213] s12 (fun v15 s14 => ∃ x16, v15 = some (.int x16) ∧ (T 189 [.ref 213, .int x16, .int 0, .int (s14.1 74), .int a5] s14 (fun v18 s17 => v18 = none ∧ (((-2147483648 ≤ 204 * (s17.1 75).toInt ∧ 204 * (s17.1 75).toInt ≤ 2147483647) → ∀ x19 : Int32, x19.toInt = 204 * (s17.1 75).toInt → ((-2147483648 ≤ a4.toInt - x19.toInt ∧ a4.toInt - x19.toInt ≤ 2147483647) → ∀ x20 : Int32, x20.toInt = a4.toInt - x19.toInt → ((-2147483648 ≤ 6 * x20.toInt ∧ 6 * x20.toInt ≤ 2147483647) → ∀ x21 : Int32, x21.toInt = 6 * x20.toInt → ((-2147483648 ≤ 2000 + x21.toInt ∧ 2000 + x21.toInt ≤ 2147483647) → ∀ x22 : Int32, x22.toInt = 2000 + x21.toInt → ((0 ≤ a4.toInt ∧ a4.toInt < 408) → T 190 [.ref 213, .int x16, .int x22, .int (s17.2.1 245 a4.toInt.toNat)] s17 (fun v24 s23 => v24 = none ∧ (ubl_196_72 T  a1 a2 a3 a4 a5 x3 x16 1 0  s23 P))))))))))))))))))))))))) ∧ (¬ ((s.2.1 245 a1.toInt.toNat).toInt = (s.2.1 245 a4.toInt.toNat).toInt) → P (some (.int 0)) s)))
set_option maxRecDepth 20000 in
theorem lk_196_0 {d N0 : Nat}  {a1 : Int32} {a2 : Int32} {a3 : Int32} {a4 : Int32} {a5 : Int32} {s : yS} {P : Option Value → yS → Prop}  (h : ub_196_0 (Par d)  a1 a2 a3 a4 a5 s P) : Lb d N0 10 (some .int) xE_196 (xE_196.drop 0) [.ref 213, .int a1, .int a2, .int a3, .int a4, .int a5, .null, .null, .null, .null, .null, .null, .null, .null, .null, .null] [] s P := by
  unfold ub_196_0 at h
  refine Lb_w (lb_ld rfl rfl rfl ?_)
  refine Lb_w (lb_get rfl rfl ?_)
  change Lb _ _ _ _ _ _ _ [.ref 245] _ _
  refine Lb_w (lb_ld rfl rfl rfl ?_)
  refine Lb_w (lb_ial rfl rfl (fun hk => ?_))
  change Lb _ _ _ _ _ _ _ [.int (s.2.1 245 a1.toInt.toNat)] _ _
  replace h := h (kc_in (x := a1) rfl hk)
  refine Lb_w (lb_ld rfl rfl rfl ?_)
  refine Lb_w (lb_get rfl rfl ?_)
  change Lb _ _ _ _ _ _ _ [.ref 245, .int (s.2.1 245 a1.toInt.toNat)] _ _
  refine Lb_w (lb_ld rfl rfl rfl ?_)
  refine Lb_w (lb_ial rfl rfl (fun hk => ?_))
  change Lb _ _ _ _ _ _ _ [.int (s.2.1 245 a4.toInt.toNat), .int (s.2.1 245 a1.toInt.toNat)] _ _
  replace h := h (kc_in (x := a4) rfl hk)
  refine Lb_w (lb_brP rfl rfl ⟨fun hc => ?_, fun hc => ?_⟩)
  · replace h := h.1 ((i_eq (x := s.2.1 245 a1.toInt.toNat) (y := s.2.1 245 a4.toInt.toNat) rfl rfl).mp hc)
    refine Lb_w (lb_ld rfl rfl rfl ?_)
    refine Lb_w (lb_call [.ref 213] [] rfl rfl rfl (Par.imp h (fun v2 s1 h => ?_)))
    obtain ⟨x3, rfl, h⟩ := h
    change Lb _ _ _ _ _ _ _ [.int x3] _ _
    refine Lb_w (lb_st [.ref 213, .int a1, .int a2, .int a3, .int a4, .int a5, .int x3, .null, .null, .null, .null, .null, .null, .null, .null, .null] rfl rfl rfl ?_)
    refine Lb_w (lb_ld rfl rfl rfl ?_)
    refine Lb_w (lb_ld rfl rfl rfl ?_)
    refine Lb_w (lb_c [.int 0, .int x3, .ref 213] (xo_push (.int 0)) rfl rfl ?_)
    refine Lb_w (lb_c [.int 1000, .int 0, .int x3, .ref 213] (xo_push (.int 1000)) rfl rfl ?_)
    refine Lb_w (lb_c [.int 6, .int 1000, .int 0, .int x3, .ref 213] (xo_push (.int 6)) rfl rfl ?_)
    refine Lb_w (lb_ld rfl rfl rfl ?_)
    refine Lb_w (lb_ca [.int (6 * a3), .int 1000, .int 0, .int x3, .ref 213] xo_imul rfl rfl (fun _ hk => ?_))
    replace hk := kc_mul (x := 6) (y := a3) (show (6 : Int32).toInt = 6 by decide) rfl hk
    replace h := h hk _ (i_mul (x := 6) (y := a3) (show (6 : Int32).toInt = 6 by decide) rfl hk)
    refine Lb_w (lb_ca [.int (1000 + (6 * a3)), .int 0, .int x3, .ref 213] xo_iadd rfl rfl (fun _ hk => ?_))
    replace hk := kc_add (x := 1000) (y := (6 * a3)) (show (1000 : Int32).toInt = 1000 by decide) rfl hk
    replace h := h hk _ (i_add (x := 1000) (y := (6 * a3)) (show (1000 : Int32).toInt = 1000 by decide) rfl hk)
    refine Lb_w (lb_ld rfl rfl rfl ?_)
    refine Lb_w (lb_call [.ref 213, .int x3, .int 0, .int (1000 + (6 * a3)), .int a2] [] rfl rfl rfl (Par.imp h (fun v7 s6 h => ?_)))
    obtain ⟨rfl, h⟩ := h
    change Lb _ _ _ _ _ _ _ [] _ _
    refine Lb_w (lb_ld rfl rfl rfl ?_)
    refine Lb_w (lb_ld rfl rfl rfl ?_)
    refine Lb_w (lb_c [.int 2000, .int x3, .ref 213] (xo_push (.int 2000)) rfl rfl ?_)
    refine Lb_w (lb_c [.int 6, .int 2000, .int x3, .ref 213] (xo_push (.int 6)) rfl rfl ?_)
    refine Lb_w (lb_ld rfl rfl rfl ?_)
    refine Lb_w (lb_c [.int 204, .int a1, .int 6, .int 2000, .int x3, .ref 213] (xo_push (.int 204)) rfl rfl ?_)
    refine Lb_w (lb_ld rfl rfl rfl ?_)
    refine Lb_w (lb_get rfl rfl ?_)
    change Lb _ _ _ _ _ _ _ [.int (s6.1 75), .int 204, .int a1, .int 6, .int 2000, .int x3, .ref 213] _ _
    refine Lb_w (lb_ca [.int (204 * (s6.1 75)), .int a1, .int 6, .int 2000, .int x3, .ref 213] xo_imul rfl rfl (fun _ hk => ?_))
    replace hk := kc_mul (x := 204) (y := s6.1 75) (show (204 : Int32).toInt = 204 by decide) rfl hk
    replace h := h hk _ (i_mul (x := 204) (y := s6.1 75) (show (204 : Int32).toInt = 204 by decide) rfl hk)
    refine Lb_w (lb_ca [.int (a1 - (204 * (s6.1 75))), .int 6, .int 2000, .int x3, .ref 213] xo_isub rfl rfl (fun _ hk => ?_))
    replace hk := kc_sub (x := a1) (y := (204 * (s6.1 75))) rfl rfl hk
    replace h := h hk _ (i_sub (x := a1) (y := (204 * (s6.1 75))) rfl rfl hk)
    refine Lb_w (lb_ca [.int (6 * (a1 - (204 * (s6.1 75)))), .int 2000, .int x3, .ref 213] xo_imul rfl rfl (fun _ hk => ?_))
    replace hk := kc_mul (x := 6) (y := (a1 - (204 * (s6.1 75)))) (show (6 : Int32).toInt = 6 by decide) rfl hk
    replace h := h hk _ (i_mul (x := 6) (y := (a1 - (204 * (s6.1 75)))) (show (6 : Int32).toInt = 6 by decide) rfl hk)
    refine Lb_w (lb_ca [.int (2000 + (6 * (a1 - (204 * (s6.1 75))))), .int x3, .ref 213] xo_iadd rfl rfl (fun _ hk => ?_))
    replace hk := kc_add (x := 2000) (y := (6 * (a1 - (204 * (s6.1 75))))) (show (2000 : Int32).toInt = 2000 by decide) rfl hk
    replace h := h hk _ (i_add (x := 2000) (y := (6 * (a1 - (204 * (s6.1 75))))) (show (2000 : Int32).toInt = 2000 by decide) rfl hk)
    refine Lb_w (lb_ld rfl rfl rfl ?_)
    refine Lb_w (lb_get rfl rfl ?_)
    change Lb _ _ _ _ _ _ _ [.ref 245, .int (2000 + (6 * (a1 - (204 * (s6.1 75))))), .int x3, .ref 213] _ _
    refine Lb_w (lb_ld rfl rfl rfl ?_)
    refine Lb_w (lb_ial rfl rfl (fun hk => ?_))
    change Lb _ _ _ _ _ _ _ [.int (s6.2.1 245 a1.toInt.toNat), .int (2000 + (6 * (a1 - (204 * (s6.1 75))))), .int x3, .ref 213] _ _
    replace h := h (kc_in (x := a1) rfl hk)
    refine Lb_w (lb_call [.ref 213, .int x3, .int (2000 + (6 * (a1 - (204 * (s6.1 75))))), .int (s6.2.1 245 a1.toInt.toNat)] [] rfl rfl rfl (Par.imp h (fun v13 s12 h => ?_)))
    obtain ⟨rfl, h⟩ := h
    change Lb _ _ _ _ _ _ _ [] _ _
    refine Lb_w (lb_ld rfl rfl rfl ?_)
    refine Lb_w (lb_call [.ref 213] [] rfl rfl rfl (Par.imp h (fun v15 s14 h => ?_)))
    obtain ⟨x16, rfl, h⟩ := h
    change Lb _ _ _ _ _ _ _ [.int x16] _ _
    refine Lb_w (lb_st [.ref 213, .int a1, .int a2, .int a3, .int a4, .int a5, .int x3, .int x16, .null, .null, .null, .null, .null, .null, .null, .null] rfl rfl rfl ?_)
    refine Lb_w (lb_ld rfl rfl rfl ?_)
    refine Lb_w (lb_ld rfl rfl rfl ?_)
    refine Lb_w (lb_c [.int 0, .int x16, .ref 213] (xo_push (.int 0)) rfl rfl ?_)
    refine Lb_w (lb_ld rfl rfl rfl ?_)
    refine Lb_w (lb_get rfl rfl ?_)
    change Lb _ _ _ _ _ _ _ [.int (s14.1 74), .int 0, .int x16, .ref 213] _ _
    refine Lb_w (lb_ld rfl rfl rfl ?_)
    refine Lb_w (lb_call [.ref 213, .int x16, .int 0, .int (s14.1 74), .int a5] [] rfl rfl rfl (Par.imp h (fun v18 s17 h => ?_)))
    obtain ⟨rfl, h⟩ := h
    change Lb _ _ _ _ _ _ _ [] _ _
    refine Lb_w (lb_ld rfl rfl rfl ?_)
    refine Lb_w (lb_ld rfl rfl rfl ?_)
    refine Lb_w (lb_c [.int 2000, .int x16, .ref 213] (xo_push (.int 2000)) rfl rfl ?_)
    refine Lb_w (lb_c [.int 6, .int 2000, .int x16, .ref 213] (xo_push (.int 6)) rfl rfl ?_)
    refine Lb_w (lb_ld rfl rfl rfl ?_)
    refine Lb_w (lb_c [.int 204, .int a4, .int 6, .int 2000, .int x16, .ref 213] (xo_push (.int 204)) rfl rfl ?_)
    refine Lb_w (lb_ld rfl rfl rfl ?_)
    refine Lb_w (lb_get rfl rfl ?_)
    change Lb _ _ _ _ _ _ _ [.int (s17.1 75), .int 204, .int a4, .int 6, .int 2000, .int x16, .ref 213] _ _
    refine Lb_w (lb_ca [.int (204 * (s17.1 75)), .int a4, .int 6, .int 2000, .int x16, .ref 213] xo_imul rfl rfl (fun _ hk => ?_))
    replace hk := kc_mul (x := 204) (y := s17.1 75) (show (204 : Int32).toInt = 204 by decide) rfl hk
    replace h := h hk _ (i_mul (x := 204) (y := s17.1 75) (show (204 : Int32).toInt = 204 by decide) rfl hk)
    refine Lb_w (lb_ca [.int (a4 - (204 * (s17.1 75))), .int 6, .int 2000, .int x16, .ref 213] xo_isub rfl rfl (fun _ hk => ?_))
    replace hk := kc_sub (x := a4) (y := (204 * (s17.1 75))) rfl rfl hk
    replace h := h hk _ (i_sub (x := a4) (y := (204 * (s17.1 75))) rfl rfl hk)
    refine Lb_w (lb_ca [.int (6 * (a4 - (204 * (s17.1 75)))), .int 2000, .int x16, .ref 213] xo_imul rfl rfl (fun _ hk => ?_))
    replace hk := kc_mul (x := 6) (y := (a4 - (204 * (s17.1 75)))) (show (6 : Int32).toInt = 6 by decide) rfl hk
    replace h := h hk _ (i_mul (x := 6) (y := (a4 - (204 * (s17.1 75)))) (show (6 : Int32).toInt = 6 by decide) rfl hk)
    refine Lb_w (lb_ca [.int (2000 + (6 * (a4 - (204 * (s17.1 75))))), .int x16, .ref 213] xo_iadd rfl rfl (fun _ hk => ?_))
    replace hk := kc_add (x := 2000) (y := (6 * (a4 - (204 * (s17.1 75))))) (show (2000 : Int32).toInt = 2000 by decide) rfl hk
    replace h := h hk _ (i_add (x := 2000) (y := (6 * (a4 - (204 * (s17.1 75))))) (show (2000 : Int32).toInt = 2000 by decide) rfl hk)
    refine Lb_w (lb_ld rfl rfl rfl ?_)
    refine Lb_w (lb_get rfl rfl ?_)
    change Lb _ _ _ _ _ _ _ [.ref 245, .int (2000 + (6 * (a4 - (204 * (s17.1 75))))), .int x16, .ref 213] _ _
    refine Lb_w (lb_ld rfl rfl rfl ?_)
    refine Lb_w (lb_ial rfl rfl (fun hk => ?_))
    change Lb _ _ _ _ _ _ _ [.int (s17.2.1 245 a4.toInt.toNat), .int (2000 + (6 * (a4 - (204 * (s17.1 75))))), .int x16, .ref 213] _ _
    replace h := h (kc_in (x := a4) rfl hk)
    refine Lb_w (lb_call [.ref 213, .int x16, .int (2000 + (6 * (a4 - (204 * (s17.1 75))))), .int (s17.2.1 245 a4.toInt.toNat)] [] rfl rfl rfl (Par.imp h (fun v24 s23 h => ?_)))
    obtain ⟨rfl, h⟩ := h
    change Lb _ _ _ _ _ _ _ [] _ _
    refine Lb_w (lb_c [.int 1] (xo_push (.int 1)) rfl rfl ?_)
    refine Lb_w (lb_st [.ref 213, .int a1, .int a2, .int a3, .int a4, .int a5, .int x3, .int x16, .int 1, .null, .null, .null, .null, .null, .null, .null] rfl rfl rfl ?_)
    refine Lb_w (lb_c [.int 0] (xo_push (.int 0)) rfl rfl ?_)
    refine Lb_w (lb_st [.ref 213, .int a1, .int a2, .int a3, .int a4, .int a5, .int x3, .int x16, .int 1, .int 0, .null, .null, .null, .null, .null, .null] rfl rfl rfl ?_)
    exact lkl_196_72  h
  · replace h := h.2 (fun q => hc ((i_eq (x := s.2.1 245 a1.toInt.toNat) (y := s.2.1 245 a4.toInt.toNat) rfl rfl).mpr q))
    refine Lb_w (lb_c [.int 0] (xo_push (.int 0)) rfl rfl ?_)
    exact Lb_w (lb_retI rfl h)
theorem pb_196 {d : Nat} {a1 : Int32} {a2 : Int32} {a3 : Int32} {a4 : Int32} {a5 : Int32} {s : yS} {P : Option Value → yS → Prop} (h : ub_196_0 (Par d) a1 a2 a3 a4 a5 s P) : Par (d + 1) 196 [.ref 213, .int a1, .int a2, .int a3, .int a4, .int a5] s P := par_of (E := xE_196) (ml := 10) (ret := some .int) rfl (fun _ => lk_196_0 h)
/-! one -/
def ub_197_51 (T : Nat → List Value → yS → (Option Value → yS → Prop) → Prop)  (a1 : Int32) (a2 : Int32) (a3 : Int32) (a4 : Int32) (a5 : Int32) (a6 : Int32) (a7 : Int32) (a8 : Int32) (t0 : Int32) (s : yS) (P : Option Value → yS → Prop) : Prop :=
  ∀ s1, s1 = sf s 64 a5 → P (some (.int t0)) s1
set_option maxRecDepth 20000 in
theorem lk_197_51 {d N0 : Nat}  {a1 : Int32} {a2 : Int32} {a3 : Int32} {a4 : Int32} {a5 : Int32} {a6 : Int32} {a7 : Int32} {a8 : Int32} {t0 : Int32} {s : yS} {P : Option Value → yS → Prop}  (h : ub_197_51 (Par d)  a1 a2 a3 a4 a5 a6 a7 a8 t0 s P) : Lb d N0 10 (some .int) xE_197 (xE_197.drop 51) [.ref 213, .int a1, .int a2, .int a3, .int a4, .int a5, .int a6, .int a7, .int a8, .null, .null, .null, .null, .null, .null] [.int t0] s P := by
  unfold ub_197_51 at h
  refine Lb_w (lb_st [.ref 213, .int a1, .int a2, .int a3, .int a4, .int a5, .int a6, .int a7, .int a8, .int t0, .null, .null, .null, .null, .null] rfl rfl rfl ?_)
  refine Lb_w (lb_ld rfl rfl rfl ?_)
  refine Lb_w (lb_ld rfl rfl rfl ?_)
  refine Lb_w (lb_put rfl rfl (fun hk => ?_))
  replace h := h _ rfl
  refine Lb_w (lb_ld rfl rfl rfl ?_)
  exact Lb_w (lb_retI rfl h)
def ub_197_0 (T : Nat → List Value → yS → (Option Value → yS → Prop) → Prop)  (a1 : Int32) (a2 : Int32) (a3 : Int32) (a4 : Int32) (s : yS) (P : Option Value → yS → Prop) : Prop :=
  ((0 ≤ a1.toInt ∧ a1.toInt < 12006) → ((0 ≤ a1.toInt ∧ a1.toInt < 12006) → T 191 [.ref 213, .int (s.2.1 231 a1.toInt.toNat), .int (s.2.1 232 a1.toInt.toNat), .int a2] s (fun v2 s1 => ∃ x3, v2 = some (.int x3) ∧ ((¬ (x3.toInt = 0) → ((0 ≤ a3.toInt ∧ a3.toInt < 12006) → ((0 ≤ a3.toInt ∧ a3.toInt < 12006) → T 191 [.ref 213, .int (s1.2.1 231 a3.toInt.toNat), .int (s1.2.1 232 a3.toInt.toNat), .int a4] s1 (fun v5 s4 => ∃ x6, v5 = some (.int x6) ∧ ((¬ (x6.toInt = 0) → T 187 [.ref 213, .int (s1.1 71), .int (s1.1 72), .int (s4.1 71), .int (s4.1 72)] s4 (fun v8 s7 => ∃ x9, v8 = some (.int x9) ∧ ((x9.toInt = 0 → ub_197_51 T  a1 a2 a3 a4 (s.1 64) (s1.1 71) (s1.1 72) x6 0 s7 P) ∧ (¬ (x9.toInt = 0) → ub_197_51 T  a1 a2 a3 a4 (s.1 64) (s1.1 71) (s1.1 72) x6 1 s7 P)))) ∧ (x6.toInt = 0 → ub_197_51 T  a1 a2 a3 a4 (s.1 64) (s1.1 71) (s1.1 72) x6 2 s4 P)))))) ∧ (x3.toInt = 0 → P (some (.int 2)) s1)))))
set_option maxRecDepth 20000 in
theorem lk_197_0 {d N0 : Nat}  {a1 : Int32} {a2 : Int32} {a3 : Int32} {a4 : Int32} {s : yS} {P : Option Value → yS → Prop}  (h : ub_197_0 (Par d)  a1 a2 a3 a4 s P) : Lb d N0 10 (some .int) xE_197 (xE_197.drop 0) [.ref 213, .int a1, .int a2, .int a3, .int a4, .null, .null, .null, .null, .null, .null, .null, .null, .null, .null] [] s P := by
  unfold ub_197_0 at h
  refine Lb_w (lb_ld rfl rfl rfl ?_)
  refine Lb_w (lb_get rfl rfl ?_)
  change Lb _ _ _ _ _ _ _ [.int (s.1 64)] _ _
  refine Lb_w (lb_st [.ref 213, .int a1, .int a2, .int a3, .int a4, .int (s.1 64), .null, .null, .null, .null, .null, .null, .null, .null, .null] rfl rfl rfl ?_)
  refine Lb_w (lb_ld rfl rfl rfl ?_)
  refine Lb_w (lb_ld rfl rfl rfl ?_)
  refine Lb_w (lb_get rfl rfl ?_)
  change Lb _ _ _ _ _ _ _ [.ref 231, .ref 213] _ _
  refine Lb_w (lb_ld rfl rfl rfl ?_)
  refine Lb_w (lb_ial rfl rfl (fun hk => ?_))
  change Lb _ _ _ _ _ _ _ [.int (s.2.1 231 a1.toInt.toNat), .ref 213] _ _
  replace h := h (kc_in (x := a1) rfl hk)
  refine Lb_w (lb_ld rfl rfl rfl ?_)
  refine Lb_w (lb_get rfl rfl ?_)
  change Lb _ _ _ _ _ _ _ [.ref 232, .int (s.2.1 231 a1.toInt.toNat), .ref 213] _ _
  refine Lb_w (lb_ld rfl rfl rfl ?_)
  refine Lb_w (lb_ial rfl rfl (fun hk => ?_))
  change Lb _ _ _ _ _ _ _ [.int (s.2.1 232 a1.toInt.toNat), .int (s.2.1 231 a1.toInt.toNat), .ref 213] _ _
  replace h := h (kc_in (x := a1) rfl hk)
  refine Lb_w (lb_ld rfl rfl rfl ?_)
  refine Lb_w (lb_call [.ref 213, .int (s.2.1 231 a1.toInt.toNat), .int (s.2.1 232 a1.toInt.toNat), .int a2] [] rfl rfl rfl (Par.imp h (fun v2 s1 h => ?_)))
  obtain ⟨x3, rfl, h⟩ := h
  change Lb _ _ _ _ _ _ _ [.int x3] _ _
  refine Lb_w (lb_brN rfl rfl ⟨fun hc => ?_, fun hc => ?_⟩)
  · replace h := h.1 (fun q => hc ((i_eq (x := x3) (y := 0) rfl (show (0 : Int32).toInt = 0 by decide)).mpr q))
    refine Lb_w (lb_ld rfl rfl rfl ?_)
    refine Lb_w (lb_get rfl rfl ?_)
    change Lb _ _ _ _ _ _ _ [.int (s1.1 71)] _ _
    refine Lb_w (lb_st [.ref 213, .int a1, .int a2, .int a3, .int a4, .int (s.1 64), .int (s1.1 71), .null, .null, .null, .null, .null, .null, .null, .null] rfl rfl rfl ?_)
    refine Lb_w (lb_ld rfl rfl rfl ?_)
    refine Lb_w (lb_get rfl rfl ?_)
    change Lb _ _ _ _ _ _ _ [.int (s1.1 72)] _ _
    refine Lb_w (lb_st [.ref 213, .int a1, .int a2, .int a3, .int a4, .int (s.1 64), .int (s1.1 71), .int (s1.1 72), .null, .null, .null, .null, .null, .null, .null] rfl rfl rfl ?_)
    refine Lb_w (lb_ld rfl rfl rfl ?_)
    refine Lb_w (lb_ld rfl rfl rfl ?_)
    refine Lb_w (lb_get rfl rfl ?_)
    change Lb _ _ _ _ _ _ _ [.ref 231, .ref 213] _ _
    refine Lb_w (lb_ld rfl rfl rfl ?_)
    refine Lb_w (lb_ial rfl rfl (fun hk => ?_))
    change Lb _ _ _ _ _ _ _ [.int (s1.2.1 231 a3.toInt.toNat), .ref 213] _ _
    replace h := h (kc_in (x := a3) rfl hk)
    refine Lb_w (lb_ld rfl rfl rfl ?_)
    refine Lb_w (lb_get rfl rfl ?_)
    change Lb _ _ _ _ _ _ _ [.ref 232, .int (s1.2.1 231 a3.toInt.toNat), .ref 213] _ _
    refine Lb_w (lb_ld rfl rfl rfl ?_)
    refine Lb_w (lb_ial rfl rfl (fun hk => ?_))
    change Lb _ _ _ _ _ _ _ [.int (s1.2.1 232 a3.toInt.toNat), .int (s1.2.1 231 a3.toInt.toNat), .ref 213] _ _
    replace h := h (kc_in (x := a3) rfl hk)
    refine Lb_w (lb_ld rfl rfl rfl ?_)
    refine Lb_w (lb_call [.ref 213, .int (s1.2.1 231 a3.toInt.toNat), .int (s1.2.1 232 a3.toInt.toNat), .int a4] [] rfl rfl rfl (Par.imp h (fun v5 s4 h => ?_)))
    obtain ⟨x6, rfl, h⟩ := h
    change Lb _ _ _ _ _ _ _ [.int x6] _ _
    refine Lb_w (lb_st [.ref 213, .int a1, .int a2, .int a3, .int a4, .int (s.1 64), .int (s1.1 71), .int (s1.1 72), .int x6, .null, .null, .null, .null, .null, .null] rfl rfl rfl ?_)
    refine Lb_w (lb_ld rfl rfl rfl ?_)
    refine Lb_w (lb_brN rfl rfl ⟨fun hc => ?_, fun hc => ?_⟩)
    · replace h := h.1 (fun q => hc ((i_eq (x := x6) (y := 0) rfl (show (0 : Int32).toInt = 0 by decide)).mpr q))
      refine Lb_w (lb_ld rfl rfl rfl ?_)
      refine Lb_w (lb_ld rfl rfl rfl ?_)
      refine Lb_w (lb_ld rfl rfl rfl ?_)
      refine Lb_w (lb_ld rfl rfl rfl ?_)
      refine Lb_w (lb_get rfl rfl ?_)
      change Lb _ _ _ _ _ _ _ [.int (s4.1 71), .int (s1.1 72), .int (s1.1 71), .ref 213] _ _
      refine Lb_w (lb_ld rfl rfl rfl ?_)
      refine Lb_w (lb_get rfl rfl ?_)
      change Lb _ _ _ _ _ _ _ [.int (s4.1 72), .int (s4.1 71), .int (s1.1 72), .int (s1.1 71), .ref 213] _ _
      refine Lb_w (lb_call [.ref 213, .int (s1.1 71), .int (s1.1 72), .int (s4.1 71), .int (s4.1 72)] [] rfl rfl rfl (Par.imp h (fun v8 s7 h => ?_)))
      obtain ⟨x9, rfl, h⟩ := h
      change Lb _ _ _ _ _ _ _ [.int x9] _ _
      refine Lb_w (lb_brP rfl rfl ⟨fun hc => ?_, fun hc => ?_⟩)
      · replace h := h.1 ((i_eq (x := x9) (y := 0) rfl (show (0 : Int32).toInt = 0 by decide)).mp hc)
        refine Lb_w (lb_c [.int 0] (xo_push (.int 0)) rfl rfl ?_)
        exact lk_197_51  h
      · replace h := h.2 (fun q => hc ((i_eq (x := x9) (y := 0) rfl (show (0 : Int32).toInt = 0 by decide)).mpr q))
        refine Lb_w (lb_c [.int 1] (xo_push (.int 1)) rfl rfl ?_)
        refine Lb_w (lb_go rfl ?_)
        exact lk_197_51  h
    · replace h := h.2 ((i_eq (x := x6) (y := 0) rfl (show (0 : Int32).toInt = 0 by decide)).mp hc)
      refine Lb_w (lb_c [.int 2] (xo_push (.int 2)) rfl rfl ?_)
      refine Lb_w (lb_go rfl ?_)
      exact lk_197_51  h
  · replace h := h.2 ((i_eq (x := x3) (y := 0) rfl (show (0 : Int32).toInt = 0 by decide)).mp hc)
    refine Lb_w (lb_c [.int 2] (xo_push (.int 2)) rfl rfl ?_)
    exact Lb_w (lb_retI rfl h)
theorem pb_197 {d : Nat} {a1 : Int32} {a2 : Int32} {a3 : Int32} {a4 : Int32} {s : yS} {P : Option Value → yS → Prop} (h : ub_197_0 (Par d) a1 a2 a3 a4 s P) : Par (d + 1) 197 [.ref 213, .int a1, .int a2, .int a3, .int a4] s P := par_of (E := xE_197) (ml := 10) (ret := some .int) rfl (fun _ => lk_197_0 h)
