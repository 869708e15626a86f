/-! funcOf -/
def ub_246_5 (T : Nat → List Value → yS → (Option Value → yS → Prop) → Prop) (R5 : Int32 → Int32 → yS → Prop) (a1 : Int32) (a2 : Int32) (s : yS) (P : Option Value → yS → Prop) : Prop :=
  ((0 ≤ a2.toInt ∧ a2.toInt < 120) → ((s.2.1 257 a2.toInt.toNat).toInt = a1.toInt → P (some (.int a2)) s) ∧ (¬ ((s.2.1 257 a2.toInt.toNat).toInt = a1.toInt) → ((-2147483648 ≤ a2.toInt + 1 ∧ a2.toInt + 1 ≤ 2147483647) → ∀ x1 : Int32, x1.toInt = a2.toInt + 1 → R5 a1 x1  s)))
set_option maxRecDepth 20000 in
theorem lk_246_5 {d N0 : Nat} {R5 : Int32 → Int32 → yS → Prop} {a1 : Int32} {a2 : Int32} {s : yS} {P : Option Value → yS → Prop} (r5 : ∀ a1 a2 s, R5 a1 a2 s → Lb d N0 3 (some .int) xE_246 (xE_246.drop 5) [.ref 213, .int a1, .int a2, .null, .null] [] s P) (h : ub_246_5 (Par d) R5 a1 a2 s P) : Lb d (N0 + 1) 3 (some .int) xE_246 (xE_246.drop 5) [.ref 213, .int a1, .int a2, .null, .null] [] s P := by
  unfold ub_246_5 at h
  refine lb_ld rfl rfl rfl ?_
  refine Lb_w (lb_get rfl rfl ?_)
  change Lb _ _ _ _ _ _ _ [.ref 257] _ _
  refine Lb_w (lb_ld rfl rfl rfl ?_)
  refine Lb_w (lb_ial rfl rfl (fun hk => ?_))
  change Lb _ _ _ _ _ _ _ [.int (s.2.1 257 a2.toInt.toNat)] _ _
  replace h := h (kc_in (x := a2) rfl hk)
  refine Lb_w (lb_ld rfl rfl rfl ?_)
  refine Lb_w (lb_brP rfl rfl ⟨fun hc => ?_, fun hc => ?_⟩)
  · replace h := h.1 ((i_eq (x := s.2.1 257 a2.toInt.toNat) (y := a1) rfl rfl).mp hc)
    refine Lb_w (lb_ld rfl rfl rfl ?_)
    exact Lb_w (lb_retI rfl h)
  · replace h := h.2 (fun q => hc ((i_eq (x := s.2.1 257 a2.toInt.toNat) (y := a1) rfl rfl).mpr q))
    refine Lb_w (lb_inc [.ref 213, .int a1, .int (a2 + 1), .null, .null] rfl rfl rfl rfl (fun hk => ?_))
    replace hk := kc_inc (x := a2) (n := 1) rfl hk
    replace h := h hk _ (i_add (x := a2) (y := 1) rfl (show (1 : Int32).toInt = 1 by decide) hk)
    refine Lb_w (lb_go rfl ?_)
    exact r5 a1 (a2 + 1)  s h
def ubl_246_5 (T : Nat → List Value → yS → (Option Value → yS → Prop) → Prop)  (a1 : Int32) (a2 : Int32) (s : yS) (P : Option Value → yS → Prop) : Prop :=
  ∃ (I : Int32 → Int32 → yS → Prop), I a1 a2 s ∧ ∀ (a1 : Int32) (a2 : Int32) (s : yS), I a1 a2 s → ub_246_5 T I a1 a2 s P
theorem lkl_246_5 {d N0 : Nat}  {a1 : Int32} {a2 : Int32} {s : yS} {P : Option Value → yS → Prop}  (h : ubl_246_5 (Par d)  a1 a2 s P) : Lb d N0 3 (some .int) xE_246 (xE_246.drop 5) [.ref 213, .int a1, .int a2, .null, .null] [] s P := by
  obtain ⟨I, h0, h1⟩ := h
  have key : ∀ (m : Nat), m ≤ N0 → ∀ (a1 : Int32) (a2 : Int32) (s : yS), I a1 a2 s → Lb d m 3 (some .int) xE_246 (xE_246.drop 5) [.ref 213, .int a1, .int a2, .null, .null] [] s P := by
    intro m
    induction m with
    | zero => exact fun _ a1 a2 s _ => Lb_0
    | succ m ih =>
      intro hm
      replace hm : m ≤ N0 := Nat.le_of_succ_le hm
      replace ih := ih hm
      intro a1 a2 s hI
      exact lk_246_5 ih (h1 a1 a2 s hI)
  exact key N0 (Nat.le_refl _) a1 a2 s h0
def ub_246_0 (T : Nat → List Value → yS → (Option Value → yS → Prop) → Prop)  (a1 : Int32) (s : yS) (P : Option Value → yS → Prop) : Prop :=
  ((-2147483648 ≤ 60 * (s.1 75).toInt ∧ 60 * (s.1 75).toInt ≤ 2147483647) → ∀ x1 : Int32, x1.toInt = 60 * (s.1 75).toInt → ubl_246_5 T  a1 x1  s P)
set_option maxRecDepth 20000 in
theorem lk_246_0 {d N0 : Nat}  {a1 : Int32} {s : yS} {P : Option Value → yS → Prop}  (h : ub_246_0 (Par d)  a1 s P) : Lb d N0 3 (some .int) xE_246 (xE_246.drop 0) [.ref 213, .int a1, .null, .null, .null] [] s P := by
  unfold ub_246_0 at h
  refine Lb_w (lb_c [.int 60] (xo_push (.int 60)) rfl rfl ?_)
  refine Lb_w (lb_ld rfl rfl rfl ?_)
  refine Lb_w (lb_get rfl rfl ?_)
  change Lb _ _ _ _ _ _ _ [.int (s.1 75), .int 60] _ _
  refine Lb_w (lb_ca [.int (60 * (s.1 75))] xo_imul rfl rfl (fun _ hk => ?_))
  replace hk := kc_mul (x := 60) (y := s.1 75) (show (60 : Int32).toInt = 60 by decide) rfl hk
  replace h := h hk _ (i_mul (x := 60) (y := s.1 75) (show (60 : Int32).toInt = 60 by decide) rfl hk)
  refine Lb_w (lb_st [.ref 213, .int a1, .int (60 * (s.1 75)), .null, .null] rfl rfl rfl ?_)
  exact lkl_246_5  h
theorem pb_246 {d : Nat} {a1 : Int32} {s : yS} {P : Option Value → yS → Prop} (h : ub_246_0 (Par d) a1 s P) : Par (d + 1) 246 [.ref 213, .int a1] s P := par_of (E := xE_246) (ml := 3) (ret := some .int) rfl (fun _ => lk_246_0 h)
/-! addRow -/
def ub_250_94 (T : Nat → List Value → yS → (Option Value → yS → Prop) → Prop) (R94 : Int32 → Int32 → Int32 → Int32 → Int32 → Int32 → Int32 → yS → Prop) (a1 : Int32) (a2 : Int32) (a3 : Int32) (a4 : Int32) (a5 : Int32) (a6 : Int32) (a7 : Int32) (s : yS) (P : Option Value → yS → Prop) : Prop :=
  (a5.toInt ≤ a7.toInt → ((-2147483648 ≤ (s.1 118).toInt + a5.toInt ∧ (s.1 118).toInt + a5.toInt ≤ 2147483647) → ∀ x1 : Int32, x1.toInt = (s.1 118).toInt + a5.toInt → ∀ s2, s2 = sf s 118 x1 → ((-2147483648 ≤ (s2.1 112).toInt + 1 ∧ (s2.1 112).toInt + 1 ≤ 2147483647) → ∀ x3 : Int32, x3.toInt = (s2.1 112).toInt + 1 → ∀ s4, s4 = sf s2 112 x3 → P none s4))) ∧ (¬ (a5.toInt ≤ a7.toInt) → ((-2147483648 ≤ (s.1 118).toInt + a7.toInt ∧ (s.1 118).toInt + a7.toInt ≤ 2147483647) → ∀ x5 : Int32, x5.toInt = (s.1 118).toInt + a7.toInt → ((-2147483648 ≤ a4.toInt + a7.toInt ∧ a4.toInt + a7.toInt ≤ 2147483647) → ∀ x6 : Int32, x6.toInt = a4.toInt + a7.toInt → ((0 ≤ x6.toInt ∧ x6.toInt < 200000) → ((0 ≤ x5.toInt ∧ x5.toInt < 200000) → ∀ s7, s7 = sa s 264 x5.toInt.toNat (s.2.1 264 x6.toInt.toNat) → ((-2147483648 ≤ a7.toInt + 1 ∧ a7.toInt + 1 ≤ 2147483647) → ∀ x8 : Int32, x8.toInt = a7.toInt + 1 → R94 a1 a2 a3 a4 a5 a6 x8  s7))))))
set_option maxRecDepth 20000 in
theorem lk_250_94 {d N0 : Nat} {R94 : Int32 → Int32 → Int32 → Int32 → Int32 → Int32 → Int32 → yS → Prop} {a1 : Int32} {a2 : Int32} {a3 : Int32} {a4 : Int32} {a5 : Int32} {a6 : Int32} {a7 : Int32} {s : yS} {P : Option Value → yS → Prop} (r94 : ∀ a1 a2 a3 a4 a5 a6 a7 s, R94 a1 a2 a3 a4 a5 a6 a7 s → Lb d N0 8 (none) xE_250 (xE_250.drop 94) [.ref 213, .int a1, .int a2, .int a3, .int a4, .int a5, .int a6, .int a7, .null, .null, .null, .null, .null, .null] [] s P) (h : ub_250_94 (Par d) R94 a1 a2 a3 a4 a5 a6 a7 s P) : Lb d (N0 + 1) 8 (none) xE_250 (xE_250.drop 94) [.ref 213, .int a1, .int a2, .int a3, .int a4, .int a5, .int a6, .int a7, .null, .null, .null, .null, .null, .null] [] s P := by
  unfold ub_250_94 at h
  refine lb_ld rfl rfl rfl ?_
  refine Lb_w (lb_ld rfl rfl rfl ?_)
  refine Lb_w (lb_brP rfl rfl ⟨fun hc => ?_, fun hc => ?_⟩)
  · replace h := h.1 ((i_le (x := a5) (y := a7) rfl rfl).mp hc)
    refine Lb_w (lb_ld rfl rfl rfl ?_)
    refine Lb_w (lb_c [.ref 213, .ref 213] xo_dup rfl rfl ?_)
    refine Lb_w (lb_get rfl rfl ?_)
    change Lb _ _ _ _ _ _ _ [.int (s.1 118), .ref 213] _ _
    refine Lb_w (lb_ld rfl rfl rfl ?_)
    refine Lb_w (lb_ca [.int ((s.1 118) + a5), .ref 213] xo_iadd rfl rfl (fun _ hk => ?_))
    replace hk := kc_add (x := s.1 118) (y := a5) rfl rfl hk
    replace h := h hk _ (i_add (x := s.1 118) (y := a5) rfl rfl hk)
    refine Lb_w (lb_put rfl rfl (fun hk => ?_))
    replace h := h _ rfl
    refine Lb_w (lb_ld rfl rfl rfl ?_)
    refine Lb_w (lb_c [.ref 213, .ref 213] xo_dup rfl rfl ?_)
    refine Lb_w (lb_get rfl rfl ?_)
    change Lb _ _ _ _ _ _ _ [.int ((sf s 118 ((s.1 118) + a5)).1 112), .ref 213] _ _
    refine Lb_w (lb_c [.int 1, .int ((sf s 118 ((s.1 118) + a5)).1 112), .ref 213] (xo_push (.int 1)) rfl rfl ?_)
    refine Lb_w (lb_ca [.int (((sf s 118 ((s.1 118) + a5)).1 112) + 1), .ref 213] xo_iadd rfl rfl (fun _ hk => ?_))
    replace hk := kc_add (x := (sf s 118 ((s.1 118) + a5)).1 112) (y := 1) rfl (show (1 : Int32).toInt = 1 by decide) hk
    replace h := h hk _ (i_add (x := (sf s 118 ((s.1 118) + a5)).1 112) (y := 1) rfl (show (1 : Int32).toInt = 1 by decide) hk)
    refine Lb_w (lb_put rfl rfl (fun hk => ?_))
    replace h := h _ rfl
    exact Lb_w (lb_ret0 rfl h)
  · replace h := h.2 (fun q => hc ((i_le (x := a5) (y := a7) rfl rfl).mpr q))
    refine Lb_w (lb_ld rfl rfl rfl ?_)
    refine Lb_w (lb_get rfl rfl ?_)
    change Lb _ _ _ _ _ _ _ [.ref 264] _ _
    refine Lb_w (lb_ld rfl rfl rfl ?_)
    refine Lb_w (lb_get rfl rfl ?_)
    change Lb _ _ _ _ _ _ _ [.int (s.1 118), .ref 264] _ _
    refine Lb_w (lb_ld rfl rfl rfl ?_)
    refine Lb_w (lb_ca [.int ((s.1 118) + a7), .ref 264] xo_iadd rfl rfl (fun _ hk => ?_))
    replace hk := kc_add (x := s.1 118) (y := a7) rfl rfl hk
    replace h := h hk _ (i_add (x := s.1 118) (y := a7) rfl rfl hk)
    refine Lb_w (lb_ld rfl rfl rfl ?_)
    refine Lb_w (lb_get rfl rfl ?_)
    change Lb _ _ _ _ _ _ _ [.ref 264, .int ((s.1 118) + a7), .ref 264] _ _
    refine Lb_w (lb_ld rfl rfl rfl ?_)
    refine Lb_w (lb_ld rfl rfl rfl ?_)
    refine Lb_w (lb_ca [.int (a4 + a7), .ref 264, .int ((s.1 118) + a7), .ref 264] xo_iadd rfl rfl (fun _ hk => ?_))
    replace hk := kc_add (x := a4) (y := a7) rfl rfl hk
    replace h := h hk _ (i_add (x := a4) (y := a7) rfl rfl hk)
    refine Lb_w (lb_ial rfl rfl (fun hk => ?_))
    change Lb _ _ _ _ _ _ _ [.int (s.2.1 264 (a4 + a7).toInt.toNat), .int ((s.1 118) + a7), .ref 264] _ _
    replace h := h (kc_in (x := (a4 + a7)) rfl hk)
    refine Lb_w (lb_ias rfl rfl (fun hk => ?_))
    replace h := h (kc_in (x := ((s.1 118) + a7)) rfl hk)
    replace h := h _ rfl
    refine Lb_w (lb_inc [.ref 213, .int a1, .int a2, .int a3, .int a4, .int a5, .int a6, .int (a7 + 1), .null, .null, .null, .null, .null, .null] rfl rfl rfl rfl (fun hk => ?_))
    replace hk := kc_inc (x := a7) (n := 1) rfl hk
    replace h := h hk _ (i_add (x := a7) (y := 1) rfl (show (1 : Int32).toInt = 1 by decide) hk)
    refine Lb_w (lb_go rfl ?_)
    exact r94 a1 a2 a3 a4 a5 a6 (a7 + 1)  (sa s 264 ((s.1 118) + a7).toInt.toNat (s.2.1 264 (a4 + a7).toInt.toNat)) h
def ubl_250_94 (T : Nat → List Value → yS → (Option Value → yS → Prop) → Prop)  (a1 : Int32) (a2 : Int32) (a3 : Int32) (a4 : Int32) (a5 : Int32) (a6 : Int32) (a7 : Int32) (s : yS) (P : Option Value → yS → Prop) : Prop :=
  ∃ (I : Int32 → Int32 → Int32 → Int32 → Int32 → Int32 → Int32 → yS → Prop), I a1 a2 a3 a4 a5 a6 a7 s ∧ ∀ (a1 : Int32) (a2 : Int32) (a3 : Int32) (a4 : Int32) (a5 : Int32) (a6 : Int32) (a7 : Int32) (s : yS), I a1 a2 a3 a4 a5 a6 a7 s → ub_250_94 T I a1 a2 a3 a4 a5 a6 a7 s P
theorem lkl_250_94 {d N0 : Nat}  {a1 : Int32} {a2 : Int32} {a3 : Int32} {a4 : Int32} {a5 : Int32} {a6 : Int32} {a7 : Int32} {s : yS} {P : Option Value → yS → Prop}  (h : ubl_250_94 (Par d)  a1 a2 a3 a4 a5 a6 a7 s P) : Lb d N0 8 (none) xE_250 (xE_250.drop 94) [.ref 213, .int a1, .int a2, .int a3, .int a4, .int a5, .int a6, .int a7, .null, .null, .null, .null, .null, .null] [] s P := by
  obtain ⟨I, h0, h1⟩ := h
  have key : ∀ (m : Nat), m ≤ N0 → ∀ (a1 : Int32) (a2 : Int32) (a3 : Int32) (a4 : Int32) (a5 : Int32) (a6 : Int32) (a7 : Int32) (s : yS), I a1 a2 a3 a4 a5 a6 a7 s → Lb d m 8 (none) xE_250 (xE_250.drop 94) [.ref 213, .int a1, .int a2, .int a3, .int a4, .int a5, .int a6, .int a7, .null, .null, .null, .null, .null, .null] [] s P := by
    intro m
    induction m with
    | zero => exact fun _ a1 a2 a3 a4 a5 a6 a7 s _ => Lb_0
    | succ m ih =>
      intro hm
      replace hm : m ≤ N0 := Nat.le_of_succ_le hm
      replace ih := ih hm
      intro a1 a2 a3 a4 a5 a6 a7 s hI
      exact lk_250_94 ih (h1 a1 a2 a3 a4 a5 a6 a7 s hI)
  exact key N0 (Nat.le_refl _) a1 a2 a3 a4 a5 a6 a7 s h0
def ub_250_52 (T : Nat → List Value → yS → (Option Value → yS → Prop) → Prop)  (a1 : Int32) (a2 : Int32) (a3 : Int32) (a4 : Int32) (a5 : Int32) (a6 : Int32) (a7 : Int32) (s : yS) (P : Option Value → yS → Prop) : Prop :=
  P none s
set_option maxRecDepth 20000 in
theorem lk_250_52 {d N0 : Nat}  {a1 : Int32} {a2 : Int32} {a3 : Int32} {a4 : Int32} {a5 : Int32} {a6 : Int32} {a7 : Int32} {s : yS} {P : Option Value → yS → Prop}  (h : ub_250_52 (Par d)  a1 a2 a3 a4 a5 a6 a7 s P) : Lb d N0 8 (none) xE_250 (xE_250.drop 52) [.ref 213, .int a1, .int a2, .int a3, .int a4, .int a5, .int a6, .int a7, .null, .null, .null, .null, .null, .null] [] s P := by
  unfold ub_250_52 at h
  exact Lb_w (lb_ret0 rfl h)
def ub_250_47 (T : Nat → List Value → yS → (Option Value → yS → Prop) → Prop)  (a1 : Int32) (a2 : Int32) (a3 : Int32) (a4 : Int32) (a5 : Int32) (a6 : Int32) (a7 : Int32) (s : yS) (P : Option Value → yS → Prop) : Prop :=
  (¬ (a6.toInt = 0) → ub_250_52 T  a1 a2 a3 a4 a5 a6 a7  s P) ∧ (a6.toInt = 0 → (¬ ((s.1 111).toInt = 0) → (¬ ((s.1 112).toInt = 150) → ((0 ≤ (s.1 112).toInt ∧ (s.1 112).toInt < 160) → ∀ s1, s1 = sa s 279 (s.1 112).toInt.toNat a1 → ((0 ≤ (s1.1 112).toInt ∧ (s1.1 112).toInt < 160) → ∀ s2, s2 = sa s1 280 (s1.1 112).toInt.toNat a2 → ((0 ≤ (s2.1 112).toInt ∧ (s2.1 112).toInt < 160) → ∀ s3, s3 = sa s2 281 (s2.1 112).toInt.toNat a3 → ((0 ≤ (s3.1 112).toInt ∧ (s3.1 112).toInt < 160) → ∀ s4, s4 = sa s3 282 (s3.1 112).toInt.toNat (s3.1 118) → ((0 ≤ (s4.1 112).toInt ∧ (s4.1 112).toInt < 160) → ∀ s5, s5 = sa s4 283 (s4.1 112).toInt.toNat a5 → ubl_250_94 T  a1 a2 a3 a4 a5 a6 0  s5 P)))))) ∧ ((s.1 112).toInt = 150 → ∀ s6, s6 = sf s 111 0 → P none s6)) ∧ ((s.1 111).toInt = 0 → ub_250_52 T  a1 a2 a3 a4 a5 a6 a7  s P))
set_option maxRecDepth 20000 in
theorem lk_250_47 {d N0 : Nat}  {a1 : Int32} {a2 : Int32} {a3 : Int32} {a4 : Int32} {a5 : Int32} {a6 : Int32} {a7 : Int32} {s : yS} {P : Option Value → yS → Prop}  (h : ub_250_47 (Par d)  a1 a2 a3 a4 a5 a6 a7 s P) : Lb d N0 8 (none) xE_250 (xE_250.drop 47) [.ref 213, .int a1, .int a2, .int a3, .int a4, .int a5, .int a6, .int a7, .null, .null, .null, .null, .null, .null] [] s P := by
  unfold ub_250_47 at h
  refine Lb_w (lb_ld rfl rfl rfl ?_)
  refine Lb_w (lb_brN rfl rfl ⟨fun hc => ?_, fun hc => ?_⟩)
  · replace h := h.1 (fun q => hc ((i_eq (x := a6) (y := 0) rfl (show (0 : Int32).toInt = 0 by decide)).mpr q))
    exact lk_250_52  h
  · replace h := h.2 ((i_eq (x := a6) (y := 0) rfl (show (0 : Int32).toInt = 0 by decide)).mp hc)
    refine Lb_w (lb_ld rfl rfl rfl ?_)
    refine Lb_w (lb_get rfl rfl ?_)
    change Lb _ _ _ _ _ _ _ [.int (s.1 111)] _ _
    refine Lb_w (lb_brN rfl rfl ⟨fun hc => ?_, fun hc => ?_⟩)
    · replace h := h.1 (fun q => hc ((i_eq (x := s.1 111) (y := 0) rfl (show (0 : Int32).toInt = 0 by decide)).mpr q))
      refine Lb_w (lb_ld rfl rfl rfl ?_)
      refine Lb_w (lb_get rfl rfl ?_)
      change Lb _ _ _ _ _ _ _ [.int (s.1 112)] _ _
      refine Lb_w (lb_c [.int 150, .int (s.1 112)] (xo_push (.int 150)) rfl rfl ?_)
      refine Lb_w (lb_brN rfl rfl ⟨fun hc => ?_, fun hc => ?_⟩)
      · replace h := h.1 (fun q => hc ((i_eq (x := s.1 112) (y := 150) rfl (show (150 : Int32).toInt = 150 by decide)).mpr q))
        refine Lb_w (lb_ld rfl rfl rfl ?_)
        refine Lb_w (lb_get rfl rfl ?_)
        change Lb _ _ _ _ _ _ _ [.ref 279] _ _
        refine Lb_w (lb_ld rfl rfl rfl ?_)
        refine Lb_w (lb_get rfl rfl ?_)
        change Lb _ _ _ _ _ _ _ [.int (s.1 112), .ref 279] _ _
        refine Lb_w (lb_ld rfl rfl rfl ?_)
        refine Lb_w (lb_ias rfl rfl (fun hk => ?_))
        replace h := h (kc_in (x := s.1 112) rfl hk)
        replace h := h _ rfl
        refine Lb_w (lb_ld rfl rfl rfl ?_)
        refine Lb_w (lb_get rfl rfl ?_)
        change Lb _ _ _ _ _ _ _ [.ref 280] _ _
        refine Lb_w (lb_ld rfl rfl rfl ?_)
        refine Lb_w (lb_get rfl rfl ?_)
        change Lb _ _ _ _ _ _ _ [.int ((sa s 279 (s.1 112).toInt.toNat a1).1 112), .ref 280] _ _
        refine Lb_w (lb_ld rfl rfl rfl ?_)
        refine Lb_w (lb_ias rfl rfl (fun hk => ?_))
        replace h := h (kc_in (x := (sa s 279 (s.1 112).toInt.toNat a1).1 112) rfl hk)
        replace h := h _ rfl
        refine Lb_w (lb_ld rfl rfl rfl ?_)
        refine Lb_w (lb_get rfl rfl ?_)
        change Lb _ _ _ _ _ _ _ [.ref 281] _ _
        refine Lb_w (lb_ld rfl rfl rfl ?_)
        refine Lb_w (lb_get rfl rfl ?_)
        change Lb _ _ _ _ _ _ _ [.int ((sa (sa s 279 (s.1 112).toInt.toNat a1) 280 ((sa s 279 (s.1 112).toInt.toNat a1).1 112).toInt.toNat a2).1 112), .ref 281] _ _
        refine Lb_w (lb_ld rfl rfl rfl ?_)
        refine Lb_w (lb_ias rfl rfl (fun hk => ?_))
        replace h := h (kc_in (x := (sa (sa s 279 (s.1 112).toInt.toNat a1) 280 ((sa s 279 (s.1 112).toInt.toNat a1).1 112).toInt.toNat a2).1 112) rfl hk)
        replace h := h _ rfl
        refine Lb_w (lb_ld rfl rfl rfl ?_)
        refine Lb_w (lb_get rfl rfl ?_)
        change Lb _ _ _ _ _ _ _ [.ref 282] _ _
        refine Lb_w (lb_ld rfl rfl rfl ?_)
        refine Lb_w (lb_get rfl rfl ?_)
        change Lb _ _ _ _ _ _ _ [.int ((sa (sa (sa s 279 (s.1 112).toInt.toNat a1) 280 ((sa s 279 (s.1 112).toInt.toNat a1).1 112).toInt.toNat a2) 281 ((sa (sa s 279 (s.1 112).toInt.toNat a1) 280 ((sa s 279 (s.1 112).toInt.toNat a1).1 112).toInt.toNat a2).1 112).toInt.toNat a3).1 112), .ref 282] _ _
        refine Lb_w (lb_ld rfl rfl rfl ?_)
        refine Lb_w (lb_get rfl rfl ?_)
        change Lb _ _ _ _ _ _ _ [.int ((sa (sa (sa s 279 (s.1 112).toInt.toNat a1) 280 ((sa s 279 (s.1 112).toInt.toNat a1).1 112).toInt.toNat a2) 281 ((sa (sa s 279 (s.1 112).toInt.toNat a1) 280 ((sa s 279 (s.1 112).toInt.toNat a1).1 112).toInt.toNat a2).1 112).toInt.toNat a3).1 118), .int ((sa (sa (sa s 279 (s.1 112).toInt.toNat a1) 280 ((sa s 279 (s.1 112).toInt.toNat a1).1 112).toInt.toNat a2) 281 ((sa (sa s 279 (s.1 112).toInt.toNat a1) 280 ((sa s 279 (s.1 112).toInt.toNat a1).1 112).toInt.toNat a2).1 112).toInt.toNat a3).1 112), .ref 282] _ _
        refine Lb_w (lb_ias rfl rfl (fun hk => ?_))
        replace h := h (kc_in (x := (sa (sa (sa s 279 (s.1 112).toInt.toNat a1) 280 ((sa s 279 (s.1 112).toInt.toNat a1).1 112).toInt.toNat a2) 281 ((sa (sa s 279 (s.1 112).toInt.toNat a1) 280 ((sa s 279 (s.1 112).toInt.toNat a1).1 112).toInt.toNat a2).1 112).toInt.toNat a3).1 112) rfl hk)
        replace h := h _ rfl
        refine Lb_w (lb_ld rfl rfl rfl ?_)
        refine Lb_w (lb_get rfl rfl ?_)
        change Lb _ _ _ _ _ _ _ [.ref 283] _ _
        refine Lb_w (lb_ld rfl rfl rfl ?_)
        refine Lb_w (lb_get rfl rfl ?_)
        change Lb _ _ _ _ _ _ _ [.int ((sa (sa (sa (sa s 279 (s.1 112).toInt.toNat a1) 280 ((sa s 279 (s.1 112).toInt.toNat a1).1 112).toInt.toNat a2) 281 ((sa (sa s 279 (s.1 112).toInt.toNat a1) 280 ((sa s 279 (s.1 112).toInt.toNat a1).1 112).toInt.toNat a2).1 112).toInt.toNat a3) 282 ((sa (sa (sa s 279 (s.1 112).toInt.toNat a1) 280 ((sa s 279 (s.1 112).toInt.toNat a1).1 112).toInt.toNat a2) 281 ((sa (sa s 279 (s.1 112).toInt.toNat a1) 280 ((sa s 279 (s.1 112).toInt.toNat a1).1 112).toInt.toNat a2).1 112).toInt.toNat a3).1 112).toInt.toNat ((sa (sa (sa s 279 (s.1 112).toInt.toNat a1) 280 ((sa s 279 (s.1 112).toInt.toNat a1).1 112).toInt.toNat a2) 281 ((sa (sa s 279 (s.1 112).toInt.toNat a1) 280 ((sa s 279 (s.1 112).toInt.toNat a1).1 112).toInt.toNat a2).1 112).toInt.toNat a3).1 118)).1 112), .ref 283] _ _
        refine Lb_w (lb_ld rfl rfl rfl ?_)
        refine Lb_w (lb_ias rfl rfl (fun hk => ?_))
        replace h := h (kc_in (x := (sa (sa (sa (sa s 279 (s.1 112).toInt.toNat a1) 280 ((sa s 279 (s.1 112).toInt.toNat a1).1 112).toInt.toNat a2) 281 ((sa (sa s 279 (s.1 112).toInt.toNat a1) 280 ((sa s 279 (s.1 112).toInt.toNat a1).1 112).toInt.toNat a2).1 112).toInt.toNat a3) 282 ((sa (sa (sa s 279 (s.1 112).toInt.toNat a1) 280 ((sa s 279 (s.1 112).toInt.toNat a1).1 112).toInt.toNat a2) 281 ((sa (sa s 279 (s.1 112).toInt.toNat a1) 280 ((sa s 279 (s.1 112).toInt.toNat a1).1 112).toInt.toNat a2).1 112).toInt.toNat a3).1 112).toInt.toNat ((sa (sa (sa s 279 (s.1 112).toInt.toNat a1) 280 ((sa s 279 (s.1 112).toInt.toNat a1).1 112).toInt.toNat a2) 281 ((sa (sa s 279 (s.1 112).toInt.toNat a1) 280 ((sa s 279 (s.1 112).toInt.toNat a1).1 112).toInt.toNat a2).1 112).toInt.toNat a3).1 118)).1 112) rfl hk)
        replace h := h _ rfl
        refine Lb_w (lb_c [.int 0] (xo_push (.int 0)) rfl rfl ?_)
        refine Lb_w (lb_st [.ref 213, .int a1, .int a2, .int a3, .int a4, .int a5, .int a6, .int 0, .null, .null, .null, .null, .null, .null] rfl rfl rfl ?_)
        exact lkl_250_94  h
      · replace h := h.2 ((i_eq (x := s.1 112) (y := 150) rfl (show (150 : Int32).toInt = 150 by decide)).mp hc)
        refine Lb_w (lb_ld rfl rfl rfl ?_)
        refine Lb_w (lb_c [.int 0, .ref 213] (xo_push (.int 0)) rfl rfl ?_)
        refine Lb_w (lb_put rfl rfl (fun hk => ?_))
        replace h := h _ rfl
        exact Lb_w (lb_ret0 rfl h)
    · replace h := h.2 ((i_eq (x := s.1 111) (y := 0) rfl (show (0 : Int32).toInt = 0 by decide)).mp hc)
      exact lk_250_52  h
def ub_250_44 (T : Nat → List Value → yS → (Option Value → yS → Prop) → Prop) (R4 : Int32 → Int32 → Int32 → Int32 → Int32 → Int32 → Int32 → yS → Prop) (a1 : Int32) (a2 : Int32) (a3 : Int32) (a4 : Int32) (a5 : Int32) (a6 : Int32) (a7 : Int32) (t0 : Int32) (s : yS) (P : Option Value → yS → Prop) : Prop :=
  ((-2147483648 ≤ a7.toInt + 1 ∧ a7.toInt + 1 ≤ 2147483647) → ∀ x1 : Int32, x1.toInt = a7.toInt + 1 → R4 a1 a2 a3 a4 a5 t0 x1  s)
set_option maxRecDepth 20000 in
theorem lk_250_44 {d N0 : Nat} {R4 : Int32 → Int32 → Int32 → Int32 → Int32 → Int32 → Int32 → yS → Prop} {a1 : Int32} {a2 : Int32} {a3 : Int32} {a4 : Int32} {a5 : Int32} {a6 : Int32} {a7 : Int32} {t0 : Int32} {s : yS} {P : Option Value → yS → Prop} (r4 : ∀ a1 a2 a3 a4 a5 a6 a7 s, R4 a1 a2 a3 a4 a5 a6 a7 s → Lb d N0 8 (none) xE_250 (xE_250.drop 4) [.ref 213, .int a1, .int a2, .int a3, .int a4, .int a5, .int a6, .int a7, .null, .null, .null, .null, .null, .null] [] s P) (h : ub_250_44 (Par d) R4 a1 a2 a3 a4 a5 a6 a7 t0 s P) : Lb d N0 8 (none) xE_250 (xE_250.drop 44) [.ref 213, .int a1, .int a2, .int a3, .int a4, .int a5, .int a6, .int a7, .null, .null, .null, .null, .null, .null] [.int t0] s P := by
  unfold ub_250_44 at h
  refine Lb_w (lb_st [.ref 213, .int a1, .int a2, .int a3, .int a4, .int a5, .int t0, .int a7, .null, .null, .null, .null, .null, .null] rfl rfl rfl ?_)
  refine Lb_w (lb_inc [.ref 213, .int a1, .int a2, .int a3, .int a4, .int a5, .int t0, .int (a7 + 1), .null, .null, .null, .null, .null, .null] rfl rfl rfl rfl (fun hk => ?_))
  replace hk := kc_inc (x := a7) (n := 1) rfl hk
  replace h := h hk _ (i_add (x := a7) (y := 1) rfl (show (1 : Int32).toInt = 1 by decide) hk)
  refine Lb_w (lb_go rfl ?_)
  exact r4 a1 a2 a3 a4 a5 t0 (a7 + 1)  s h
def ub_250_43 (T : Nat → List Value → yS → (Option Value → yS → Prop) → Prop) (R4 : Int32 → Int32 → Int32 → Int32 → Int32 → Int32 → Int32 → yS → Prop) (a1 : Int32) (a2 : Int32) (a3 : Int32) (a4 : Int32) (a5 : Int32) (a6 : Int32) (a7 : Int32) (s : yS) (P : Option Value → yS → Prop) : Prop :=
  ub_250_44 T R4 a1 a2 a3 a4 a5 a6 a7 0 s P
set_option maxRecDepth 20000 in
theorem lk_250_43 {d N0 : Nat} {R4 : Int32 → Int32 → Int32 → Int32 → Int32 → Int32 → Int32 → yS → Prop} {a1 : Int32} {a2 : Int32} {a3 : Int32} {a4 : Int32} {a5 : Int32} {a6 : Int32} {a7 : Int32} {s : yS} {P : Option Value → yS → Prop} (r4 : ∀ a1 a2 a3 a4 a5 a6 a7 s, R4 a1 a2 a3 a4 a5 a6 a7 s → Lb d N0 8 (none) xE_250 (xE_250.drop 4) [.ref 213, .int a1, .int a2, .int a3, .int a4, .int a5, .int a6, .int a7, .null, .null, .null, .null, .null, .null] [] s P) (h : ub_250_43 (Par d) R4 a1 a2 a3 a4 a5 a6 a7 s P) : Lb d N0 8 (none) xE_250 (xE_250.drop 43) [.ref 213, .int a1, .int a2, .int a3, .int a4, .int a5, .int a6, .int a7, .null, .null, .null, .null, .null, .null] [] s P := by
  unfold ub_250_43 at h
  refine Lb_w (lb_c [.int 0] (xo_push (.int 0)) rfl rfl ?_)
  exact lk_250_44 r4 h
def ub_250_4 (T : Nat → List Value → yS → (Option Value → yS → Prop) → Prop) (R4 : Int32 → Int32 → Int32 → Int32 → Int32 → Int32 → Int32 → yS → Prop) (a1 : Int32) (a2 : Int32) (a3 : Int32) (a4 : Int32) (a5 : Int32) (a6 : Int32) (a7 : Int32) (s : yS) (P : Option Value → yS → Prop) : Prop :=
  ((s.1 112).toInt ≤ a7.toInt → ub_250_47 T  a1 a2 a3 a4 a5 a6 a7  s P) ∧ (¬ ((s.1 112).toInt ≤ a7.toInt) → (¬ (a6.toInt = 0) → ub_250_47 T  a1 a2 a3 a4 a5 a6 a7  s P) ∧ (a6.toInt = 0 → ((0 ≤ a7.toInt ∧ a7.toInt < 160) → (¬ ((s.2.1 279 a7.toInt.toNat).toInt = a1.toInt) → ub_250_43 T R4 a1 a2 a3 a4 a5 a6 a7  s P) ∧ ((s.2.1 279 a7.toInt.toNat).toInt = a1.toInt → ((0 ≤ a7.toInt ∧ a7.toInt < 160) → (¬ ((s.2.1 280 a7.toInt.toNat).toInt = a2.toInt) → ub_250_43 T R4 a1 a2 a3 a4 a5 a6 a7  s P) ∧ ((s.2.1 280 a7.toInt.toNat).toInt = a2.toInt → ((0 ≤ a7.toInt ∧ a7.toInt < 160) → (¬ ((s.2.1 281 a7.toInt.toNat).toInt = a3.toInt) → ub_250_43 T R4 a1 a2 a3 a4 a5 a6 a7  s P) ∧ ((s.2.1 281 a7.toInt.toNat).toInt = a3.toInt → ((0 ≤ a7.toInt ∧ a7.toInt < 160) → ((0 ≤ a7.toInt ∧ a7.toInt < 160) → T 187 [.ref 213, .int (s.2.1 282 a7.toInt.toNat), .int (s.2.1 283 a7.toInt.toNat), .int a4, .int a5] s (fun v2 s1 => ∃ x3, v2 = some (.int x3) ∧ ((x3.toInt = 0 → ub_250_43 T R4 a1 a2 a3 a4 a5 a6 a7  s1 P) ∧ (¬ (x3.toInt = 0) → ub_250_44 T R4 a1 a2 a3 a4 a5 a6 a7 1 s1 P)))))))))))))
set_option maxRecDepth 20000 in
theorem lk_250_4 {d N0 : Nat} {R4 : Int32 → Int32 → Int32 → Int32 → Int32 → Int32 → Int32 → yS → Prop} {a1 : Int32} {a2 : Int32} {a3 : Int32} {a4 : Int32} {a5 : Int32} {a6 : Int32} {a7 : Int32} {s : yS} {P : Option Value → yS → Prop} (r4 : ∀ a1 a2 a3 a4 a5 a6 a7 s, R4 a1 a2 a3 a4 a5 a6 a7 s → Lb d N0 8 (none) xE_250 (xE_250.drop 4) [.ref 213, .int a1, .int a2, .int a3, .int a4, .int a5, .int a6, .int a7, .null, .null, .null, .null, .null, .null] [] s P) (h : ub_250_4 (Par d) R4 a1 a2 a3 a4 a5 a6 a7 s P) : Lb d (N0 + 1) 8 (none) xE_250 (xE_250.drop 4) [.ref 213, .int a1, .int a2, .int a3, .int a4, .int a5, .int a6, .int a7, .null, .null, .null, .null, .null, .null] [] s P := by
  unfold ub_250_4 at h
  refine lb_ld rfl rfl rfl ?_
  refine Lb_w (lb_ld rfl rfl rfl ?_)
  refine Lb_w (lb_get rfl rfl ?_)
  change Lb _ _ _ _ _ _ _ [.int (s.1 112), .int a7] _ _
  refine Lb_w (lb_brP rfl rfl ⟨fun hc => ?_, fun hc => ?_⟩)
  · replace h := h.1 ((i_le (x := s.1 112) (y := a7) rfl rfl).mp hc)
    exact lk_250_47  h
  · replace h := h.2 (fun q => hc ((i_le (x := s.1 112) (y := a7) rfl rfl).mpr q))
    refine Lb_w (lb_ld rfl rfl rfl ?_)
    refine Lb_w (lb_brN rfl rfl ⟨fun hc => ?_, fun hc => ?_⟩)
    · replace h := h.1 (fun q => hc ((i_eq (x := a6) (y := 0) rfl (show (0 : Int32).toInt = 0 by decide)).mpr q))
      exact lk_250_47  h
    · replace h := h.2 ((i_eq (x := a6) (y := 0) rfl (show (0 : Int32).toInt = 0 by decide)).mp hc)
      refine Lb_w (lb_ld rfl rfl rfl ?_)
      refine Lb_w (lb_get rfl rfl ?_)
      change Lb _ _ _ _ _ _ _ [.ref 279] _ _
      refine Lb_w (lb_ld rfl rfl rfl ?_)
      refine Lb_w (lb_ial rfl rfl (fun hk => ?_))
      change Lb _ _ _ _ _ _ _ [.int (s.2.1 279 a7.toInt.toNat)] _ _
      replace h := h (kc_in (x := a7) rfl hk)
      refine Lb_w (lb_ld rfl rfl rfl ?_)
      refine Lb_w (lb_brN rfl rfl ⟨fun hc => ?_, fun hc => ?_⟩)
      · replace h := h.1 (fun q => hc ((i_eq (x := s.2.1 279 a7.toInt.toNat) (y := a1) rfl rfl).mpr q))
        exact lk_250_43 r4 h
      · replace h := h.2 ((i_eq (x := s.2.1 279 a7.toInt.toNat) (y := a1) rfl rfl).mp hc)
        refine Lb_w (lb_ld rfl rfl rfl ?_)
        refine Lb_w (lb_get rfl rfl ?_)
        change Lb _ _ _ _ _ _ _ [.ref 280] _ _
        refine Lb_w (lb_ld rfl rfl rfl ?_)
        refine Lb_w (lb_ial rfl rfl (fun hk => ?_))
        change Lb _ _ _ _ _ _ _ [.int (s.2.1 280 a7.toInt.toNat)] _ _
        replace h := h (kc_in (x := a7) rfl hk)
        refine Lb_w (lb_ld rfl rfl rfl ?_)
        refine Lb_w (lb_brN rfl rfl ⟨fun hc => ?_, fun hc => ?_⟩)
        · replace h := h.1 (fun q => hc ((i_eq (x := s.2.1 280 a7.toInt.toNat) (y := a2) rfl rfl).mpr q))
          exact lk_250_43 r4 h
        · replace h := h.2 ((i_eq (x := s.2.1 280 a7.toInt.toNat) (y := a2) rfl rfl).mp hc)
          refine Lb_w (lb_ld rfl rfl rfl ?_)
          refine Lb_w (lb_get rfl rfl ?_)
          change Lb _ _ _ _ _ _ _ [.ref 281] _ _
          refine Lb_w (lb_ld rfl rfl rfl ?_)
          refine Lb_w (lb_ial rfl rfl (fun hk => ?_))
          change Lb _ _ _ _ _ _ _ [.int (s.2.1 281 a7.toInt.toNat)] _ _
          replace h := h (kc_in (x := a7) rfl hk)
          refine Lb_w (lb_ld rfl rfl rfl ?_)
          refine Lb_w (lb_brN rfl rfl ⟨fun hc => ?_, fun hc => ?_⟩)
          · replace h := h.1 (fun q => hc ((i_eq (x := s.2.1 281 a7.toInt.toNat) (y := a3) rfl rfl).mpr q))
            exact lk_250_43 r4 h
          · replace h := h.2 ((i_eq (x := s.2.1 281 a7.toInt.toNat) (y := a3) rfl rfl).mp hc)
            refine Lb_w (lb_ld rfl rfl rfl ?_)
            refine Lb_w (lb_ld rfl rfl rfl ?_)
            refine Lb_w (lb_get rfl rfl ?_)
            change Lb _ _ _ _ _ _ _ [.ref 282, .ref 213] _ _
            refine Lb_w (lb_ld rfl rfl rfl ?_)
            refine Lb_w (lb_ial rfl rfl (fun hk => ?_))
            change Lb _ _ _ _ _ _ _ [.int (s.2.1 282 a7.toInt.toNat), .ref 213] _ _
            replace h := h (kc_in (x := a7) rfl hk)
            refine Lb_w (lb_ld rfl rfl rfl ?_)
            refine Lb_w (lb_get rfl rfl ?_)
            change Lb _ _ _ _ _ _ _ [.ref 283, .int (s.2.1 282 a7.toInt.toNat), .ref 213] _ _
            refine Lb_w (lb_ld rfl rfl rfl ?_)
            refine Lb_w (lb_ial rfl rfl (fun hk => ?_))
            change Lb _ _ _ _ _ _ _ [.int (s.2.1 283 a7.toInt.toNat), .int (s.2.1 282 a7.toInt.toNat), .ref 213] _ _
            replace h := h (kc_in (x := a7) rfl hk)
            refine Lb_w (lb_ld rfl rfl rfl ?_)
            refine Lb_w (lb_ld rfl rfl rfl ?_)
            refine Lb_w (lb_call [.ref 213, .int (s.2.1 282 a7.toInt.toNat), .int (s.2.1 283 a7.toInt.toNat), .int a4, .int a5] [] rfl rfl rfl (Par.imp h (fun v2 s1 h => ?_)))
            obtain ⟨x3, rfl, h⟩ := h
            change Lb _ _ _ _ _ _ _ [.int x3] _ _
            refine Lb_w (lb_brP rfl rfl ⟨fun hc => ?_, fun hc => ?_⟩)
            · replace h := h.1 ((i_eq (x := x3) (y := 0) rfl (show (0 : Int32).toInt = 0 by decide)).mp hc)
              exact lk_250_43 r4 h
            · replace h := h.2 (fun q => hc ((i_eq (x := x3) (y := 0) rfl (show (0 : Int32).toInt = 0 by decide)).mpr q))
              refine Lb_w (lb_c [.int 1] (xo_push (.int 1)) rfl rfl ?_)
              refine Lb_w (lb_go rfl ?_)
              exact lk_250_44 r4 h
def ubl_250_4 (T : Nat → List Value → yS → (Option Value → yS → Prop) → Prop)  (a1 : Int32) (a2 : Int32) (a3 : Int32) (a4 : Int32) (a5 : Int32) (a6 : Int32) (a7 : Int32) (s : yS) (P : Option Value → yS → Prop) : Prop :=
  ∃ (I : Int32 → Int32 → Int32 → Int32 → Int32 → Int32 → Int32 → yS → Prop), I a1 a2 a3 a4 a5 a6 a7 s ∧ ∀ (a1 : Int32) (a2 : Int32) (a3 : Int32) (a4 : Int32) (a5 : Int32) (a6 : Int32) (a7 : Int32) (s : yS), I a1 a2 a3 a4 a5 a6 a7 s → ub_250_4 T I a1 a2 a3 a4 a5 a6 a7 s P
theorem lkl_250_4 {d N0 : Nat}  {a1 : Int32} {a2 : Int32} {a3 : Int32} {a4 : Int32} {a5 : Int32} {a6 : Int32} {a7 : Int32} {s : yS} {P : Option Value → yS → Prop}  (h : ubl_250_4 (Par d)  a1 a2 a3 a4 a5 a6 a7 s P) : Lb d N0 8 (none) xE_250 (xE_250.drop 4) [.ref 213, .int a1, .int a2, .int a3, .int a4, .int a5, .int a6, .int a7, .null, .null, .null, .null, .null, .null] [] s P := by
  obtain ⟨I, h0, h1⟩ := h
  have key : ∀ (m : Nat), m ≤ N0 → ∀ (a1 : Int32) (a2 : Int32) (a3 : Int32) (a4 : Int32) (a5 : Int32) (a6 : Int32) (a7 : Int32) (s : yS), I a1 a2 a3 a4 a5 a6 a7 s → Lb d m 8 (none) xE_250 (xE_250.drop 4) [.ref 213, .int a1, .int a2, .int a3, .int a4, .int a5, .int a6, .int a7, .null, .null, .null, .null, .null, .null] [] s P := by
    intro m
    induction m with
    | zero => exact fun _ a1 a2 a3 a4 a5 a6 a7 s _ => Lb_0
    | succ m ih =>
      intro hm
      replace hm : m ≤ N0 := Nat.le_of_succ_le hm
      replace ih := ih hm
      intro a1 a2 a3 a4 a5 a6 a7 s hI
      exact lk_250_4 ih (h1 a1 a2 a3 a4 a5 a6 a7 s hI)
  exact key N0 (Nat.le_refl _) a1 a2 a3 a4 a5 a6 a7 s h0
def ub_250_0 (T : Nat → List Value → yS → (Option Value → yS → Prop) → Prop)  (a1 : Int32) (a2 : Int32) (a3 : Int32) (a4 : Int32) (a5 : Int32) (s : yS) (P : Option Value → yS → Prop) : Prop :=
  ubl_250_4 T  a1 a2 a3 a4 a5 0 0  s P
set_option maxRecDepth 20000 in
theorem lk_250_0 {d N0 : Nat}  {a1 : Int32} {a2 : Int32} {a3 : Int32} {a4 : Int32} {a5 : Int32} {s : yS} {P : Option Value → yS → Prop}  (h : ub_250_0 (Par d)  a1 a2 a3 a4 a5 s P) : Lb d N0 8 (none) xE_250 (xE_250.drop 0) [.ref 213, .int a1, .int a2, .int a3, .int a4, .int a5, .null, .null, .null, .null, .null, .null, .null, .null] [] s P := by
  unfold ub_250_0 at h
  refine Lb_w (lb_c [.int 0] (xo_push (.int 0)) rfl rfl ?_)
  refine Lb_w (lb_st [.ref 213, .int a1, .int a2, .int a3, .int a4, .int a5, .int 0, .null, .null, .null, .null, .null, .null, .null] rfl rfl rfl ?_)
  refine Lb_w (lb_c [.int 0] (xo_push (.int 0)) rfl rfl ?_)
  refine Lb_w (lb_st [.ref 213, .int a1, .int a2, .int a3, .int a4, .int a5, .int 0, .int 0, .null, .null, .null, .null, .null, .null] rfl rfl rfl ?_)
  exact lkl_250_4  h
theorem pb_250 {d : Nat} {a1 : Int32} {a2 : Int32} {a3 : Int32} {a4 : Int32} {a5 : Int32} {s : yS} {P : Option Value → yS → Prop} (h : ub_250_0 (Par d) a1 a2 a3 a4 a5 s P) : Par (d + 1) 250 [.ref 213, .int a1, .int a2, .int a3, .int a4, .int a5] s P := par_of (E := xE_250) (ml := 8) (ret := none) rfl (fun _ => lk_250_0 h)
/-! putFor -/
def ub_251_19 (T : Nat → List Value → yS → (Option Value → yS → Prop) → Prop)  (a1 : Int32) (a2 : Int32) (t1 : Int32) (s : yS) (P : Option Value → yS → Prop) : Prop :=
  ((t1.toInt = 0 ∨ t1.toInt = 1) → ∀ s1, s1 = sf s 111 t1 → (((s1.1 111).toInt = 0 ∨ (s1.1 111).toInt = 1) → P (some (.int (s1.1 111))) s1))
set_option maxRecDepth 20000 in
theorem lk_251_19 {d N0 : Nat}  {a1 : Int32} {a2 : Int32} {t1 : Int32} {s : yS} {P : Option Value → yS → Prop}  (h : ub_251_19 (Par d)  a1 a2 t1 s P) : Lb d N0 3 (some .boolean) xE_251 (xE_251.drop 19) [.ref 213, .int a1, .int a2, .null, .null, .null] [.int t1, .ref 213] s P := by
  unfold ub_251_19 at h
  refine Lb_w (lb_put rfl rfl (fun hk => ?_))
  replace h := h (kc_z (x := t1) rfl hk)
  replace h := h _ rfl
  refine Lb_w (lb_ld rfl rfl rfl ?_)
  refine Lb_w (lb_get rfl rfl ?_)
  change Lb _ _ _ _ _ _ _ [.int ((sf s 111 t1).1 111)] _ _
  exact Lb_w (lb_retZ rfl (fun hk => h (kc_z (x := (sf s 111 t1).1 111) rfl hk)))
def ub_251_18 (T : Nat → List Value → yS → (Option Value → yS → Prop) → Prop)  (a1 : Int32) (a2 : Int32) (s : yS) (P : Option Value → yS → Prop) : Prop :=
  ub_251_19 T  a1 a2 0 s P
set_option maxRecDepth 20000 in
theorem lk_251_18 {d N0 : Nat}  {a1 : Int32} {a2 : Int32} {s : yS} {P : Option Value → yS → Prop}  (h : ub_251_18 (Par d)  a1 a2 s P) : Lb d N0 3 (some .boolean) xE_251 (xE_251.drop 18) [.ref 213, .int a1, .int a2, .null, .null, .null] [.ref 213] s P := by
  unfold ub_251_18 at h
  refine Lb_w (lb_c [.int 0, .ref 213] (xo_push (.int 0)) rfl rfl ?_)
  exact lk_251_19  h
def ub_251_0 (T : Nat → List Value → yS → (Option Value → yS → Prop) → Prop)  (a1 : Int32) (a2 : Int32) (s : yS) (P : Option Value → yS → Prop) : Prop :=
  ((s.1 111).toInt = 0 → ub_251_18 T  a1 a2  s P) ∧ (¬ ((s.1 111).toInt = 0) → ((0 ≤ a1.toInt ∧ a1.toInt < 12006) → ((0 ≤ a1.toInt ∧ a1.toInt < 12006) → T 191 [.ref 213, .int (s.2.1 231 a1.toInt.toNat), .int (s.2.1 232 a1.toInt.toNat), .int a2] s (fun v2 s1 => ∃ x3, v2 = some (.int x3) ∧ ((x3.toInt = 0 → ub_251_18 T  a1 a2  s1 P) ∧ (¬ (x3.toInt = 0) → ub_251_19 T  a1 a2 1 s1 P))))))
set_option maxRecDepth 20000 in
theorem lk_251_0 {d N0 : Nat}  {a1 : Int32} {a2 : Int32} {s : yS} {P : Option Value → yS → Prop}  (h : ub_251_0 (Par d)  a1 a2 s P) : Lb d N0 3 (some .boolean) xE_251 (xE_251.drop 0) [.ref 213, .int a1, .int a2, .null, .null, .null] [] s P := by
  unfold ub_251_0 at h
  refine Lb_w (lb_ld rfl rfl rfl ?_)
  refine Lb_w (lb_ld rfl rfl rfl ?_)
  refine Lb_w (lb_get rfl rfl ?_)
  change Lb _ _ _ _ _ _ _ [.int (s.1 111), .ref 213] _ _
  refine Lb_w (lb_brP rfl rfl ⟨fun hc => ?_, fun hc => ?_⟩)
  · replace h := h.1 ((i_eq (x := s.1 111) (y := 0) rfl (show (0 : Int32).toInt = 0 by decide)).mp hc)
    exact lk_251_18  h
  · replace h := h.2 (fun q => hc ((i_eq (x := s.1 111) (y := 0) rfl (show (0 : Int32).toInt = 0 by decide)).mpr q))
    refine Lb_w (lb_ld rfl rfl rfl ?_)
    refine Lb_w (lb_ld rfl rfl rfl ?_)
    refine Lb_w (lb_get rfl rfl ?_)
    change Lb _ _ _ _ _ _ _ [.ref 231, .ref 213, .ref 213] _ _
    refine Lb_w (lb_ld rfl rfl rfl ?_)
    refine Lb_w (lb_ial rfl rfl (fun hk => ?_))
    change Lb _ _ _ _ _ _ _ [.int (s.2.1 231 a1.toInt.toNat), .ref 213, .ref 213] _ _
    replace h := h (kc_in (x := a1) rfl hk)
    refine Lb_w (lb_ld rfl rfl rfl ?_)
    refine Lb_w (lb_get rfl rfl ?_)
    change Lb _ _ _ _ _ _ _ [.ref 232, .int (s.2.1 231 a1.toInt.toNat), .ref 213, .ref 213] _ _
    refine Lb_w (lb_ld rfl rfl rfl ?_)
    refine Lb_w (lb_ial rfl rfl (fun hk => ?_))
    change Lb _ _ _ _ _ _ _ [.int (s.2.1 232 a1.toInt.toNat), .int (s.2.1 231 a1.toInt.toNat), .ref 213, .ref 213] _ _
    replace h := h (kc_in (x := a1) rfl hk)
    refine Lb_w (lb_ld rfl rfl rfl ?_)
    refine Lb_w (lb_call [.ref 213, .int (s.2.1 231 a1.toInt.toNat), .int (s.2.1 232 a1.toInt.toNat), .int a2] [.ref 213] rfl rfl rfl (Par.imp h (fun v2 s1 h => ?_)))
    obtain ⟨x3, rfl, h⟩ := h
    change Lb _ _ _ _ _ _ _ [.int x3, .ref 213] _ _
    refine Lb_w (lb_brP rfl rfl ⟨fun hc => ?_, fun hc => ?_⟩)
    · replace h := h.1 ((i_eq (x := x3) (y := 0) rfl (show (0 : Int32).toInt = 0 by decide)).mp hc)
      exact lk_251_18  h
    · replace h := h.2 (fun q => hc ((i_eq (x := x3) (y := 0) rfl (show (0 : Int32).toInt = 0 by decide)).mpr q))
      refine Lb_w (lb_c [.int 1, .ref 213] (xo_push (.int 1)) rfl rfl ?_)
      refine Lb_w (lb_go rfl ?_)
      exact lk_251_19  h
theorem pb_251 {d : Nat} {a1 : Int32} {a2 : Int32} {s : yS} {P : Option Value → yS → Prop} (h : ub_251_0 (Par d) a1 a2 s P) : Par (d + 1) 251 [.ref 213, .int a1, .int a2] s P := par_of (E := xE_251) (ml := 3) (ret := some .boolean) rfl (fun _ => lk_251_0 h)
/-! addTypes -/
def ub_252_17 (T : Nat → List Value → yS → (Option Value → yS → Prop) → Prop) (R17 : Int32 → Int32 → Int32 → Int32 → Int32 → Int32 → yS → Prop) (a1 : Int32) (a2 : Int32) (a3 : Int32) (a4 : Int32) (a5 : Int32) (a6 : Int32) (s : yS) (P : Option Value → yS → Prop) : Prop :=
  ((-2147483648 ≤ a4.toInt + a5.toInt ∧ a4.toInt + a5.toInt ≤ 2147483647) → ∀ x1 : Int32, x1.toInt = a4.toInt + a5.toInt → (x1.toInt ≤ a6.toInt → ∀ s2, s2 = sf s 64 a3 → P none s2) ∧ (¬ (x1.toInt ≤ a6.toInt) → T 186 [.ref 213, .int a6] s (fun v4 s3 => ∃ x5, v4 = some (.int x5) ∧ (((-2147483648 ≤ x5.toInt - a6.toInt ∧ x5.toInt - a6.toInt ≤ 2147483647) → ∀ x6 : Int32, x6.toInt = x5.toInt - a6.toInt → T 250 [.ref 213, .int 0, .int 0, .int 1, .int a6, .int x6] s3 (fun v8 s7 => v8 = none ∧ (((-2147483648 ≤ a6.toInt + 1 ∧ a6.toInt + 1 ≤ 2147483647) → ∀ x9 : Int32, x9.toInt = a6.toInt + 1 → R17 a1 a2 a3 a4 a5 x9  s7))))))))
set_option maxRecDepth 20000 in
theorem lk_252_17 {d N0 : Nat} {R17 : Int32 → Int32 → Int32 → Int32 → Int32 → Int32 → yS → Prop} {a1 : Int32} {a2 : Int32} {a3 : Int32} {a4 : Int32} {a5 : Int32} {a6 : Int32} {s : yS} {P : Option Value → yS → Prop} (r17 : ∀ a1 a2 a3 a4 a5 a6 s, R17 a1 a2 a3 a4 a5 a6 s → Lb d N0 7 (none) xE_252 (xE_252.drop 17) [.ref 213, .int a1, .int a2, .int a3, .int a4, .int a5, .int a6, .null, .null, .null] [] s P) (h : ub_252_17 (Par d) R17 a1 a2 a3 a4 a5 a6 s P) : Lb d (N0 + 1) 7 (none) xE_252 (xE_252.drop 17) [.ref 213, .int a1, .int a2, .int a3, .int a4, .int a5, .int a6, .null, .null, .null] [] s P := by
  unfold ub_252_17 at h
  refine lb_ld rfl rfl rfl ?_
  refine Lb_w (lb_ld rfl rfl rfl ?_)
  refine Lb_w (lb_ld rfl rfl rfl ?_)
  refine Lb_w (lb_ca [.int (a4 + a5), .int a6] xo_iadd rfl rfl (fun _ hk => ?_))
  replace hk := kc_add (x := a4) (y := a5) rfl rfl hk
  replace h := h hk _ (i_add (x := a4) (y := a5) rfl rfl hk)
  refine Lb_w (lb_brP rfl rfl ⟨fun hc => ?_, fun hc => ?_⟩)
  · replace h := h.1 ((i_le (x := (a4 + a5)) (y := a6) rfl rfl).mp hc)
    refine Lb_w (lb_ld rfl rfl rfl ?_)
    refine Lb_w (lb_ld rfl rfl rfl ?_)
    refine Lb_w (lb_put rfl rfl (fun hk => ?_))
    replace h := h _ rfl
    exact Lb_w (lb_ret0 rfl h)
  · replace h := h.2 (fun q => hc ((i_le (x := (a4 + a5)) (y := a6) rfl rfl).mpr q))
    refine Lb_w (lb_ld rfl rfl rfl ?_)
    refine Lb_w (lb_c [.int 0, .ref 213] (xo_push (.int 0)) rfl rfl ?_)
    refine Lb_w (lb_c [.int 0, .int 0, .ref 213] (xo_push (.int 0)) rfl rfl ?_)
    refine Lb_w (lb_c [.int 1, .int 0, .int 0, .ref 213] (xo_push (.int 1)) rfl rfl ?_)
    refine Lb_w (lb_ld rfl rfl rfl ?_)
    refine Lb_w (lb_ld rfl rfl rfl ?_)
    refine Lb_w (lb_ld rfl rfl rfl ?_)
    refine Lb_w (lb_call [.ref 213, .int a6] [.int a6, .int 1, .int 0, .int 0, .ref 213] rfl rfl rfl (Par.imp h (fun v4 s3 h => ?_)))
    obtain ⟨x5, rfl, h⟩ := h
    change Lb _ _ _ _ _ _ _ [.int x5, .int a6, .int 1, .int 0, .int 0, .ref 213] _ _
    refine Lb_w (lb_ld rfl rfl rfl ?_)
    refine Lb_w (lb_ca [.int (x5 - a6), .int a6, .int 1, .int 0, .int 0, .ref 213] xo_isub rfl rfl (fun _ hk => ?_))
    replace hk := kc_sub (x := x5) (y := a6) rfl rfl hk
    replace h := h hk _ (i_sub (x := x5) (y := a6) rfl rfl hk)
    refine Lb_w (lb_call [.ref 213, .int 0, .int 0, .int 1, .int a6, .int (x5 - a6)] [] rfl rfl rfl (Par.imp h (fun v8 s7 h => ?_)))
    obtain ⟨rfl, h⟩ := h
    change Lb _ _ _ _ _ _ _ [] _ _
    refine Lb_w (lb_inc [.ref 213, .int a1, .int a2, .int a3, .int a4, .int a5, .int (a6 + 1), .null, .null, .null] rfl rfl rfl rfl (fun hk => ?_))
    replace hk := kc_inc (x := a6) (n := 1) rfl hk
    replace h := h hk _ (i_add (x := a6) (y := 1) rfl (show (1 : Int32).toInt = 1 by decide) hk)
    refine Lb_w (lb_go rfl ?_)
    exact r17 a1 a2 a3 a4 a5 (a6 + 1)  s7 h
def ubl_252_17 (T : Nat → List Value → yS → (Option Value → yS → Prop) → Prop)  (a1 : Int32) (a2 : Int32) (a3 : Int32) (a4 : Int32) (a5 : Int32) (a6 : Int32) (s : yS) (P : Option Value → yS → Prop) : Prop :=
  ∃ (I : Int32 → Int32 → Int32 → Int32 → Int32 → Int32 → yS → Prop), I a1 a2 a3 a4 a5 a6 s ∧ ∀ (a1 : Int32) (a2 : Int32) (a3 : Int32) (a4 : Int32) (a5 : Int32) (a6 : Int32) (s : yS), I a1 a2 a3 a4 a5 a6 s → ub_252_17 T I a1 a2 a3 a4 a5 a6 s P
theorem lkl_252_17 {d N0 : Nat}  {a1 : Int32} {a2 : Int32} {a3 : Int32} {a4 : Int32} {a5 : Int32} {a6 : Int32} {s : yS} {P : Option Value → yS → Prop}  (h : ubl_252_17 (Par d)  a1 a2 a3 a4 a5 a6 s P) : Lb d N0 7 (none) xE_252 (xE_252.drop 17) [.ref 213, .int a1, .int a2, .int a3, .int a4, .int a5, .int a6, .null, .null, .null] [] s P := by
  obtain ⟨I, h0, h1⟩ := h
  have key : ∀ (m : Nat), m ≤ N0 → ∀ (a1 : Int32) (a2 : Int32) (a3 : Int32) (a4 : Int32) (a5 : Int32) (a6 : Int32) (s : yS), I a1 a2 a3 a4 a5 a6 s → Lb d m 7 (none) xE_252 (xE_252.drop 17) [.ref 213, .int a1, .int a2, .int a3, .int a4, .int a5, .int a6, .null, .null, .null] [] s P := by
    intro m
    induction m with
    | zero => exact fun _ a1 a2 a3 a4 a5 a6 s _ => Lb_0
    | succ m ih =>
      intro hm
      replace hm : m ≤ N0 := Nat.le_of_succ_le hm
      replace ih := ih hm
      intro a1 a2 a3 a4 a5 a6 s hI
      exact lk_252_17 ih (h1 a1 a2 a3 a4 a5 a6 s hI)
  exact key N0 (Nat.le_refl _) a1 a2 a3 a4 a5 a6 s h0
def ub_252_0 (T : Nat → List Value → yS → (Option Value → yS → Prop) → Prop)  (a1 : Int32) (a2 : Int32) (s : yS) (P : Option Value → yS → Prop) : Prop :=
  T 251 [.ref 213, .int a1, .int a2] s (fun v2 s1 => ∃ x3, v2 = some (.int x3) ∧ ((¬ (x3.toInt = 0) → ubl_252_17 T  a1 a2 (s.1 64) (s1.1 71) (s1.1 72) (s1.1 71)  s1 P) ∧ (x3.toInt = 0 → P none s1)))
set_option maxRecDepth 20000 in
theorem lk_252_0 {d N0 : Nat}  {a1 : Int32} {a2 : Int32} {s : yS} {P : Option Value → yS → Prop}  (h : ub_252_0 (Par d)  a1 a2 s P) : Lb d N0 7 (none) xE_252 (xE_252.drop 0) [.ref 213, .int a1, .int a2, .null, .null, .null, .null, .null, .null, .null] [] s P := by
  unfold ub_252_0 at h
  refine Lb_w (lb_ld rfl rfl rfl ?_)
  refine Lb_w (lb_get rfl rfl ?_)
  change Lb _ _ _ _ _ _ _ [.int (s.1 64)] _ _
  refine Lb_w (lb_st [.ref 213, .int a1, .int a2, .int (s.1 64), .null, .null, .null, .null, .null, .null] rfl rfl rfl ?_)
  refine Lb_w (lb_ld rfl rfl rfl ?_)
  refine Lb_w (lb_ld rfl rfl rfl ?_)
  refine Lb_w (lb_ld rfl rfl rfl ?_)
  refine Lb_w (lb_call [.ref 213, .int a1, .int a2] [] rfl rfl rfl (Par.imp h (fun v2 s1 h => ?_)))
  obtain ⟨x3, rfl, h⟩ := h
  change Lb _ _ _ _ _ _ _ [.int x3] _ _
  refine Lb_w (lb_brN rfl rfl ⟨fun hc => ?_, fun hc => ?_⟩)
  · replace h := h.1 (fun q => hc ((i_eq (x := x3) (y := 0) rfl (show (0 : Int32).toInt = 0 by decide)).mpr q))
    refine Lb_w (lb_ld rfl rfl rfl ?_)
    refine Lb_w (lb_get rfl rfl ?_)
    change Lb _ _ _ _ _ _ _ [.int (s1.1 71)] _ _
    refine Lb_w (lb_st [.ref 213, .int a1, .int a2, .int (s.1 64), .int (s1.1 71), .null, .null, .null, .null, .null] rfl rfl rfl ?_)
    refine Lb_w (lb_ld rfl rfl rfl ?_)
    refine Lb_w (lb_get rfl rfl ?_)
    change Lb _ _ _ _ _ _ _ [.int (s1.1 72)] _ _
    refine Lb_w (lb_st [.ref 213, .int a1, .int a2, .int (s.1 64), .int (s1.1 71), .int (s1.1 72), .null, .null, .null, .null] rfl rfl rfl ?_)
    refine Lb_w (lb_ld rfl rfl rfl ?_)
    refine Lb_w (lb_st [.ref 213, .int a1, .int a2, .int (s.1 64), .int (s1.1 71), .int (s1.1 72), .int (s1.1 71), .null, .null, .null] rfl rfl rfl ?_)
    exact lkl_252_17  h
  · replace h := h.2 ((i_eq (x := x3) (y := 0) rfl (show (0 : Int32).toInt = 0 by decide)).mp hc)
    exact Lb_w (lb_ret0 rfl h)
theorem pb_252 {d : Nat} {a1 : Int32} {a2 : Int32} {s : yS} {P : Option Value → yS → Prop} (h : ub_252_0 (Par d) a1 a2 s P) : Par (d + 1) 252 [.ref 213, .int a1, .int a2] s P := par_of (E := xE_252) (ml := 7) (ret := none) rfl (fun _ => lk_252_0 h)
/-! addE -/
def ub_253_60 (T : Nat → List Value → yS → (Option Value → yS → Prop) → Prop)  (a1 : Int32) (a2 : Int32) (s : yS) (P : Option Value → yS → Prop) : Prop :=
  P none s
set_option maxRecDepth 20000 in
theorem lk_253_60 {d N0 : Nat}  {a1 : Int32} {a2 : Int32} {s : yS} {P : Option Value → yS → Prop}  (h : ub_253_60 (Par d)  a1 a2 s P) : Lb d N0 3 (none) xE_253 (xE_253.drop 60) [.ref 213, .int a1, .int a2, .null, .null, .null] [] s P := by
  unfold ub_253_60 at h
  exact Lb_w (lb_ret0 rfl h)
def ub_253_47 (T : Nat → List Value → yS → (Option Value → yS → Prop) → Prop)  (a1 : Int32) (a2 : Int32) (s : yS) (P : Option Value → yS → Prop) : Prop :=
  ((0 ≤ a1.toInt ∧ a1.toInt < 12006) → (¬ ((s.2.1 221 a1.toInt.toNat).toInt = 2) → ub_253_60 T  a1 a2  s P) ∧ ((s.2.1 221 a1.toInt.toNat).toInt = 2 → ((0 ≤ a1.toInt ∧ a1.toInt < 12006) → T 254 [.ref 213, .int (s.2.1 224 a1.toInt.toNat), .int a2] s (fun v2 s1 => v2 = none ∧ (ub_253_60 T  a1 a2  s1 P)))))
set_option maxRecDepth 20000 in
theorem lk_253_47 {d N0 : Nat}  {a1 : Int32} {a2 : Int32} {s : yS} {P : Option Value → yS → Prop}  (h : ub_253_47 (Par d)  a1 a2 s P) : Lb d N0 3 (none) xE_253 (xE_253.drop 47) [.ref 213, .int a1, .int a2, .null, .null, .null] [] s P := by
  unfold ub_253_47 at h
  refine Lb_w (lb_ld rfl rfl rfl ?_)
  refine Lb_w (lb_get rfl rfl ?_)
  change Lb _ _ _ _ _ _ _ [.ref 221] _ _
  refine Lb_w (lb_ld rfl rfl rfl ?_)
  refine Lb_w (lb_ial rfl rfl (fun hk => ?_))
  change Lb _ _ _ _ _ _ _ [.int (s.2.1 221 a1.toInt.toNat)] _ _
  replace h := h (kc_in (x := a1) rfl hk)
  refine Lb_w (lb_c [.int 2, .int (s.2.1 221 a1.toInt.toNat)] (xo_push (.int 2)) rfl rfl ?_)
  refine Lb_w (lb_brN rfl rfl ⟨fun hc => ?_, fun hc => ?_⟩)
  · replace h := h.1 (fun q => hc ((i_eq (x := s.2.1 221 a1.toInt.toNat) (y := 2) rfl (show (2 : Int32).toInt = 2 by decide)).mpr q))
    exact lk_253_60  h
  · replace h := h.2 ((i_eq (x := s.2.1 221 a1.toInt.toNat) (y := 2) rfl (show (2 : Int32).toInt = 2 by decide)).mp hc)
    refine Lb_w (lb_ld rfl rfl rfl ?_)
    refine Lb_w (lb_ld rfl rfl rfl ?_)
    refine Lb_w (lb_get rfl rfl ?_)
    change Lb _ _ _ _ _ _ _ [.ref 224, .ref 213] _ _
    refine Lb_w (lb_ld rfl rfl rfl ?_)
    refine Lb_w (lb_ial rfl rfl (fun hk => ?_))
    change Lb _ _ _ _ _ _ _ [.int (s.2.1 224 a1.toInt.toNat), .ref 213] _ _
    replace h := h (kc_in (x := a1) rfl hk)
    refine Lb_w (lb_ld rfl rfl rfl ?_)
    refine Lb_w (lb_call [.ref 213, .int (s.2.1 224 a1.toInt.toNat), .int a2] [] rfl rfl rfl (Par.imp h (fun v2 s1 h => ?_)))
    obtain ⟨rfl, h⟩ := h
    change Lb _ _ _ _ _ _ _ [] _ _
    exact lk_253_60  h
def ub_253_34 (T : Nat → List Value → yS → (Option Value → yS → Prop) → Prop)  (a1 : Int32) (a2 : Int32) (s : yS) (P : Option Value → yS → Prop) : Prop :=
  ((0 ≤ a1.toInt ∧ a1.toInt < 12006) → ((s.2.1 221 a1.toInt.toNat).toInt = 3 → ub_253_47 T  a1 a2  s P) ∧ (¬ ((s.2.1 221 a1.toInt.toNat).toInt = 3) → ((0 ≤ a1.toInt ∧ a1.toInt < 12006) → T 252 [.ref 213, .int (s.2.1 229 a1.toInt.toNat), .int a2] s (fun v2 s1 => v2 = none ∧ (ub_253_47 T  a1 a2  s1 P)))))
set_option maxRecDepth 20000 in
theorem lk_253_34 {d N0 : Nat}  {a1 : Int32} {a2 : Int32} {s : yS} {P : Option Value → yS → Prop}  (h : ub_253_34 (Par d)  a1 a2 s P) : Lb d N0 3 (none) xE_253 (xE_253.drop 34) [.ref 213, .int a1, .int a2, .null, .null, .null] [] s P := by
  unfold ub_253_34 at h
  refine Lb_w (lb_ld rfl rfl rfl ?_)
  refine Lb_w (lb_get rfl rfl ?_)
  change Lb _ _ _ _ _ _ _ [.ref 221] _ _
  refine Lb_w (lb_ld rfl rfl rfl ?_)
  refine Lb_w (lb_ial rfl rfl (fun hk => ?_))
  change Lb _ _ _ _ _ _ _ [.int (s.2.1 221 a1.toInt.toNat)] _ _
  replace h := h (kc_in (x := a1) rfl hk)
  refine Lb_w (lb_c [.int 3, .int (s.2.1 221 a1.toInt.toNat)] (xo_push (.int 3)) rfl rfl ?_)
  refine Lb_w (lb_brP rfl rfl ⟨fun hc => ?_, fun hc => ?_⟩)
  · replace h := h.1 ((i_eq (x := s.2.1 221 a1.toInt.toNat) (y := 3) rfl (show (3 : Int32).toInt = 3 by decide)).mp hc)
    exact lk_253_47  h
  · replace h := h.2 (fun q => hc ((i_eq (x := s.2.1 221 a1.toInt.toNat) (y := 3) rfl (show (3 : Int32).toInt = 3 by decide)).mpr q))
    refine Lb_w (lb_ld rfl rfl rfl ?_)
    refine Lb_w (lb_ld rfl rfl rfl ?_)
    refine Lb_w (lb_get rfl rfl ?_)
    change Lb _ _ _ _ _ _ _ [.ref 229, .ref 213] _ _
    refine Lb_w (lb_ld rfl rfl rfl ?_)
    refine Lb_w (lb_ial rfl rfl (fun hk => ?_))
    change Lb _ _ _ _ _ _ _ [.int (s.2.1 229 a1.toInt.toNat), .ref 213] _ _
    replace h := h (kc_in (x := a1) rfl hk)
    refine Lb_w (lb_ld rfl rfl rfl ?_)
    refine Lb_w (lb_call [.ref 213, .int (s.2.1 229 a1.toInt.toNat), .int a2] [] rfl rfl rfl (Par.imp h (fun v2 s1 h => ?_)))
    obtain ⟨rfl, h⟩ := h
    change Lb _ _ _ _ _ _ _ [] _ _
    exact lk_253_47  h
def ub_253_9 (T : Nat → List Value → yS → (Option Value → yS → Prop) → Prop)  (a1 : Int32) (a2 : Int32) (s : yS) (P : Option Value → yS → Prop) : Prop :=
  P none s
set_option maxRecDepth 20000 in
theorem lk_253_9 {d N0 : Nat}  {a1 : Int32} {a2 : Int32} {s : yS} {P : Option Value → yS → Prop}  (h : ub_253_9 (Par d)  a1 a2 s P) : Lb d N0 3 (none) xE_253 (xE_253.drop 9) [.ref 213, .int a1, .int a2, .null, .null, .null] [] s P := by
  unfold ub_253_9 at h
  exact Lb_w (lb_ret0 rfl h)
def ub_253_0 (T : Nat → List Value → yS → (Option Value → yS → Prop) → Prop)  (a1 : Int32) (a2 : Int32) (s : yS) (P : Option Value → yS → Prop) : Prop :=
  ((s.1 111).toInt = 0 → ub_253_9 T  a1 a2  s P) ∧ (¬ ((s.1 111).toInt = 0) → ((0 ≤ a1.toInt ∧ a1.toInt < 12006) → (¬ ((s.2.1 221 a1.toInt.toNat).toInt = 1) → ((0 ≤ a1.toInt ∧ a1.toInt < 12006) → (¬ ((s.2.1 221 a1.toInt.toNat).toInt = 4) → ((0 ≤ a1.toInt ∧ a1.toInt < 12006) → ((s.2.1 221 a1.toInt.toNat).toInt = 2 → ub_253_34 T  a1 a2  s P) ∧ (¬ ((s.2.1 221 a1.toInt.toNat).toInt = 2) → ((0 ≤ a1.toInt ∧ a1.toInt < 12006) → T 253 [.ref 213, .int (s.2.1 227 a1.toInt.toNat), .int a2] s (fun v2 s1 => v2 = none ∧ (ub_253_34 T  a1 a2  s1 P)))))) ∧ ((s.2.1 221 a1.toInt.toNat).toInt = 4 → T 255 [.ref 213, .int a1, .int a2] s (fun v4 s3 => v4 = none ∧ (P none s3))))) ∧ ((s.2.1 221 a1.toInt.toNat).toInt = 1 → ub_253_9 T  a1 a2  s P)))
set_option maxRecDepth 20000 in
theorem lk_253_0 {d N0 : Nat}  {a1 : Int32} {a2 : Int32} {s : yS} {P : Option Value → yS → Prop}  (h : ub_253_0 (Par d)  a1 a2 s P) : Lb d N0 3 (none) xE_253 (xE_253.drop 0) [.ref 213, .int a1, .int a2, .null, .null, .null] [] s P := by
  unfold ub_253_0 at h
  refine Lb_w (lb_ld rfl rfl rfl ?_)
  refine Lb_w (lb_get rfl rfl ?_)
  change Lb _ _ _ _ _ _ _ [.int (s.1 111)] _ _
  refine Lb_w (lb_brP rfl rfl ⟨fun hc => ?_, fun hc => ?_⟩)
  · replace h := h.1 ((i_eq (x := s.1 111) (y := 0) rfl (show (0 : Int32).toInt = 0 by decide)).mp hc)
    exact lk_253_9  h
  · replace h := h.2 (fun q => hc ((i_eq (x := s.1 111) (y := 0) rfl (show (0 : Int32).toInt = 0 by decide)).mpr q))
    refine Lb_w (lb_ld rfl rfl rfl ?_)
    refine Lb_w (lb_get rfl rfl ?_)
    change Lb _ _ _ _ _ _ _ [.ref 221] _ _
    refine Lb_w (lb_ld rfl rfl rfl ?_)
    refine Lb_w (lb_ial rfl rfl (fun hk => ?_))
    change Lb _ _ _ _ _ _ _ [.int (s.2.1 221 a1.toInt.toNat)] _ _
    replace h := h (kc_in (x := a1) rfl hk)
    refine Lb_w (lb_c [.int 1, .int (s.2.1 221 a1.toInt.toNat)] (xo_push (.int 1)) rfl rfl ?_)
    refine Lb_w (lb_brN rfl rfl ⟨fun hc => ?_, fun hc => ?_⟩)
    · replace h := h.1 (fun q => hc ((i_eq (x := s.2.1 221 a1.toInt.toNat) (y := 1) rfl (show (1 : Int32).toInt = 1 by decide)).mpr q))
      refine Lb_w (lb_ld rfl rfl rfl ?_)
      refine Lb_w (lb_get rfl rfl ?_)
      change Lb _ _ _ _ _ _ _ [.ref 221] _ _
      refine Lb_w (lb_ld rfl rfl rfl ?_)
      refine Lb_w (lb_ial rfl rfl (fun hk => ?_))
      change Lb _ _ _ _ _ _ _ [.int (s.2.1 221 a1.toInt.toNat)] _ _
      replace h := h (kc_in (x := a1) rfl hk)
      refine Lb_w (lb_c [.int 4, .int (s.2.1 221 a1.toInt.toNat)] (xo_push (.int 4)) rfl rfl ?_)
      refine Lb_w (lb_brN rfl rfl ⟨fun hc => ?_, fun hc => ?_⟩)
      · replace h := h.1 (fun q => hc ((i_eq (x := s.2.1 221 a1.toInt.toNat) (y := 4) rfl (show (4 : Int32).toInt = 4 by decide)).mpr q))
        refine Lb_w (lb_ld rfl rfl rfl ?_)
        refine Lb_w (lb_get rfl rfl ?_)
        change Lb _ _ _ _ _ _ _ [.ref 221] _ _
        refine Lb_w (lb_ld rfl rfl rfl ?_)
        refine Lb_w (lb_ial rfl rfl (fun hk => ?_))
        change Lb _ _ _ _ _ _ _ [.int (s.2.1 221 a1.toInt.toNat)] _ _
        replace h := h (kc_in (x := a1) rfl hk)
        refine Lb_w (lb_c [.int 2, .int (s.2.1 221 a1.toInt.toNat)] (xo_push (.int 2)) rfl rfl ?_)
        refine Lb_w (lb_brP rfl rfl ⟨fun hc => ?_, fun hc => ?_⟩)
        · replace h := h.1 ((i_eq (x := s.2.1 221 a1.toInt.toNat) (y := 2) rfl (show (2 : Int32).toInt = 2 by decide)).mp hc)
          exact lk_253_34  h
        · replace h := h.2 (fun q => hc ((i_eq (x := s.2.1 221 a1.toInt.toNat) (y := 2) rfl (show (2 : Int32).toInt = 2 by decide)).mpr q))
          refine Lb_w (lb_ld rfl rfl rfl ?_)
          refine Lb_w (lb_ld rfl rfl rfl ?_)
          refine Lb_w (lb_get rfl rfl ?_)
          change Lb _ _ _ _ _ _ _ [.ref 227, .ref 213] _ _
          refine Lb_w (lb_ld rfl rfl rfl ?_)
          refine Lb_w (lb_ial rfl rfl (fun hk => ?_))
          change Lb _ _ _ _ _ _ _ [.int (s.2.1 227 a1.toInt.toNat), .ref 213] _ _
          replace h := h (kc_in (x := a1) rfl hk)
          refine Lb_w (lb_ld rfl rfl rfl ?_)
          refine Lb_w (lb_call [.ref 213, .int (s.2.1 227 a1.toInt.toNat), .int a2] [] rfl rfl rfl (Par.imp h (fun v2 s1 h => ?_)))
          obtain ⟨rfl, h⟩ := h
          change Lb _ _ _ _ _ _ _ [] _ _
          exact lk_253_34  h
      · replace h := h.2 ((i_eq (x := s.2.1 221 a1.toInt.toNat) (y := 4) rfl (show (4 : Int32).toInt = 4 by decide)).mp hc)
        refine Lb_w (lb_ld rfl rfl rfl ?_)
        refine Lb_w (lb_ld rfl rfl rfl ?_)
        refine Lb_w (lb_ld rfl rfl rfl ?_)
        refine Lb_w (lb_call [.ref 213, .int a1, .int a2] [] rfl rfl rfl (Par.imp h (fun v4 s3 h => ?_)))
        obtain ⟨rfl, h⟩ := h
        change Lb _ _ _ _ _ _ _ [] _ _
        exact Lb_w (lb_ret0 rfl h)
    · replace h := h.2 ((i_eq (x := s.2.1 221 a1.toInt.toNat) (y := 1) rfl (show (1 : Int32).toInt = 1 by decide)).mp hc)
      exact lk_253_9  h
theorem pb_253 {d : Nat} {a1 : Int32} {a2 : Int32} {s : yS} {P : Option Value → yS → Prop} (h : ub_253_0 (Par d) a1 a2 s P) : Par (d + 1) 253 [.ref 213, .int a1, .int a2] s P := par_of (E := xE_253) (ml := 3) (ret := none) rfl (fun _ => lk_253_0 h)
/-! addParts -/
def ub_254_23 (T : Nat → List Value → yS → (Option Value → yS → Prop) → Prop)  (a1 : Int32) (a2 : Int32) (a3 : Int32) (s : yS) (P : Option Value → yS → Prop) : Prop :=
  P none s
set_option maxRecDepth 20000 in
theorem lk_254_23 {d N0 : Nat}  {a1 : Int32} {a2 : Int32} {a3 : Int32} {s : yS} {P : Option Value → yS → Prop}  (h : ub_254_23 (Par d)  a1 a2 a3 s P) : Lb d N0 5 (none) xE_254 (xE_254.drop 23) [.ref 213, .int a1, .int a2, .int a3, .null, .null, .null, .null] [] s P := by
  unfold ub_254_23 at h
  exact Lb_w (lb_ret0 rfl h)
def ub_254_2 (T : Nat → List Value → yS → (Option Value → yS → Prop) → Prop) (R2 : Int32 → Int32 → Int32 → yS → Prop) (a1 : Int32) (a2 : Int32) (a3 : Int32) (s : yS) (P : Option Value → yS → Prop) : Prop :=
  (a3.toInt < 0 → ub_254_23 T  a1 a2 a3  s P) ∧ (¬ (a3.toInt < 0) → ((s.1 111).toInt = 0 → ub_254_23 T  a1 a2 a3  s P) ∧ (¬ ((s.1 111).toInt = 0) → T 253 [.ref 213, .int a3, .int a2] s (fun v2 s1 => v2 = none ∧ (∀ s3, s3 = sf s1 64 (s.1 64) → ((0 ≤ a3.toInt ∧ a3.toInt < 12006) → R2 a1 a2 (s3.2.1 225 a3.toInt.toNat)  s3)))))
set_option maxRecDepth 20000 in
theorem lk_254_2 {d N0 : Nat} {R2 : Int32 → Int32 → Int32 → yS → Prop} {a1 : Int32} {a2 : Int32} {a3 : Int32} {s : yS} {P : Option Value → yS → Prop} (r2 : ∀ a1 a2 a3 s, R2 a1 a2 a3 s → Lb d N0 5 (none) xE_254 (xE_254.drop 2) [.ref 213, .int a1, .int a2, .int a3, .null, .null, .null, .null] [] s P) (h : ub_254_2 (Par d) R2 a1 a2 a3 s P) : Lb d (N0 + 1) 5 (none) xE_254 (xE_254.drop 2) [.ref 213, .int a1, .int a2, .int a3, .null, .null, .null, .null] [] s P := by
  unfold ub_254_2 at h
  refine lb_ld rfl rfl rfl ?_
  refine Lb_w (lb_brP rfl rfl ⟨fun hc => ?_, fun hc => ?_⟩)
  · replace h := h.1 ((i_lt (x := a3) (y := 0) rfl (show (0 : Int32).toInt = 0 by decide)).mp hc)
    exact lk_254_23  h
  · replace h := h.2 (fun q => hc ((i_lt (x := a3) (y := 0) rfl (show (0 : Int32).toInt = 0 by decide)).mpr q))
    refine Lb_w (lb_ld rfl rfl rfl ?_)
    refine Lb_w (lb_get rfl rfl ?_)
    change Lb _ _ _ _ _ _ _ [.int (s.1 111)] _ _
    refine Lb_w (lb_brP rfl rfl ⟨fun hc => ?_, fun hc => ?_⟩)
    · replace h := h.1 ((i_eq (x := s.1 111) (y := 0) rfl (show (0 : Int32).toInt = 0 by decide)).mp hc)
      exact lk_254_23  h
    · replace h := h.2 (fun q => hc ((i_eq (x := s.1 111) (y := 0) rfl (show (0 : Int32).toInt = 0 by decide)).mpr q))
      refine Lb_w (lb_ld rfl rfl rfl ?_)
      refine Lb_w (lb_get rfl rfl ?_)
      change Lb _ _ _ _ _ _ _ [.int (s.1 64)] _ _
      refine Lb_w (lb_st [.ref 213, .int a1, .int a2, .int a3, .int (s.1 64), .null, .null, .null] rfl rfl rfl ?_)
      refine Lb_w (lb_ld rfl rfl rfl ?_)
      refine Lb_w (lb_ld rfl rfl rfl ?_)
      refine Lb_w (lb_ld rfl rfl rfl ?_)
      refine Lb_w (lb_call [.ref 213, .int a3, .int a2] [] rfl rfl rfl (Par.imp h (fun v2 s1 h => ?_)))
      obtain ⟨rfl, h⟩ := h
      change Lb _ _ _ _ _ _ _ [] _ _
      refine Lb_w (lb_ld rfl rfl rfl ?_)
      refine Lb_w (lb_ld rfl rfl rfl ?_)
      refine Lb_w (lb_put rfl rfl (fun hk => ?_))
      replace h := h _ rfl
      refine Lb_w (lb_ld rfl rfl rfl ?_)
      refine Lb_w (lb_get rfl rfl ?_)
      change Lb _ _ _ _ _ _ _ [.ref 225] _ _
      refine Lb_w (lb_ld rfl rfl rfl ?_)
      refine Lb_w (lb_ial rfl rfl (fun hk => ?_))
      change Lb _ _ _ _ _ _ _ [.int ((sf s1 64 (s.1 64)).2.1 225 a3.toInt.toNat)] _ _
      replace h := h (kc_in (x := a3) rfl hk)
      refine Lb_w (lb_st [.ref 213, .int a1, .int a2, .int ((sf s1 64 (s.1 64)).2.1 225 a3.toInt.toNat), .int (s.1 64), .null, .null, .null] rfl rfl rfl ?_)
      refine Lb_w (lb_go rfl ?_)
      refine lb_fg 4 ?_
      exact r2 a1 a2 ((sf s1 64 (s.1 64)).2.1 225 a3.toInt.toNat)  (sf s1 64 (s.1 64)) h
def ubl_254_2 (T : Nat → List Value → yS → (Option Value → yS → Prop) → Prop)  (a1 : Int32) (a2 : Int32) (a3 : Int32) (s : yS) (P : Option Value → yS → Prop) : Prop :=
  ∃ (I : Int32 → Int32 → Int32 → yS → Prop), I a1 a2 a3 s ∧ ∀ (a1 : Int32) (a2 : Int32) (a3 : Int32) (s : yS), I a1 a2 a3 s → ub_254_2 T I a1 a2 a3 s P
theorem lkl_254_2 {d N0 : Nat}  {a1 : Int32} {a2 : Int32} {a3 : Int32} {s : yS} {P : Option Value → yS → Prop}  (h : ubl_254_2 (Par d)  a1 a2 a3 s P) : Lb d N0 5 (none) xE_254 (xE_254.drop 2) [.ref 213, .int a1, .int a2, .int a3, .null, .null, .null, .null] [] s P := by
  obtain ⟨I, h0, h1⟩ := h
  have key : ∀ (m : Nat), m ≤ N0 → ∀ (a1 : Int32) (a2 : Int32) (a3 : Int32) (s : yS), I a1 a2 a3 s → Lb d m 5 (none) xE_254 (xE_254.drop 2) [.ref 213, .int a1, .int a2, .int a3, .null, .null, .null, .null] [] s P := by
    intro m
    induction m with
    | zero => exact fun _ a1 a2 a3 s _ => Lb_0
    | succ m ih =>
      intro hm
      replace hm : m ≤ N0 := Nat.le_of_succ_le hm
      replace ih := ih hm
      intro a1 a2 a3 s hI
      exact lk_254_2 ih (h1 a1 a2 a3 s hI)
  exact key N0 (Nat.le_refl _) a1 a2 a3 s h0
def ub_254_0 (T : Nat → List Value → yS → (Option Value → yS → Prop) → Prop)  (a1 : Int32) (a2 : Int32) (s : yS) (P : Option Value → yS → Prop) : Prop :=
  ubl_254_2 T  a1 a2 a1  s P
set_option maxRecDepth 20000 in
theorem lk_254_0 {d N0 : Nat}  {a1 : Int32} {a2 : Int32} {s : yS} {P : Option Value → yS → Prop}  (h : ub_254_0 (Par d)  a1 a2 s P) : Lb d N0 5 (none) xE_254 (xE_254.drop 0) [.ref 213, .int a1, .int a2, .null, .null, .null, .null, .null] [] s P := by
  unfold ub_254_0 at h
  refine Lb_w (lb_ld rfl rfl rfl ?_)
  refine Lb_w (lb_st [.ref 213, .int a1, .int a2, .int a1, .null, .null, .null, .null] rfl rfl rfl ?_)
  exact lkl_254_2  h
theorem pb_254 {d : Nat} {a1 : Int32} {a2 : Int32} {s : yS} {P : Option Value → yS → Prop} (h : ub_254_0 (Par d) a1 a2 s P) : Par (d + 1) 254 [.ref 213, .int a1, .int a2] s P := par_of (E := xE_254) (ml := 5) (ret := none) rfl (fun _ => lk_254_0 h)
/-! addMethod -/
def ub_255_120 (T : Nat → List Value → yS → (Option Value → yS → Prop) → Prop)  (a1 : Int32) (a2 : Int32) (a3 : Int32) (a4 : Int32) (a5 : Int32) (a6 : Int32) (s : yS) (P : Option Value → yS → Prop) : Prop :=
  ∀ s1, s1 = sf s 64 a3 → ((0 ≤ a1.toInt ∧ a1.toInt < 12006) → T 254 [.ref 213, .int (s1.2.1 224 a1.toInt.toNat), .int a2] s1 (fun v3 s2 => v3 = none ∧ (P none s2)))
set_option maxRecDepth 20000 in
theorem lk_255_120 {d N0 : Nat}  {a1 : Int32} {a2 : Int32} {a3 : Int32} {a4 : Int32} {a5 : Int32} {a6 : Int32} {s : yS} {P : Option Value → yS → Prop}  (h : ub_255_120 (Par d)  a1 a2 a3 a4 a5 a6 s P) : Lb d N0 7 (none) xE_255 (xE_255.drop 120) [.ref 213, .int a1, .int a2, .int a3, .int a4, .int a5, .int a6, .null, .null, .null] [] s P := by
  unfold ub_255_120 at h
  refine Lb_w (lb_ld rfl rfl rfl ?_)
  refine Lb_w (lb_ld rfl rfl rfl ?_)
  refine Lb_w (lb_put rfl rfl (fun hk => ?_))
  replace h := h _ rfl
  refine Lb_w (lb_ld rfl rfl rfl ?_)
  refine Lb_w (lb_ld rfl rfl rfl ?_)
  refine Lb_w (lb_get rfl rfl ?_)
  change Lb _ _ _ _ _ _ _ [.ref 224, .ref 213] _ _
  refine Lb_w (lb_ld rfl rfl rfl ?_)
  refine Lb_w (lb_ial rfl rfl (fun hk => ?_))
  change Lb _ _ _ _ _ _ _ [.int ((sf s 64 a3).2.1 224 a1.toInt.toNat), .ref 213] _ _
  replace h := h (kc_in (x := a1) rfl hk)
  refine Lb_w (lb_ld rfl rfl rfl ?_)
  refine Lb_w (lb_call [.ref 213, .int ((sf s 64 a3).2.1 224 a1.toInt.toNat), .int a2] [] rfl rfl rfl (Par.imp h (fun v3 s2 h => ?_)))
  obtain ⟨rfl, h⟩ := h
  change Lb _ _ _ _ _ _ _ [] _ _
  exact Lb_w (lb_ret0 rfl h)
def ub_255_105 (T : Nat → List Value → yS → (Option Value → yS → Prop) → Prop) (R105 : Int32 → Int32 → Int32 → Int32 → Int32 → Int32 → yS → Prop) (a1 : Int32) (a2 : Int32) (a3 : Int32) (a4 : Int32) (a5 : Int32) (a6 : Int32) (s : yS) (P : Option Value → yS → Prop) : Prop :=
  (a6.toInt < 0 → ub_255_120 T  a1 a2 a3 a4 a5 a6  s P) ∧ (¬ (a6.toInt < 0) → ((s.1 111).toInt = 0 → ub_255_120 T  a1 a2 a3 a4 a5 a6  s P) ∧ (¬ ((s.1 111).toInt = 0) → T 252 [.ref 213, .int a6, .int a2] s (fun v2 s1 => v2 = none ∧ (((0 ≤ a6.toInt ∧ a6.toInt < 12006) → R105 a1 a2 a3 a4 a5 (s1.2.1 225 a6.toInt.toNat)  s1)))))
set_option maxRecDepth 20000 in
theorem lk_255_105 {d N0 : Nat} {R105 : Int32 → Int32 → Int32 → Int32 → Int32 → Int32 → yS → Prop} {a1 : Int32} {a2 : Int32} {a3 : Int32} {a4 : Int32} {a5 : Int32} {a6 : Int32} {s : yS} {P : Option Value → yS → Prop} (r105 : ∀ a1 a2 a3 a4 a5 a6 s, R105 a1 a2 a3 a4 a5 a6 s → Lb d N0 7 (none) xE_255 (xE_255.drop 105) [.ref 213, .int a1, .int a2, .int a3, .int a4, .int a5, .int a6, .null, .null, .null] [] s P) (h : ub_255_105 (Par d) R105 a1 a2 a3 a4 a5 a6 s P) : Lb d (N0 + 1) 7 (none) xE_255 (xE_255.drop 105) [.ref 213, .int a1, .int a2, .int a3, .int a4, .int a5, .int a6, .null, .null, .null] [] s P := by
  unfold ub_255_105 at h
  refine lb_ld rfl rfl rfl ?_
  refine Lb_w (lb_brP rfl rfl ⟨fun hc => ?_, fun hc => ?_⟩)
  · replace h := h.1 ((i_lt (x := a6) (y := 0) rfl (show (0 : Int32).toInt = 0 by decide)).mp hc)
    exact lk_255_120  h
  · replace h := h.2 (fun q => hc ((i_lt (x := a6) (y := 0) rfl (show (0 : Int32).toInt = 0 by decide)).mpr q))
    refine Lb_w (lb_ld rfl rfl rfl ?_)
    refine Lb_w (lb_get rfl rfl ?_)
    change Lb _ _ _ _ _ _ _ [.int (s.1 111)] _ _
    refine Lb_w (lb_brP rfl rfl ⟨fun hc => ?_, fun hc => ?_⟩)
    · replace h := h.1 ((i_eq (x := s.1 111) (y := 0) rfl (show (0 : Int32).toInt = 0 by decide)).mp hc)
      exact lk_255_120  h
    · replace h := h.2 (fun q => hc ((i_eq (x := s.1 111) (y := 0) rfl (show (0 : Int32).toInt = 0 by decide)).mpr q))
      refine Lb_w (lb_ld rfl rfl rfl ?_)
      refine Lb_w (lb_ld rfl rfl rfl ?_)
      refine Lb_w (lb_ld rfl rfl rfl ?_)
      refine Lb_w (lb_call [.ref 213, .int a6, .int a2] [] rfl rfl rfl (Par.imp h (fun v2 s1 h => ?_)))
      obtain ⟨rfl, h⟩ := h
      change Lb _ _ _ _ _ _ _ [] _ _
      refine Lb_w (lb_ld rfl rfl rfl ?_)
      refine Lb_w (lb_get rfl rfl ?_)
      change Lb _ _ _ _ _ _ _ [.ref 225] _ _
      refine Lb_w (lb_ld rfl rfl rfl ?_)
      refine Lb_w (lb_ial rfl rfl (fun hk => ?_))
      change Lb _ _ _ _ _ _ _ [.int (s1.2.1 225 a6.toInt.toNat)] _ _
      replace h := h (kc_in (x := a6) rfl hk)
      refine Lb_w (lb_st [.ref 213, .int a1, .int a2, .int a3, .int a4, .int a5, .int (s1.2.1 225 a6.toInt.toNat), .null, .null, .null] rfl rfl rfl ?_)
      refine Lb_w (lb_go rfl ?_)
      exact r105 a1 a2 a3 a4 a5 (s1.2.1 225 a6.toInt.toNat)  s1 h
def ubl_255_105 (T : Nat → List Value → yS → (Option Value → yS → Prop) → Prop)  (a1 : Int32) (a2 : Int32) (a3 : Int32) (a4 : Int32) (a5 : Int32) (a6 : Int32) (s : yS) (P : Option Value → yS → Prop) : Prop :=
  ∃ (I : Int32 → Int32 → Int32 → Int32 → Int32 → Int32 → yS → Prop), I a1 a2 a3 a4 a5 a6 s ∧ ∀ (a1 : Int32) (a2 : Int32) (a3 : Int32) (a4 : Int32) (a5 : Int32) (a6 : Int32) (s : yS), I a1 a2 a3 a4 a5 a6 s → ub_255_105 T I a1 a2 a3 a4 a5 a6 s P
theorem lkl_255_105 {d N0 : Nat}  {a1 : Int32} {a2 : Int32} {a3 : Int32} {a4 : Int32} {a5 : Int32} {a6 : Int32} {s : yS} {P : Option Value → yS → Prop}  (h : ubl_255_105 (Par d)  a1 a2 a3 a4 a5 a6 s P) : Lb d N0 7 (none) xE_255 (xE_255.drop 105) [.ref 213, .int a1, .int a2, .int a3, .int a4, .int a5, .int a6, .null, .null, .null] [] s P := by
  obtain ⟨I, h0, h1⟩ := h
  have key : ∀ (m : Nat), m ≤ N0 → ∀ (a1 : Int32) (a2 : Int32) (a3 : Int32) (a4 : Int32) (a5 : Int32) (a6 : Int32) (s : yS), I a1 a2 a3 a4 a5 a6 s → Lb d m 7 (none) xE_255 (xE_255.drop 105) [.ref 213, .int a1, .int a2, .int a3, .int a4, .int a5, .int a6, .null, .null, .null] [] s P := by
    intro m
    induction m with
    | zero => exact fun _ a1 a2 a3 a4 a5 a6 s _ => Lb_0
    | succ m ih =>
      intro hm
      replace hm : m ≤ N0 := Nat.le_of_succ_le hm
      replace ih := ih hm
      intro a1 a2 a3 a4 a5 a6 s hI
      exact lk_255_105 ih (h1 a1 a2 a3 a4 a5 a6 s hI)
  exact key N0 (Nat.le_refl _) a1 a2 a3 a4 a5 a6 s h0
def ub_255_100 (T : Nat → List Value → yS → (Option Value → yS → Prop) → Prop)  (a1 : Int32) (a2 : Int32) (a3 : Int32) (a4 : Int32) (a5 : Int32) (a6 : Int32) (s : yS) (P : Option Value → yS → Prop) : Prop :=
  ((0 ≤ a1.toInt ∧ a1.toInt < 12006) → ubl_255_105 T  a1 a2 a3 a4 a5 (s.2.1 229 a1.toInt.toNat)  s P)
set_option maxRecDepth 20000 in
theorem lk_255_100 {d N0 : Nat}  {a1 : Int32} {a2 : Int32} {a3 : Int32} {a4 : Int32} {a5 : Int32} {a6 : Int32} {s : yS} {P : Option Value → yS → Prop}  (h : ub_255_100 (Par d)  a1 a2 a3 a4 a5 a6 s P) : Lb d N0 7 (none) xE_255 (xE_255.drop 100) [.ref 213, .int a1, .int a2, .int a3, .int a4, .int a5, .int a6, .null, .null, .null] [] s P := by
  unfold ub_255_100 at h
  refine Lb_w (lb_ld rfl rfl rfl ?_)
  refine Lb_w (lb_get rfl rfl ?_)
  change Lb _ _ _ _ _ _ _ [.ref 229] _ _
  refine Lb_w (lb_ld rfl rfl rfl ?_)
  refine Lb_w (lb_ial rfl rfl (fun hk => ?_))
  change Lb _ _ _ _ _ _ _ [.int (s.2.1 229 a1.toInt.toNat)] _ _
  replace h := h (kc_in (x := a1) rfl hk)
  refine Lb_w (lb_st [.ref 213, .int a1, .int a2, .int a3, .int a4, .int a5, .int (s.2.1 229 a1.toInt.toNat), .null, .null, .null] rfl rfl rfl ?_)
  exact lkl_255_105  h
def ub_255_81 (T : Nat → List Value → yS → (Option Value → yS → Prop) → Prop)  (a1 : Int32) (a2 : Int32) (a3 : Int32) (a4 : Int32) (a5 : Int32) (a6 : Int32) (s : yS) (P : Option Value → yS → Prop) : Prop :=
  ((s.1 111).toInt = 0 → ub_255_100 T  a1 a2 a3 a4 a5 a6  s P) ∧ (¬ ((s.1 111).toInt = 0) → ((0 ≤ a1.toInt ∧ a1.toInt < 12006) → ((0 ≤ (s.2.1 222 a1.toInt.toNat).toInt ∧ (s.2.1 222 a1.toInt.toNat).toInt < 12006) → ((-2147483648 ≤ (s.1 64).toInt - a4.toInt ∧ (s.1 64).toInt - a4.toInt ≤ 2147483647) → ∀ x1 : Int32, x1.toInt = (s.1 64).toInt - a4.toInt → T 250 [.ref 213, .int 1, .int (s.2.1 217 (s.2.1 222 a1.toInt.toNat).toInt.toNat), .int a5, .int a4, .int x1] s (fun v3 s2 => v3 = none ∧ (ub_255_100 T  a1 a2 a3 a4 a5 a6  s2 P))))))
set_option maxRecDepth 20000 in
theorem lk_255_81 {d N0 : Nat}  {a1 : Int32} {a2 : Int32} {a3 : Int32} {a4 : Int32} {a5 : Int32} {a6 : Int32} {s : yS} {P : Option Value → yS → Prop}  (h : ub_255_81 (Par d)  a1 a2 a3 a4 a5 a6 s P) : Lb d N0 7 (none) xE_255 (xE_255.drop 81) [.ref 213, .int a1, .int a2, .int a3, .int a4, .int a5, .int a6, .null, .null, .null] [] s P := by
  unfold ub_255_81 at h
  refine Lb_w (lb_ld rfl rfl rfl ?_)
  refine Lb_w (lb_get rfl rfl ?_)
  change Lb _ _ _ _ _ _ _ [.int (s.1 111)] _ _
  refine Lb_w (lb_brP rfl rfl ⟨fun hc => ?_, fun hc => ?_⟩)
  · replace h := h.1 ((i_eq (x := s.1 111) (y := 0) rfl (show (0 : Int32).toInt = 0 by decide)).mp hc)
    exact lk_255_100  h
  · replace h := h.2 (fun q => hc ((i_eq (x := s.1 111) (y := 0) rfl (show (0 : Int32).toInt = 0 by decide)).mpr q))
    refine Lb_w (lb_ld rfl rfl rfl ?_)
    refine Lb_w (lb_c [.int 1, .ref 213] (xo_push (.int 1)) rfl rfl ?_)
    refine Lb_w (lb_ld rfl rfl rfl ?_)
    refine Lb_w (lb_get rfl rfl ?_)
    change Lb _ _ _ _ _ _ _ [.ref 217, .int 1, .ref 213] _ _
    refine Lb_w (lb_ld rfl rfl rfl ?_)
    refine Lb_w (lb_get rfl rfl ?_)
    change Lb _ _ _ _ _ _ _ [.ref 222, .ref 217, .int 1, .ref 213] _ _
    refine Lb_w (lb_ld rfl rfl rfl ?_)
    refine Lb_w (lb_ial rfl rfl (fun hk => ?_))
    change Lb _ _ _ _ _ _ _ [.int (s.2.1 222 a1.toInt.toNat), .ref 217, .int 1, .ref 213] _ _
    replace h := h (kc_in (x := a1) rfl hk)
    refine Lb_w (lb_ial rfl rfl (fun hk => ?_))
    change Lb _ _ _ _ _ _ _ [.int (s.2.1 217 (s.2.1 222 a1.toInt.toNat).toInt.toNat), .int 1, .ref 213] _ _
    replace h := h (kc_in (x := s.2.1 222 a1.toInt.toNat) rfl hk)
    refine Lb_w (lb_ld rfl rfl rfl ?_)
    refine Lb_w (lb_ld rfl rfl rfl ?_)
    refine Lb_w (lb_ld rfl rfl rfl ?_)
    refine Lb_w (lb_get rfl rfl ?_)
    change Lb _ _ _ _ _ _ _ [.int (s.1 64), .int a4, .int a5, .int (s.2.1 217 (s.2.1 222 a1.toInt.toNat).toInt.toNat), .int 1, .ref 213] _ _
    refine Lb_w (lb_ld rfl rfl rfl ?_)
    refine Lb_w (lb_ca [.int ((s.1 64) - a4), .int a4, .int a5, .int (s.2.1 217 (s.2.1 222 a1.toInt.toNat).toInt.toNat), .int 1, .ref 213] xo_isub rfl rfl (fun _ hk => ?_))
    replace hk := kc_sub (x := s.1 64) (y := a4) rfl rfl hk
    replace h := h hk _ (i_sub (x := s.1 64) (y := a4) rfl rfl hk)
    refine Lb_w (lb_call [.ref 213, .int 1, .int (s.2.1 217 (s.2.1 222 a1.toInt.toNat).toInt.toNat), .int a5, .int a4, .int ((s.1 64) - a4)] [] rfl rfl rfl (Par.imp h (fun v3 s2 h => ?_)))
    obtain ⟨rfl, h⟩ := h
    change Lb _ _ _ _ _ _ _ [] _ _
    exact lk_255_100  h
def ub_255_67 (T : Nat → List Value → yS → (Option Value → yS → Prop) → Prop) (R67 : Int32 → Int32 → Int32 → Int32 → Int32 → Int32 → yS → Prop) (a1 : Int32) (a2 : Int32) (a3 : Int32) (a4 : Int32) (a5 : Int32) (a6 : Int32) (s : yS) (P : Option Value → yS → Prop) : Prop :=
  (a6.toInt < 0 → ub_255_81 T  a1 a2 a3 a4 a5 a6  s P) ∧ (¬ (a6.toInt < 0) → T 251 [.ref 213, .int a6, .int a2] s (fun v2 s1 => ∃ x3, v2 = some (.int x3) ∧ ((x3.toInt = 0 → ub_255_81 T  a1 a2 a3 a4 a5 a6  s1 P) ∧ (¬ (x3.toInt = 0) → ((-2147483648 ≤ a5.toInt + 1 ∧ a5.toInt + 1 ≤ 2147483647) → ∀ x4 : Int32, x4.toInt = a5.toInt + 1 → ((0 ≤ a6.toInt ∧ a6.toInt < 12006) → R67 a1 a2 a3 a4 x4 (s1.2.1 225 a6.toInt.toNat)  s1))))))
set_option maxRecDepth 20000 in
theorem lk_255_67 {d N0 : Nat} {R67 : Int32 → Int32 → Int32 → Int32 → Int32 → Int32 → yS → Prop} {a1 : Int32} {a2 : Int32} {a3 : Int32} {a4 : Int32} {a5 : Int32} {a6 : Int32} {s : yS} {P : Option Value → yS → Prop} (r67 : ∀ a1 a2 a3 a4 a5 a6 s, R67 a1 a2 a3 a4 a5 a6 s → Lb d N0 7 (none) xE_255 (xE_255.drop 67) [.ref 213, .int a1, .int a2, .int a3, .int a4, .int a5, .int a6, .null, .null, .null] [] s P) (h : ub_255_67 (Par d) R67 a1 a2 a3 a4 a5 a6 s P) : Lb d (N0 + 1) 7 (none) xE_255 (xE_255.drop 67) [.ref 213, .int a1, .int a2, .int a3, .int a4, .int a5, .int a6, .null, .null, .null] [] s P := by
  unfold ub_255_67 at h
  refine lb_ld rfl rfl rfl ?_
  refine Lb_w (lb_brP rfl rfl ⟨fun hc => ?_, fun hc => ?_⟩)
  · replace h := h.1 ((i_lt (x := a6) (y := 0) rfl (show (0 : Int32).toInt = 0 by decide)).mp hc)
    exact lk_255_81  h
  · replace h := h.2 (fun q => hc ((i_lt (x := a6) (y := 0) rfl (show (0 : Int32).toInt = 0 by decide)).mpr q))
    refine Lb_w (lb_ld rfl rfl rfl ?_)
    refine Lb_w (lb_ld rfl rfl rfl ?_)
    refine Lb_w (lb_ld rfl rfl rfl ?_)
    refine Lb_w (lb_call [.ref 213, .int a6, .int a2] [] rfl rfl rfl (Par.imp h (fun v2 s1 h => ?_)))
    obtain ⟨x3, rfl, h⟩ := h
    change Lb _ _ _ _ _ _ _ [.int x3] _ _
    refine Lb_w (lb_brP rfl rfl ⟨fun hc => ?_, fun hc => ?_⟩)
    · replace h := h.1 ((i_eq (x := x3) (y := 0) rfl (show (0 : Int32).toInt = 0 by decide)).mp hc)
      exact lk_255_81  h
    · replace h := h.2 (fun q => hc ((i_eq (x := x3) (y := 0) rfl (show (0 : Int32).toInt = 0 by decide)).mpr q))
      refine Lb_w (lb_inc [.ref 213, .int a1, .int a2, .int a3, .int a4, .int (a5 + 1), .int a6, .null, .null, .null] rfl rfl rfl rfl (fun hk => ?_))
      replace hk := kc_inc (x := a5) (n := 1) rfl hk
      replace h := h hk _ (i_add (x := a5) (y := 1) rfl (show (1 : Int32).toInt = 1 by decide) hk)
      refine Lb_w (lb_ld rfl rfl rfl ?_)
      refine Lb_w (lb_get rfl rfl ?_)
      change Lb _ _ _ _ _ _ _ [.ref 225] _ _
      refine Lb_w (lb_ld rfl rfl rfl ?_)
      refine Lb_w (lb_ial rfl rfl (fun hk => ?_))
      change Lb _ _ _ _ _ _ _ [.int (s1.2.1 225 a6.toInt.toNat)] _ _
      replace h := h (kc_in (x := a6) rfl hk)
      refine Lb_w (lb_st [.ref 213, .int a1, .int a2, .int a3, .int a4, .int (a5 + 1), .int (s1.2.1 225 a6.toInt.toNat), .null, .null, .null] rfl rfl rfl ?_)
      refine Lb_w (lb_go rfl ?_)
      exact r67 a1 a2 a3 a4 (a5 + 1) (s1.2.1 225 a6.toInt.toNat)  s1 h
def ubl_255_67 (T : Nat → List Value → yS → (Option Value → yS → Prop) → Prop)  (a1 : Int32) (a2 : Int32) (a3 : Int32) (a4 : Int32) (a5 : Int32) (a6 : Int32) (s : yS) (P : Option Value → yS → Prop) : Prop :=
  ∃ (I : Int32 → Int32 → Int32 → Int32 → Int32 → Int32 → yS → Prop), I a1 a2 a3 a4 a5 a6 s ∧ ∀ (a1 : Int32) (a2 : Int32) (a3 : Int32) (a4 : Int32) (a5 : Int32) (a6 : Int32) (s : yS), I a1 a2 a3 a4 a5 a6 s → ub_255_67 T I a1 a2 a3 a4 a5 a6 s P
theorem lkl_255_67 {d N0 : Nat}  {a1 : Int32} {a2 : Int32} {a3 : Int32} {a4 : Int32} {a5 : Int32} {a6 : Int32} {s : yS} {P : Option Value → yS → Prop}  (h : ubl_255_67 (Par d)  a1 a2 a3 a4 a5 a6 s P) : Lb d N0 7 (none) xE_255 (xE_255.drop 67) [.ref 213, .int a1, .int a2, .int a3, .int a4, .int a5, .int a6, .null, .null, .null] [] s P := by
  obtain ⟨I, h0, h1⟩ := h
  have key : ∀ (m : Nat), m ≤ N0 → ∀ (a1 : Int32) (a2 : Int32) (a3 : Int32) (a4 : Int32) (a5 : Int32) (a6 : Int32) (s : yS), I a1 a2 a3 a4 a5 a6 s → Lb d m 7 (none) xE_255 (xE_255.drop 67) [.ref 213, .int a1, .int a2, .int a3, .int a4, .int a5, .int a6, .null, .null, .null] [] s P := by
    intro m
    induction m with
    | zero => exact fun _ a1 a2 a3 a4 a5 a6 s _ => Lb_0
    | succ m ih =>
      intro hm
      replace hm : m ≤ N0 := Nat.le_of_succ_le hm
      replace ih := ih hm
      intro a1 a2 a3 a4 a5 a6 s hI
      exact lk_255_67 ih (h1 a1 a2 a3 a4 a5 a6 s hI)
  exact key N0 (Nat.le_refl _) a1 a2 a3 a4 a5 a6 s h0
def ub_255_59 (T : Nat → List Value → yS → (Option Value → yS → Prop) → Prop)  (a1 : Int32) (a2 : Int32) (a3 : Int32) (a4 : Int32) (t1 : Int32) (s : yS) (P : Option Value → yS → Prop) : Prop :=
  ((t1.toInt = 0 ∨ t1.toInt = 1) → ∀ s1, s1 = sf s 111 t1 → ((0 ≤ a1.toInt ∧ a1.toInt < 12006) → ubl_255_67 T  a1 a2 a3 a4 1 (s1.2.1 229 a1.toInt.toNat)  s1 P))
set_option maxRecDepth 20000 in
theorem lk_255_59 {d N0 : Nat}  {a1 : Int32} {a2 : Int32} {a3 : Int32} {a4 : Int32} {t1 : Int32} {s : yS} {P : Option Value → yS → Prop}  (h : ub_255_59 (Par d)  a1 a2 a3 a4 t1 s P) : Lb d N0 7 (none) xE_255 (xE_255.drop 59) [.ref 213, .int a1, .int a2, .int a3, .int a4, .null, .null, .null, .null, .null] [.int t1, .ref 213] s P := by
  unfold ub_255_59 at h
  refine Lb_w (lb_put rfl rfl (fun hk => ?_))
  replace h := h (kc_z (x := t1) rfl hk)
  replace h := h _ rfl
  refine Lb_w (lb_c [.int 1] (xo_push (.int 1)) rfl rfl ?_)
  refine Lb_w (lb_st [.ref 213, .int a1, .int a2, .int a3, .int a4, .int 1, .null, .null, .null, .null] rfl rfl rfl ?_)
  refine Lb_w (lb_ld rfl rfl rfl ?_)
  refine Lb_w (lb_get rfl rfl ?_)
  change Lb _ _ _ _ _ _ _ [.ref 229] _ _
  refine Lb_w (lb_ld rfl rfl rfl ?_)
  refine Lb_w (lb_ial rfl rfl (fun hk => ?_))
  change Lb _ _ _ _ _ _ _ [.int ((sf s 111 t1).2.1 229 a1.toInt.toNat)] _ _
  replace h := h (kc_in (x := a1) rfl hk)
  refine Lb_w (lb_st [.ref 213, .int a1, .int a2, .int a3, .int a4, .int 1, .int ((sf s 111 t1).2.1 229 a1.toInt.toNat), .null, .null, .null] rfl rfl rfl ?_)
  exact lkl_255_67  h
def ub_255_58 (T : Nat → List Value → yS → (Option Value → yS → Prop) → Prop)  (a1 : Int32) (a2 : Int32) (a3 : Int32) (a4 : Int32) (s : yS) (P : Option Value → yS → Prop) : Prop :=
  ub_255_59 T  a1 a2 a3 a4 0 s P
set_option maxRecDepth 20000 in
theorem lk_255_58 {d N0 : Nat}  {a1 : Int32} {a2 : Int32} {a3 : Int32} {a4 : Int32} {s : yS} {P : Option Value → yS → Prop}  (h : ub_255_58 (Par d)  a1 a2 a3 a4 s P) : Lb d N0 7 (none) xE_255 (xE_255.drop 58) [.ref 213, .int a1, .int a2, .int a3, .int a4, .null, .null, .null, .null, .null] [.ref 213] s P := by
  unfold ub_255_58 at h
  refine Lb_w (lb_c [.int 0, .ref 213] (xo_push (.int 0)) rfl rfl ?_)
  exact lk_255_59  h
def ub_255_12 (T : Nat → List Value → yS → (Option Value → yS → Prop) → Prop) (R12 : Int32 → Int32 → Int32 → Int32 → yS → Prop) (a1 : Int32) (a2 : Int32) (a3 : Int32) (a4 : Int32) (s : yS) (P : Option Value → yS → Prop) : Prop :=
  ((0 ≤ a1.toInt ∧ a1.toInt < 12006) → ((s.2.1 272 a1.toInt.toNat).toInt ≤ a4.toInt → ((s.1 111).toInt = 0 → ub_255_58 T  a1 a2 a3 (s.1 64)  s P) ∧ (¬ ((s.1 111).toInt = 0) → ((0 ≤ a1.toInt ∧ a1.toInt < 12006) → T 191 [.ref 213, .int a3, .int (s.2.1 272 a1.toInt.toNat), .int a2] s (fun v2 s1 => ∃ x3, v2 = some (.int x3) ∧ ((x3.toInt = 0 → ub_255_58 T  a1 a2 a3 (s.1 64)  s1 P) ∧ (¬ (x3.toInt = 0) → ub_255_59 T  a1 a2 a3 (s.1 64) 1 s1 P)))))) ∧ (¬ ((s.2.1 272 a1.toInt.toNat).toInt ≤ a4.toInt) → ((0 ≤ a1.toInt ∧ a1.toInt < 12006) → ((-2147483648 ≤ (s.2.1 271 a1.toInt.toNat).toInt + a4.toInt ∧ (s.2.1 271 a1.toInt.toNat).toInt + a4.toInt ≤ 2147483647) → ∀ x4 : Int32, x4.toInt = (s.2.1 271 a1.toInt.toNat).toInt + a4.toInt → ((0 ≤ x4.toInt ∧ x4.toInt < 120000) → ((0 ≤ (s.1 64).toInt ∧ (s.1 64).toInt < 200000) → ∀ s5, s5 = sa s 264 (s.1 64).toInt.toNat (s.2.1 270 x4.toInt.toNat) → ((-2147483648 ≤ (s5.1 64).toInt + 1 ∧ (s5.1 64).toInt + 1 ≤ 2147483647) → ∀ x6 : Int32, x6.toInt = (s5.1 64).toInt + 1 → ∀ s7, s7 = sf s5 64 x6 → ((-2147483648 ≤ a4.toInt + 1 ∧ a4.toInt + 1 ≤ 2147483647) → ∀ x8 : Int32, x8.toInt = a4.toInt + 1 → R12 a1 a2 a3 x8  s7))))))))
set_option maxRecDepth 20000 in
theorem lk_255_12 {d N0 : Nat} {R12 : Int32 → Int32 → Int32 → Int32 → yS → Prop} {a1 : Int32} {a2 : Int32} {a3 : Int32} {a4 : Int32} {s : yS} {P : Option Value → yS → Prop} (r12 : ∀ a1 a2 a3 a4 s, R12 a1 a2 a3 a4 s → Lb d N0 7 (none) xE_255 (xE_255.drop 12) [.ref 213, .int a1, .int a2, .int a3, .int a4, .null, .null, .null, .null, .null] [] s P) (h : ub_255_12 (Par d) R12 a1 a2 a3 a4 s P) : Lb d (N0 + 1) 7 (none) xE_255 (xE_255.drop 12) [.ref 213, .int a1, .int a2, .int a3, .int a4, .null, .null, .null, .null, .null] [] s P := by
  unfold ub_255_12 at h
  refine lb_ld rfl rfl rfl ?_
  refine Lb_w (lb_ld rfl rfl rfl ?_)
  refine Lb_w (lb_get rfl rfl ?_)
  change Lb _ _ _ _ _ _ _ [.ref 272, .int a4] _ _
  refine Lb_w (lb_ld rfl rfl rfl ?_)
  refine Lb_w (lb_ial rfl rfl (fun hk => ?_))
  change Lb _ _ _ _ _ _ _ [.int (s.2.1 272 a1.toInt.toNat), .int a4] _ _
  replace h := h (kc_in (x := a1) rfl hk)
  refine Lb_w (lb_brP rfl rfl ⟨fun hc => ?_, fun hc => ?_⟩)
  · replace h := h.1 ((i_le (x := s.2.1 272 a1.toInt.toNat) (y := a4) rfl rfl).mp hc)
    refine Lb_w (lb_ld rfl rfl rfl ?_)
    refine Lb_w (lb_get rfl rfl ?_)
    change Lb _ _ _ _ _ _ _ [.int (s.1 64)] _ _
    refine Lb_w (lb_st [.ref 213, .int a1, .int a2, .int a3, .int (s.1 64), .null, .null, .null, .null, .null] rfl rfl rfl ?_)
    refine Lb_w (lb_ld rfl rfl rfl ?_)
    refine Lb_w (lb_ld rfl rfl rfl ?_)
    refine Lb_w (lb_get rfl rfl ?_)
    change Lb _ _ _ _ _ _ _ [.int (s.1 111), .ref 213] _ _
    refine Lb_w (lb_brP rfl rfl ⟨fun hc => ?_, fun hc => ?_⟩)
    · replace h := h.1 ((i_eq (x := s.1 111) (y := 0) rfl (show (0 : Int32).toInt = 0 by decide)).mp hc)
      exact lk_255_58  h
    · replace h := h.2 (fun q => hc ((i_eq (x := s.1 111) (y := 0) rfl (show (0 : Int32).toInt = 0 by decide)).mpr q))
      refine Lb_w (lb_ld rfl rfl rfl ?_)
      refine Lb_w (lb_ld rfl rfl rfl ?_)
      refine Lb_w (lb_ld rfl rfl rfl ?_)
      refine Lb_w (lb_get rfl rfl ?_)
      change Lb _ _ _ _ _ _ _ [.ref 272, .int a3, .ref 213, .ref 213] _ _
      refine Lb_w (lb_ld rfl rfl rfl ?_)
      refine Lb_w (lb_ial rfl rfl (fun hk => ?_))
      change Lb _ _ _ _ _ _ _ [.int (s.2.1 272 a1.toInt.toNat), .int a3, .ref 213, .ref 213] _ _
      replace h := h (kc_in (x := a1) rfl hk)
      refine Lb_w (lb_ld rfl rfl rfl ?_)
      refine Lb_w (lb_call [.ref 213, .int a3, .int (s.2.1 272 a1.toInt.toNat), .int a2] [.ref 213] rfl rfl rfl (Par.imp h (fun v2 s1 h => ?_)))
      obtain ⟨x3, rfl, h⟩ := h
      change Lb _ _ _ _ _ _ _ [.int x3, .ref 213] _ _
      refine Lb_w (lb_brP rfl rfl ⟨fun hc => ?_, fun hc => ?_⟩)
      · replace h := h.1 ((i_eq (x := x3) (y := 0) rfl (show (0 : Int32).toInt = 0 by decide)).mp hc)
        exact lk_255_58  h
      · replace h := h.2 (fun q => hc ((i_eq (x := x3) (y := 0) rfl (show (0 : Int32).toInt = 0 by decide)).mpr q))
        refine Lb_w (lb_c [.int 1, .ref 213] (xo_push (.int 1)) rfl rfl ?_)
        refine Lb_w (lb_go rfl ?_)
        exact lk_255_59  h
  · replace h := h.2 (fun q => hc ((i_le (x := s.2.1 272 a1.toInt.toNat) (y := a4) rfl rfl).mpr q))
    refine Lb_w (lb_ld rfl rfl rfl ?_)
    refine Lb_w (lb_get rfl rfl ?_)
    change Lb _ _ _ _ _ _ _ [.ref 264] _ _
    refine Lb_w (lb_ld rfl rfl rfl ?_)
    refine Lb_w (lb_get rfl rfl ?_)
    change Lb _ _ _ _ _ _ _ [.int (s.1 64), .ref 264] _ _
    refine Lb_w (lb_ld rfl rfl rfl ?_)
    refine Lb_w (lb_get rfl rfl ?_)
    change Lb _ _ _ _ _ _ _ [.ref 270, .int (s.1 64), .ref 264] _ _
    refine Lb_w (lb_ld rfl rfl rfl ?_)
    refine Lb_w (lb_get rfl rfl ?_)
    change Lb _ _ _ _ _ _ _ [.ref 271, .ref 270, .int (s.1 64), .ref 264] _ _
    refine Lb_w (lb_ld rfl rfl rfl ?_)
    refine Lb_w (lb_ial rfl rfl (fun hk => ?_))
    change Lb _ _ _ _ _ _ _ [.int (s.2.1 271 a1.toInt.toNat), .ref 270, .int (s.1 64), .ref 264] _ _
    replace h := h (kc_in (x := a1) rfl hk)
    refine Lb_w (lb_ld rfl rfl rfl ?_)
    refine Lb_w (lb_ca [.int ((s.2.1 271 a1.toInt.toNat) + a4), .ref 270, .int (s.1 64), .ref 264] xo_iadd rfl rfl (fun _ hk => ?_))
    replace hk := kc_add (x := s.2.1 271 a1.toInt.toNat) (y := a4) rfl rfl hk
    replace h := h hk _ (i_add (x := s.2.1 271 a1.toInt.toNat) (y := a4) rfl rfl hk)
    refine Lb_w (lb_ial rfl rfl (fun hk => ?_))
    change Lb _ _ _ _ _ _ _ [.int (s.2.1 270 ((s.2.1 271 a1.toInt.toNat) + a4).toInt.toNat), .int (s.1 64), .ref 264] _ _
    replace h := h (kc_in (x := ((s.2.1 271 a1.toInt.toNat) + a4)) rfl hk)
    refine Lb_w (lb_ias rfl rfl (fun hk => ?_))
    replace h := h (kc_in (x := s.1 64) rfl hk)
    replace h := h _ rfl
    refine Lb_w (lb_ld rfl rfl rfl ?_)
    refine Lb_w (lb_c [.ref 213, .ref 213] xo_dup rfl rfl ?_)
    refine Lb_w (lb_get rfl rfl ?_)
    change Lb _ _ _ _ _ _ _ [.int ((sa s 264 (s.1 64).toInt.toNat (s.2.1 270 ((s.2.1 271 a1.toInt.toNat) + a4).toInt.toNat)).1 64), .ref 213] _ _
    refine Lb_w (lb_c [.int 1, .int ((sa s 264 (s.1 64).toInt.toNat (s.2.1 270 ((s.2.1 271 a1.toInt.toNat) + a4).toInt.toNat)).1 64), .ref 213] (xo_push (.int 1)) rfl rfl ?_)
    refine Lb_w (lb_ca [.int (((sa s 264 (s.1 64).toInt.toNat (s.2.1 270 ((s.2.1 271 a1.toInt.toNat) + a4).toInt.toNat)).1 64) + 1), .ref 213] xo_iadd rfl rfl (fun _ hk => ?_))
    replace hk := kc_add (x := (sa s 264 (s.1 64).toInt.toNat (s.2.1 270 ((s.2.1 271 a1.toInt.toNat) + a4).toInt.toNat)).1 64) (y := 1) rfl (show (1 : Int32).toInt = 1 by decide) hk
    replace h := h hk _ (i_add (x := (sa s 264 (s.1 64).toInt.toNat (s.2.1 270 ((s.2.1 271 a1.toInt.toNat) + a4).toInt.toNat)).1 64) (y := 1) rfl (show (1 : Int32).toInt = 1 by decide) hk)
    refine Lb_w (lb_put rfl rfl (fun hk => ?_))
    replace h := h _ rfl
    refine Lb_w (lb_inc [.ref 213, .int a1, .int a2, .int a3, .int (a4 + 1), .null, .null, .null, .null, .null] rfl rfl rfl rfl (fun hk => ?_))
    replace hk := kc_inc (x := a4) (n := 1) rfl hk
    replace h := h hk _ (i_add (x := a4) (y := 1) rfl (show (1 : Int32).toInt = 1 by decide) hk)
    refine Lb_w (lb_go rfl ?_)
    exact r12 a1 a2 a3 (a4 + 1)  (sf (sa s 264 (s.1 64).toInt.toNat (s.2.1 270 ((s.2.1 271 a1.toInt.toNat) + a4).toInt.toNat)) 64 (((sa s 264 (s.1 64).toInt.toNat (s.2.1 270 ((s.2.1 271 a1.toInt.toNat) + a4).toInt.toNat)).1 64) + 1)) h
def ubl_255_12 (T : Nat → List Value → yS → (Option Value → yS → Prop) → Prop)  (a1 : Int32) (a2 : Int32) (a3 : Int32) (a4 : Int32) (s : yS) (P : Option Value → yS → Prop) : Prop :=
  ∃ (I : Int32 → Int32 → Int32 → Int32 → yS → Prop), I a1 a2 a3 a4 s ∧ ∀ (a1 : Int32) (a2 : Int32) (a3 : Int32) (a4 : Int32) (s : yS), I a1 a2 a3 a4 s → ub_255_12 T I a1 a2 a3 a4 s P
theorem lkl_255_12 {d N0 : Nat}  {a1 : Int32} {a2 : Int32} {a3 : Int32} {a4 : Int32} {s : yS} {P : Option Value → yS → Prop}  (h : ubl_255_12 (Par d)  a1 a2 a3 a4 s P) : Lb d N0 7 (none) xE_255 (xE_255.drop 12) [.ref 213, .int a1, .int a2, .int a3, .int a4, .null, .null, .null, .null, .null] [] s P := by
  obtain ⟨I, h0, h1⟩ := h
  have key : ∀ (m : Nat), m ≤ N0 → ∀ (a1 : Int32) (a2 : Int32) (a3 : Int32) (a4 : Int32) (s : yS), I a1 a2 a3 a4 s → Lb d m 7 (none) xE_255 (xE_255.drop 12) [.ref 213, .int a1, .int a2, .int a3, .int a4, .null, .null, .null, .null, .null] [] s P := by
    intro m
    induction m with
    | zero => exact fun _ a1 a2 a3 a4 s _ => Lb_0
    | succ m ih =>
      intro hm
      replace hm : m ≤ N0 := Nat.le_of_succ_le hm
      replace ih := ih hm
      intro a1 a2 a3 a4 s hI
      exact lk_255_12 ih (h1 a1 a2 a3 a4 s hI)
  exact key N0 (Nat.le_refl _) a1 a2 a3 a4 s h0
def ub_255_0 (T : Nat → List Value → yS → (Option Value → yS → Prop) → Prop)  (a1 : Int32) (a2 : Int32) (s : yS) (P : Option Value → yS → Prop) : Prop :=
  ((0 ≤ a1.toInt ∧ a1.toInt < 12006) → T 253 [.ref 213, .int (s.2.1 227 a1.toInt.toNat), .int a2] s (fun v2 s1 => v2 = none ∧ (ubl_255_12 T  a1 a2 (s1.1 64) 0  s1 P)))
set_option maxRecDepth 20000 in
theorem lk_255_0 {d N0 : Nat}  {a1 : Int32} {a2 : Int32} {s : yS} {P : Option Value → yS → Prop}  (h : ub_255_0 (Par d)  a1 a2 s P) : Lb d N0 7 (none) xE_255 (xE_255.drop 0) [.ref 213, .int a1, .int a2, .null, .null, .null, .null, .null, .null, .null] [] s P := by
  unfold ub_255_0 at h
  refine Lb_w (lb_ld rfl rfl rfl ?_)
  refine Lb_w (lb_ld rfl rfl rfl ?_)
  refine Lb_w (lb_get rfl rfl ?_)
  change Lb _ _ _ _ _ _ _ [.ref 227, .ref 213] _ _
  refine Lb_w (lb_ld rfl rfl rfl ?_)
  refine Lb_w (lb_ial rfl rfl (fun hk => ?_))
  change Lb _ _ _ _ _ _ _ [.int (s.2.1 227 a1.toInt.toNat), .ref 213] _ _
  replace h := h (kc_in (x := a1) rfl hk)
  refine Lb_w (lb_ld rfl rfl rfl ?_)
  refine Lb_w (lb_call [.ref 213, .int (s.2.1 227 a1.toInt.toNat), .int a2] [] rfl rfl rfl (Par.imp h (fun v2 s1 h => ?_)))
  obtain ⟨rfl, h⟩ := h
  change Lb _ _ _ _ _ _ _ [] _ _
  refine Lb_w (lb_ld rfl rfl rfl ?_)
  refine Lb_w (lb_get rfl rfl ?_)
  change Lb _ _ _ _ _ _ _ [.int (s1.1 64)] _ _
  refine Lb_w (lb_st [.ref 213, .int a1, .int a2, .int (s1.1 64), .null, .null, .null, .null, .null, .null] rfl rfl rfl ?_)
  refine Lb_w (lb_c [.int 0] (xo_push (.int 0)) rfl rfl ?_)
  refine Lb_w (lb_st [.ref 213, .int a1, .int a2, .int (s1.1 64), .int 0, .null, .null, .null, .null, .null] rfl rfl rfl ?_)
  exact lkl_255_12  h
theorem pb_255 {d : Nat} {a1 : Int32} {a2 : Int32} {s : yS} {P : Option Value → yS → Prop} (h : ub_255_0 (Par d) a1 a2 s P) : Par (d + 1) 255 [.ref 213, .int a1, .int a2] s P := par_of (E := xE_255) (ml := 7) (ret := none) rfl (fun _ => lk_255_0 h)
/-! addBody -/
def ub_256_189 (T : Nat → List Value → yS → (Option Value → yS → Prop) → Prop) (R189 : Int32 → Int32 → Int32 → Int32 → Int32 → Int32 → Int32 → Int32 → Int32 → Int32 → Int32 → Int32 → Int32 → yS → Prop) (a1 : Int32) (a2 : Int32) (a3 : Int32) (a4 : Int32) (a5 : Int32) (a6 : Int32) (a7 : Int32) (a8 : Int32) (a9 : Int32) (a10 : Int32) (a11 : Int32) (a12 : Int32) (a13 : Int32) (s : yS) (P : Option Value → yS → Prop) : Prop :=
  ((0 ≤ a11.toInt ∧ a11.toInt < 600) → ((s.2.1 266 a11.toInt.toNat).toInt ≤ a13.toInt → ∀ s1, s1 = sf s 78 a9 → ((0 ≤ a9.toInt ∧ a9.toInt < 120) → T 253 [.ref 213, .int (s1.2.1 258 a9.toInt.toNat), .int a10] s1 (fun v3 s2 => v3 = none ∧ (∀ s4, s4 = sf s2 78 (s.1 78) → ((-2147483648 ≤ (s4.1 70).toInt - 1 ∧ (s4.1 70).toInt - 1 ≤ 2147483647) → ∀ x5 : Int32, x5.toInt = (s4.1 70).toInt - 1 → ∀ s6, s6 = sf s4 70 x5 → ∀ s7, s7 = sf s6 64 a5 → P none s7))))) ∧ (¬ ((s.2.1 266 a11.toInt.toNat).toInt ≤ a13.toInt) → ((-2147483648 ≤ 6 * a11.toInt ∧ 6 * a11.toInt ≤ 2147483647) → ∀ x8 : Int32, x8.toInt = 6 * a11.toInt → ((-2147483648 ≤ x8.toInt + a13.toInt ∧ x8.toInt + a13.toInt ≤ 2147483647) → ∀ x9 : Int32, x9.toInt = x8.toInt + a13.toInt → ((0 ≤ x9.toInt ∧ x9.toInt < 3600) → ∀ s10, s10 = sa s 267 x9.toInt.toNat a12 → ((-2147483648 ≤ 6 * a11.toInt ∧ 6 * a11.toInt ≤ 2147483647) → ∀ x11 : Int32, x11.toInt = 6 * a11.toInt → ((-2147483648 ≤ x11.toInt + a13.toInt ∧ x11.toInt + a13.toInt ≤ 2147483647) → ∀ x12 : Int32, x12.toInt = x11.toInt + a13.toInt → T 186 [.ref 213, .int a12] s10 (fun v14 s13 => ∃ x15, v14 = some (.int x15) ∧ (((-2147483648 ≤ x15.toInt - a12.toInt ∧ x15.toInt - a12.toInt ≤ 2147483647) → ∀ x16 : Int32, x16.toInt = x15.toInt - a12.toInt → ((0 ≤ x12.toInt ∧ x12.toInt < 3600) → ∀ s17, s17 = sa s13 268 x12.toInt.toNat x16 → T 186 [.ref 213, .int a12] s17 (fun v19 s18 => ∃ x20, v19 = some (.int x20) ∧ (((-2147483648 ≤ a13.toInt + 1 ∧ a13.toInt + 1 ≤ 2147483647) → ∀ x21 : Int32, x21.toInt = a13.toInt + 1 → R189 a1 a2 a3 a4 a5 a6 a7 a8 a9 a10 a11 x20 x21  s18))))))))))))))
set_option maxRecDepth 20000 in
theorem lk_256_189 {d N0 : Nat} {R189 : Int32 → Int32 → Int32 → Int32 → Int32 → Int32 → Int32 → Int32 → Int32 → Int32 → Int32 → Int32 → Int32 → yS → Prop} {a1 : Int32} {a2 : Int32} {a3 : Int32} {a4 : Int32} {a5 : Int32} {a6 : Int32} {a7 : Int32} {a8 : Int32} {a9 : Int32} {a10 : Int32} {a11 : Int32} {a12 : Int32} {a13 : Int32} {s : yS} {P : Option Value → yS → Prop} (r189 : ∀ a1 a2 a3 a4 a5 a6 a7 a8 a9 a10 a11 a12 a13 s, R189 a1 a2 a3 a4 a5 a6 a7 a8 a9 a10 a11 a12 a13 s → Lb d N0 14 (none) xE_256 (xE_256.drop 189) [.ref 213, .int a1, .int a2, .int a3, .int a4, .int a5, .int a6, .int a7, .int a8, .int a9, .int a10, .int a11, .int a12, .int a13, .null, .null, .null, .null] [] s P) (h : ub_256_189 (Par d) R189 a1 a2 a3 a4 a5 a6 a7 a8 a9 a10 a11 a12 a13 s P) : Lb d (N0 + 1) 14 (none) xE_256 (xE_256.drop 189) [.ref 213, .int a1, .int a2, .int a3, .int a4, .int a5, .int a6, .int a7, .int a8, .int a9, .int a10, .int a11, .int a12, .int a13, .null, .null, .null, .null] [] s P := by
  unfold ub_256_189 at h
  refine lb_ld rfl rfl rfl ?_
  refine Lb_w (lb_ld rfl rfl rfl ?_)
  refine Lb_w (lb_get rfl rfl ?_)
  change Lb _ _ _ _ _ _ _ [.ref 266, .int a13] _ _
  refine Lb_w (lb_ld rfl rfl rfl ?_)
  refine Lb_w (lb_ial rfl rfl (fun hk => ?_))
  change Lb _ _ _ _ _ _ _ [.int (s.2.1 266 a11.toInt.toNat), .int a13] _ _
  replace h := h (kc_in (x := a11) rfl hk)
  refine Lb_w (lb_brP rfl rfl ⟨fun hc => ?_, fun hc => ?_⟩)
  · replace h := h.1 ((i_le (x := s.2.1 266 a11.toInt.toNat) (y := a13) rfl rfl).mp hc)
    refine Lb_w (lb_ld rfl rfl rfl ?_)
    refine Lb_w (lb_get rfl rfl ?_)
    change Lb _ _ _ _ _ _ _ [.int (s.1 78)] _ _
    refine Lb_w (lb_st [.ref 213, .int a1, .int a2, .int a3, .int a4, .int a5, .int a6, .int a7, .int a8, .int a9, .int a10, .int a11, .int a12, .int (s.1 78), .null, .null, .null, .null] rfl rfl rfl ?_)
    refine Lb_w (lb_ld rfl rfl rfl ?_)
    refine Lb_w (lb_ld rfl rfl rfl ?_)
    refine Lb_w (lb_put rfl rfl (fun hk => ?_))
    replace h := h _ rfl
    refine Lb_w (lb_ld rfl rfl rfl ?_)
    refine Lb_w (lb_ld rfl rfl rfl ?_)
    refine Lb_w (lb_get rfl rfl ?_)
    change Lb _ _ _ _ _ _ _ [.ref 258, .ref 213] _ _
    refine Lb_w (lb_ld rfl rfl rfl ?_)
    refine Lb_w (lb_ial rfl rfl (fun hk => ?_))
    change Lb _ _ _ _ _ _ _ [.int ((sf s 78 a9).2.1 258 a9.toInt.toNat), .ref 213] _ _
    replace h := h (kc_in (x := a9) rfl hk)
    refine Lb_w (lb_ld rfl rfl rfl ?_)
    refine Lb_w (lb_call [.ref 213, .int ((sf s 78 a9).2.1 258 a9.toInt.toNat), .int a10] [] rfl rfl rfl (Par.imp h (fun v3 s2 h => ?_)))
    obtain ⟨rfl, h⟩ := h
    change Lb _ _ _ _ _ _ _ [] _ _
    refine Lb_w (lb_ld rfl rfl rfl ?_)
    refine Lb_w (lb_ld rfl rfl rfl ?_)
    refine Lb_w (lb_put rfl rfl (fun hk => ?_))
    replace h := h _ rfl
    refine Lb_w (lb_ld rfl rfl rfl ?_)
    refine Lb_w (lb_c [.ref 213, .ref 213] xo_dup rfl rfl ?_)
    refine Lb_w (lb_get rfl rfl ?_)
    change Lb _ _ _ _ _ _ _ [.int ((sf s2 78 (s.1 78)).1 70), .ref 213] _ _
    refine Lb_w (lb_c [.int 1, .int ((sf s2 78 (s.1 78)).1 70), .ref 213] (xo_push (.int 1)) rfl rfl ?_)
    refine Lb_w (lb_ca [.int (((sf s2 78 (s.1 78)).1 70) - 1), .ref 213] xo_isub rfl rfl (fun _ hk => ?_))
    replace hk := kc_sub (x := (sf s2 78 (s.1 78)).1 70) (y := 1) rfl (show (1 : Int32).toInt = 1 by decide) hk
    replace h := h hk _ (i_sub (x := (sf s2 78 (s.1 78)).1 70) (y := 1) rfl (show (1 : Int32).toInt = 1 by decide) hk)
    refine Lb_w (lb_put rfl rfl (fun hk => ?_))
    replace h := h _ rfl
    refine Lb_w (lb_ld rfl rfl rfl ?_)
    refine Lb_w (lb_ld rfl rfl rfl ?_)
    refine Lb_w (lb_put rfl rfl (fun hk => ?_))
    replace h := h _ rfl
    exact Lb_w (lb_ret0 rfl h)
  · replace h := h.2 (fun q => hc ((i_le (x := s.2.1 266 a11.toInt.toNat) (y := a13) rfl rfl).mpr q))
    refine Lb_w (lb_ld rfl rfl rfl ?_)
    refine Lb_w (lb_get rfl rfl ?_)
    change Lb _ _ _ _ _ _ _ [.ref 267] _ _
    refine Lb_w (lb_c [.int 6, .ref 267] (xo_push (.int 6)) rfl rfl ?_)
    refine Lb_w (lb_ld rfl rfl rfl ?_)
    refine Lb_w (lb_ca [.int (6 * a11), .ref 267] xo_imul rfl rfl (fun _ hk => ?_))
    replace hk := kc_mul (x := 6) (y := a11) (show (6 : Int32).toInt = 6 by decide) rfl hk
    replace h := h hk _ (i_mul (x := 6) (y := a11) (show (6 : Int32).toInt = 6 by decide) rfl hk)
    refine Lb_w (lb_ld rfl rfl rfl ?_)
    refine Lb_w (lb_ca [.int ((6 * a11) + a13), .ref 267] xo_iadd rfl rfl (fun _ hk => ?_))
    replace hk := kc_add (x := (6 * a11)) (y := a13) rfl rfl hk
    replace h := h hk _ (i_add (x := (6 * a11)) (y := a13) rfl rfl hk)
    refine Lb_w (lb_ld rfl rfl rfl ?_)
    refine Lb_w (lb_ias rfl rfl (fun hk => ?_))
    replace h := h (kc_in (x := ((6 * a11) + a13)) rfl hk)
    replace h := h _ rfl
    refine Lb_w (lb_ld rfl rfl rfl ?_)
    refine Lb_w (lb_get rfl rfl ?_)
    change Lb _ _ _ _ _ _ _ [.ref 268] _ _
    refine Lb_w (lb_c [.int 6, .ref 268] (xo_push (.int 6)) rfl rfl ?_)
    refine Lb_w (lb_ld rfl rfl rfl ?_)
    refine Lb_w (lb_ca [.int (6 * a11), .ref 268] xo_imul rfl rfl (fun _ hk => ?_))
    replace hk := kc_mul (x := 6) (y := a11) (show (6 : Int32).toInt = 6 by decide) rfl hk
    replace h := h hk _ (i_mul (x := 6) (y := a11) (show (6 : Int32).toInt = 6 by decide) rfl hk)
    refine Lb_w (lb_ld rfl rfl rfl ?_)
    refine Lb_w (lb_ca [.int ((6 * a11) + a13), .ref 268] xo_iadd rfl rfl (fun _ hk => ?_))
    replace hk := kc_add (x := (6 * a11)) (y := a13) rfl rfl hk
    replace h := h hk _ (i_add (x := (6 * a11)) (y := a13) rfl rfl hk)
    refine Lb_w (lb_ld rfl rfl rfl ?_)
    refine Lb_w (lb_ld rfl rfl rfl ?_)
    refine Lb_w (lb_call [.ref 213, .int a12] [.int ((6 * a11) + a13), .ref 268] rfl rfl rfl (Par.imp h (fun v14 s13 h => ?_)))
    obtain ⟨x15, rfl, h⟩ := h
    change Lb _ _ _ _ _ _ _ [.int x15, .int ((6 * a11) + a13), .ref 268] _ _
    refine Lb_w (lb_ld rfl rfl rfl ?_)
    refine Lb_w (lb_ca [.int (x15 - a12), .int ((6 * a11) + a13), .ref 268] xo_isub rfl rfl (fun _ hk => ?_))
    replace hk := kc_sub (x := x15) (y := a12) rfl rfl hk
    replace h := h hk _ (i_sub (x := x15) (y := a12) rfl rfl hk)
    refine Lb_w (lb_ias rfl rfl (fun hk => ?_))
    replace h := h (kc_in (x := ((6 * a11) + a13)) rfl hk)
    replace h := h _ rfl
    refine Lb_w (lb_ld rfl rfl rfl ?_)
    refine Lb_w (lb_ld rfl rfl rfl ?_)
    refine Lb_w (lb_call [.ref 213, .int a12] [] rfl rfl rfl (Par.imp h (fun v19 s18 h => ?_)))
    obtain ⟨x20, rfl, h⟩ := h
    change Lb _ _ _ _ _ _ _ [.int x20] _ _
    refine Lb_w (lb_st [.ref 213, .int a1, .int a2, .int a3, .int a4, .int a5, .int a6, .int a7, .int a8, .int a9, .int a10, .int a11, .int x20, .int a13, .null, .null, .null, .null] rfl rfl rfl ?_)
    refine Lb_w (lb_inc [.ref 213, .int a1, .int a2, .int a3, .int a4, .int a5, .int a6, .int a7, .int a8, .int a9, .int a10, .int a11, .int x20, .int (a13 + 1), .null, .null, .null, .null] rfl rfl rfl rfl (fun hk => ?_))
    replace hk := kc_inc (x := a13) (n := 1) rfl hk
    replace h := h hk _ (i_add (x := a13) (y := 1) rfl (show (1 : Int32).toInt = 1 by decide) hk)
    refine Lb_w (lb_go rfl ?_)
    exact r189 a1 a2 a3 a4 a5 a6 a7 a8 a9 a10 a11 x20 (a13 + 1)  s18 h
def ubl_256_189 (T : Nat → List Value → yS → (Option Value → yS → Prop) → Prop)  (a1 : Int32) (a2 : Int32) (a3 : Int32) (a4 : Int32) (a5 : Int32) (a6 : Int32) (a7 : Int32) (a8 : Int32) (a9 : Int32) (a10 : Int32) (a11 : Int32) (a12 : Int32) (a13 : Int32) (s : yS) (P : Option Value → yS → Prop) : Prop :=
  ∃ (I : Int32 → Int32 → Int32 → Int32 → Int32 → Int32 → Int32 → Int32 → Int32 → Int32 → Int32 → Int32 → Int32 → yS → Prop), I a1 a2 a3 a4 a5 a6 a7 a8 a9 a10 a11 a12 a13 s ∧ ∀ (a1 : Int32) (a2 : Int32) (a3 : Int32) (a4 : Int32) (a5 : Int32) (a6 : Int32) (a7 : Int32) (a8 : Int32) (a9 : Int32) (a10 : Int32) (a11 : Int32) (a12 : Int32) (a13 : Int32) (s : yS), I a1 a2 a3 a4 a5 a6 a7 a8 a9 a10 a11 a12 a13 s → ub_256_189 T I a1 a2 a3 a4 a5 a6 a7 a8 a9 a10 a11 a12 a13 s P
theorem lkl_256_189 {d N0 : Nat}  {a1 : Int32} {a2 : Int32} {a3 : Int32} {a4 : Int32} {a5 : Int32} {a6 : Int32} {a7 : Int32} {a8 : Int32} {a9 : Int32} {a10 : Int32} {a11 : Int32} {a12 : Int32} {a13 : Int32} {s : yS} {P : Option Value → yS → Prop}  (h : ubl_256_189 (Par d)  a1 a2 a3 a4 a5 a6 a7 a8 a9 a10 a11 a12 a13 s P) : Lb d N0 14 (none) xE_256 (xE_256.drop 189) [.ref 213, .int a1, .int a2, .int a3, .int a4, .int a5, .int a6, .int a7, .int a8, .int a9, .int a10, .int a11, .int a12, .int a13, .null, .null, .null, .null] [] s P := by
  obtain ⟨I, h0, h1⟩ := h
  have key : ∀ (m : Nat), m ≤ N0 → ∀ (a1 : Int32) (a2 : Int32) (a3 : Int32) (a4 : Int32) (a5 : Int32) (a6 : Int32) (a7 : Int32) (a8 : Int32) (a9 : Int32) (a10 : Int32) (a11 : Int32) (a12 : Int32) (a13 : Int32) (s : yS), I a1 a2 a3 a4 a5 a6 a7 a8 a9 a10 a11 a12 a13 s → Lb d m 14 (none) xE_256 (xE_256.drop 189) [.ref 213, .int a1, .int a2, .int a3, .int a4, .int a5, .int a6, .int a7, .int a8, .int a9, .int a10, .int a11, .int a12, .int a13, .null, .null, .null, .null] [] s P := by
    intro m
    induction m with
    | zero => exact fun _ a1 a2 a3 a4 a5 a6 a7 a8 a9 a10 a11 a12 a13 s _ => Lb_0
    | succ m ih =>
      intro hm
      replace hm : m ≤ N0 := Nat.le_of_succ_le hm
      replace ih := ih hm
      intro a1 a2 a3 a4 a5 a6 a7 a8 a9 a10 a11 a12 a13 s hI
      exact lk_256_189 ih (h1 a1 a2 a3 a4 a5 a6 a7 a8 a9 a10 a11 a12 a13 s hI)
  exact key N0 (Nat.le_refl _) a1 a2 a3 a4 a5 a6 a7 a8 a9 a10 a11 a12 a13 s h0
def ub_256_74 (T : Nat → List Value → yS → (Option Value → yS → Prop) → Prop) (R74 : Int32 → Int32 → Int32 → Int32 → Int32 → Int32 → Int32 → yS → Prop) (a1 : Int32) (a2 : Int32) (a3 : Int32) (a4 : Int32) (a5 : Int32) (a6 : Int32) (a7 : Int32) (s : yS) (P : Option Value → yS → Prop) : Prop :=
  ((0 ≤ a3.toInt ∧ a3.toInt < 160) → ((0 ≤ a3.toInt ∧ a3.toInt < 160) → ((-2147483648 ≤ (s.2.1 282 a3.toInt.toNat).toInt + (s.2.1 283 a3.toInt.toNat).toInt ∧ (s.2.1 282 a3.toInt.toNat).toInt + (s.2.1 283 a3.toInt.toNat).toInt ≤ 2147483647) → ∀ x1 : Int32, x1.toInt = (s.2.1 282 a3.toInt.toNat).toInt + (s.2.1 283 a3.toInt.toNat).toInt → (x1.toInt ≤ a7.toInt → ((0 ≤ a3.toInt ∧ a3.toInt < 160) → ((0 ≤ a3.toInt ∧ a3.toInt < 160) → ((-2147483648 ≤ (s.1 64).toInt - a5.toInt ∧ (s.1 64).toInt - a5.toInt ≤ 2147483647) → ∀ x2 : Int32, x2.toInt = (s.1 64).toInt - a5.toInt → T 250 [.ref 213, .int 2, .int (s.2.1 280 a3.toInt.toNat), .int (s.2.1 281 a3.toInt.toNat), .int a5, .int x2] s (fun v4 s3 => v4 = none ∧ ((¬ ((s3.1 112).toInt = (s.1 112).toInt) → ((0 ≤ a3.toInt ∧ a3.toInt < 160) → T 193 [.ref 213, .int a1, .int (s3.2.1 280 a3.toInt.toNat)] s3 (fun v6 s5 => ∃ x7, v6 = some (.int x7) ∧ (T 246 [.ref 213, .int (s5.1 73)] s5 (fun v9 s8 => ∃ x10, v9 = some (.int x10) ∧ (T 188 [.ref 213] s8 (fun v12 s11 => ∃ x13, v12 = some (.int x13) ∧ (T 189 [.ref 213, .int x13, .int 0, .int (s11.1 74), .int a5] s11 (fun v15 s14 => v15 = none ∧ (((-2147483648 ≤ 2 * x13.toInt ∧ 2 * x13.toInt ≤ 2147483647) → ∀ x16 : Int32, x16.toInt = 2 * x13.toInt → ((-2147483648 ≤ x16.toInt + 1 ∧ x16.toInt + 1 ≤ 2147483647) → ∀ x17 : Int32, x17.toInt = x16.toInt + 1 → ((-2147483648 ≤ 204 * (s14.1 75).toInt ∧ 204 * (s14.1 75).toInt ≤ 2147483647) → ∀ x18 : Int32, x18.toInt = 204 * (s14.1 75).toInt → ((-2147483648 ≤ (s14.1 73).toInt - x18.toInt ∧ (s14.1 73).toInt - x18.toInt ≤ 2147483647) → ∀ x19 : Int32, x19.toInt = (s14.1 73).toInt - x18.toInt → ((-2147483648 ≤ 6 * x19.toInt ∧ 6 * x19.toInt ≤ 2147483647) → ∀ x20 : Int32, x20.toInt = 6 * x19.toInt → ((-2147483648 ≤ 2000 + x20.toInt ∧ 2000 + x20.toInt ≤ 2147483647) → ∀ x21 : Int32, x21.toInt = 2000 + x20.toInt → ((0 ≤ x17.toInt ∧ x17.toInt < 600) → ∀ s22, s22 = sa s14 265 x17.toInt.toNat x21 → ((0 ≤ a3.toInt ∧ a3.toInt < 160) → ((-2147483648 ≤ (s22.2.1 281 a3.toInt.toNat).toInt - 1 ∧ (s22.2.1 281 a3.toInt.toNat).toInt - 1 ≤ 2147483647) → ∀ x23 : Int32, x23.toInt = (s22.2.1 281 a3.toInt.toNat).toInt - 1 → ((0 ≤ x17.toInt ∧ x17.toInt < 600) → ∀ s24, s24 = sa s22 266 x17.toInt.toNat x23 → ((-2147483648 ≤ a5.toInt + a2.toInt ∧ a5.toInt + a2.toInt ≤ 2147483647) → ∀ x25 : Int32, x25.toInt = a5.toInt + a2.toInt → ubl_256_189 T  a1 a2 a3 a4 a5 a6 (s.1 112) x7 x10 x13 x17 x25 0  s24 P))))))))))))))))))))) ∧ ((s3.1 112).toInt = (s.1 112).toInt → ∀ s26, s26 = sf s3 64 a5 → P none s26))))))) ∧ (¬ (x1.toInt ≤ a7.toInt) → ((0 ≤ a7.toInt ∧ a7.toInt < 200000) → ((0 ≤ (s.1 64).toInt ∧ (s.1 64).toInt < 200000) → ∀ s27, s27 = sa s 264 (s.1 64).toInt.toNat (s.2.1 264 a7.toInt.toNat) → ((-2147483648 ≤ (s27.1 64).toInt + 1 ∧ (s27.1 64).toInt + 1 ≤ 2147483647) → ∀ x28 : Int32, x28.toInt = (s27.1 64).toInt + 1 → ∀ s29, s29 = sf s27 64 x28 → ((-2147483648 ≤ a7.toInt + 1 ∧ a7.toInt + 1 ≤ 2147483647) → ∀ x30 : Int32, x30.toInt = a7.toInt + 1 → R74 a1 a2 a3 a4 a5 a6 x30  s29))))))))
set_option maxRecDepth 20000 in
theorem lk_256_74 {d N0 : Nat} {R74 : Int32 → Int32 → Int32 → Int32 → Int32 → Int32 → Int32 → yS → Prop} {a1 : Int32} {a2 : Int32} {a3 : Int32} {a4 : Int32} {a5 : Int32} {a6 : Int32} {a7 : Int32} {s : yS} {P : Option Value → yS → Prop} (r74 : ∀ a1 a2 a3 a4 a5 a6 a7 s, R74 a1 a2 a3 a4 a5 a6 a7 s → Lb d N0 14 (none) xE_256 (xE_256.drop 74) [.ref 213, .int a1, .int a2, .int a3, .int a4, .int a5, .int a6, .int a7, .null, .null, .null, .null, .null, .null, .null, .null, .null, .null] [] s P) (h : ub_256_74 (Par d) R74 a1 a2 a3 a4 a5 a6 a7 s P) : Lb d (N0 + 1) 14 (none) xE_256 (xE_256.drop 74) [.ref 213, .int a1, .int a2, .int a3, .int a4, .int a5, .int a6, .int a7, .null, .null, .null, .null, .null, .null, .null, .null, .null, .null] [] s P := by
  unfold ub_256_74 at h
  refine lb_ld rfl rfl rfl ?_
  refine Lb_w (lb_ld rfl rfl rfl ?_)
  refine Lb_w (lb_get rfl rfl ?_)
  change Lb _ _ _ _ _ _ _ [.ref 282, .int a7] _ _
  refine Lb_w (lb_ld rfl rfl rfl ?_)
  refine Lb_w (lb_ial rfl rfl (fun hk => ?_))
  change Lb _ _ _ _ _ _ _ [.int (s.2.1 282 a3.toInt.toNat), .int a7] _ _
  replace h := h (kc_in (x := a3) rfl hk)
  refine Lb_w (lb_ld rfl rfl rfl ?_)
  refine Lb_w (lb_get rfl rfl ?_)
  change Lb _ _ _ _ _ _ _ [.ref 283, .int (s.2.1 282 a3.toInt.toNat), .int a7] _ _
  refine Lb_w (lb_ld rfl rfl rfl ?_)
  refine Lb_w (lb_ial rfl rfl (fun hk => ?_))
  change Lb _ _ _ _ _ _ _ [.int (s.2.1 283 a3.toInt.toNat), .int (s.2.1 282 a3.toInt.toNat), .int a7] _ _
  replace h := h (kc_in (x := a3) rfl hk)
  refine Lb_w (lb_ca [.int ((s.2.1 282 a3.toInt.toNat) + (s.2.1 283 a3.toInt.toNat)), .int a7] xo_iadd rfl rfl (fun _ hk => ?_))
  replace hk := kc_add (x := s.2.1 282 a3.toInt.toNat) (y := s.2.1 283 a3.toInt.toNat) rfl rfl hk
  replace h := h hk _ (i_add (x := s.2.1 282 a3.toInt.toNat) (y := s.2.1 283 a3.toInt.toNat) rfl rfl hk)
  refine Lb_w (lb_brP rfl rfl ⟨fun hc => ?_, fun hc => ?_⟩)
  · replace h := h.1 ((i_le (x := ((s.2.1 282 a3.toInt.toNat) + (s.2.1 283 a3.toInt.toNat))) (y := a7) rfl rfl).mp hc)
    refine Lb_w (lb_ld rfl rfl rfl ?_)
    refine Lb_w (lb_get rfl rfl ?_)
    change Lb _ _ _ _ _ _ _ [.int (s.1 112)] _ _
    refine Lb_w (lb_st [.ref 213, .int a1, .int a2, .int a3, .int a4, .int a5, .int a6, .int (s.1 112), .null, .null, .null, .null, .null, .null, .null, .null, .null, .null] rfl rfl rfl ?_)
    refine Lb_w (lb_ld rfl rfl rfl ?_)
    refine Lb_w (lb_c [.int 2, .ref 213] (xo_push (.int 2)) rfl rfl ?_)
    refine Lb_w (lb_ld rfl rfl rfl ?_)
    refine Lb_w (lb_get rfl rfl ?_)
    change Lb _ _ _ _ _ _ _ [.ref 280, .int 2, .ref 213] _ _
    refine Lb_w (lb_ld rfl rfl rfl ?_)
    refine Lb_w (lb_ial rfl rfl (fun hk => ?_))
    change Lb _ _ _ _ _ _ _ [.int (s.2.1 280 a3.toInt.toNat), .int 2, .ref 213] _ _
    replace h := h (kc_in (x := a3) rfl hk)
    refine Lb_w (lb_ld rfl rfl rfl ?_)
    refine Lb_w (lb_get rfl rfl ?_)
    change Lb _ _ _ _ _ _ _ [.ref 281, .int (s.2.1 280 a3.toInt.toNat), .int 2, .ref 213] _ _
    refine Lb_w (lb_ld rfl rfl rfl ?_)
    refine Lb_w (lb_ial rfl rfl (fun hk => ?_))
    change Lb _ _ _ _ _ _ _ [.int (s.2.1 281 a3.toInt.toNat), .int (s.2.1 280 a3.toInt.toNat), .int 2, .ref 213] _ _
    replace h := h (kc_in (x := a3) rfl hk)
    refine Lb_w (lb_ld rfl rfl rfl ?_)
    refine Lb_w (lb_ld rfl rfl rfl ?_)
    refine Lb_w (lb_get rfl rfl ?_)
    change Lb _ _ _ _ _ _ _ [.int (s.1 64), .int a5, .int (s.2.1 281 a3.toInt.toNat), .int (s.2.1 280 a3.toInt.toNat), .int 2, .ref 213] _ _
    refine Lb_w (lb_ld rfl rfl rfl ?_)
    refine Lb_w (lb_ca [.int ((s.1 64) - a5), .int a5, .int (s.2.1 281 a3.toInt.toNat), .int (s.2.1 280 a3.toInt.toNat), .int 2, .ref 213] xo_isub rfl rfl (fun _ hk => ?_))
    replace hk := kc_sub (x := s.1 64) (y := a5) rfl rfl hk
    replace h := h hk _ (i_sub (x := s.1 64) (y := a5) rfl rfl hk)
    refine Lb_w (lb_call [.ref 213, .int 2, .int (s.2.1 280 a3.toInt.toNat), .int (s.2.1 281 a3.toInt.toNat), .int a5, .int ((s.1 64) - a5)] [] rfl rfl rfl (Par.imp h (fun v4 s3 h => ?_)))
    obtain ⟨rfl, h⟩ := h
    change Lb _ _ _ _ _ _ _ [] _ _
    refine Lb_w (lb_ld rfl rfl rfl ?_)
    refine Lb_w (lb_get rfl rfl ?_)
    change Lb _ _ _ _ _ _ _ [.int (s3.1 112)] _ _
    refine Lb_w (lb_ld rfl rfl rfl ?_)
    refine Lb_w (lb_brN rfl rfl ⟨fun hc => ?_, fun hc => ?_⟩)
    · replace h := h.1 (fun q => hc ((i_eq (x := s3.1 112) (y := s.1 112) rfl rfl).mpr q))
      refine Lb_w (lb_ld rfl rfl rfl ?_)
      refine Lb_w (lb_ld rfl rfl rfl ?_)
      refine Lb_w (lb_ld rfl rfl rfl ?_)
      refine Lb_w (lb_get rfl rfl ?_)
      change Lb _ _ _ _ _ _ _ [.ref 280, .int a1, .ref 213] _ _
      refine Lb_w (lb_ld rfl rfl rfl ?_)
      refine Lb_w (lb_ial rfl rfl (fun hk => ?_))
      change Lb _ _ _ _ _ _ _ [.int (s3.2.1 280 a3.toInt.toNat), .int a1, .ref 213] _ _
      replace h := h (kc_in (x := a3) rfl hk)
      refine Lb_w (lb_call [.ref 213, .int a1, .int (s3.2.1 280 a3.toInt.toNat)] [] rfl rfl rfl (Par.imp h (fun v6 s5 h => ?_)))
      obtain ⟨x7, rfl, h⟩ := h
      change Lb _ _ _ _ _ _ _ [.int x7] _ _
      refine Lb_w (lb_st [.ref 213, .int a1, .int a2, .int a3, .int a4, .int a5, .int a6, .int (s.1 112), .int x7, .null, .null, .null, .null, .null, .null, .null, .null, .null] rfl rfl rfl ?_)
      refine Lb_w (lb_ld rfl rfl rfl ?_)
      refine Lb_w (lb_ld rfl rfl rfl ?_)
      refine Lb_w (lb_get rfl rfl ?_)
      change Lb _ _ _ _ _ _ _ [.int (s5.1 73), .ref 213] _ _
      refine Lb_w (lb_call [.ref 213, .int (s5.1 73)] [] rfl rfl rfl (Par.imp h (fun v9 s8 h => ?_)))
      obtain ⟨x10, rfl, h⟩ := h
      change Lb _ _ _ _ _ _ _ [.int x10] _ _
      refine Lb_w (lb_st [.ref 213, .int a1, .int a2, .int a3, .int a4, .int a5, .int a6, .int (s.1 112), .int x7, .int x10, .null, .null, .null, .null, .null, .null, .null, .null] rfl rfl rfl ?_)
      refine Lb_w (lb_ld rfl rfl rfl ?_)
      refine Lb_w (lb_call [.ref 213] [] rfl rfl rfl (Par.imp h (fun v12 s11 h => ?_)))
      obtain ⟨x13, rfl, h⟩ := h
      change Lb _ _ _ _ _ _ _ [.int x13] _ _
      refine Lb_w (lb_st [.ref 213, .int a1, .int a2, .int a3, .int a4, .int a5, .int a6, .int (s.1 112), .int x7, .int x10, .int x13, .null, .null, .null, .null, .null, .null, .null] rfl rfl rfl ?_)
      refine Lb_w (lb_ld rfl rfl rfl ?_)
      refine Lb_w (lb_ld rfl rfl rfl ?_)
      refine Lb_w (lb_c [.int 0, .int x13, .ref 213] (xo_push (.int 0)) rfl rfl ?_)
      refine Lb_w (lb_ld rfl rfl rfl ?_)
      refine Lb_w (lb_get rfl rfl ?_)
      change Lb _ _ _ _ _ _ _ [.int (s11.1 74), .int 0, .int x13, .ref 213] _ _
      refine Lb_w (lb_ld rfl rfl rfl ?_)
      refine Lb_w (lb_call [.ref 213, .int x13, .int 0, .int (s11.1 74), .int a5] [] rfl rfl rfl (Par.imp h (fun v15 s14 h => ?_)))
      obtain ⟨rfl, h⟩ := h
      change Lb _ _ _ _ _ _ _ [] _ _
      refine Lb_w (lb_c [.int 2] (xo_push (.int 2)) rfl rfl ?_)
      refine Lb_w (lb_ld rfl rfl rfl ?_)
      refine Lb_w (lb_ca [.int (2 * x13)] xo_imul rfl rfl (fun _ hk => ?_))
      replace hk := kc_mul (x := 2) (y := x13) (show (2 : Int32).toInt = 2 by decide) rfl hk
      replace h := h hk _ (i_mul (x := 2) (y := x13) (show (2 : Int32).toInt = 2 by decide) rfl hk)
      refine Lb_w (lb_c [.int 1, .int (2 * x13)] (xo_push (.int 1)) rfl rfl ?_)
      refine Lb_w (lb_ca [.int ((2 * x13) + 1)] xo_iadd rfl rfl (fun _ hk => ?_))
      replace hk := kc_add (x := (2 * x13)) (y := 1) rfl (show (1 : Int32).toInt = 1 by decide) hk
      replace h := h hk _ (i_add (x := (2 * x13)) (y := 1) rfl (show (1 : Int32).toInt = 1 by decide) hk)
      refine Lb_w (lb_st [.ref 213, .int a1, .int a2, .int a3, .int a4, .int a5, .int a6, .int (s.1 112), .int x7, .int x10, .int x13, .int ((2 * x13) + 1), .null, .null, .null, .null, .null, .null] rfl rfl rfl ?_)
      refine Lb_w (lb_ld rfl rfl rfl ?_)
      refine Lb_w (lb_get rfl rfl ?_)
      change Lb _ _ _ _ _ _ _ [.ref 265] _ _
      refine Lb_w (lb_ld rfl rfl rfl ?_)
      refine Lb_w (lb_c [.int 2000, .int ((2 * x13) + 1), .ref 265] (xo_push (.int 2000)) rfl rfl ?_)
      refine Lb_w (lb_c [.int 6, .int 2000, .int ((2 * x13) + 1), .ref 265] (xo_push (.int 6)) rfl rfl ?_)
      refine Lb_w (lb_ld rfl rfl rfl ?_)
      refine Lb_w (lb_get rfl rfl ?_)
      change Lb _ _ _ _ _ _ _ [.int (s14.1 73), .int 6, .int 2000, .int ((2 * x13) + 1), .ref 265] _ _
      refine Lb_w (lb_c [.int 204, .int (s14.1 73), .int 6, .int 2000, .int ((2 * x13) + 1), .ref 265] (xo_push (.int 204)) rfl rfl ?_)
      refine Lb_w (lb_ld rfl rfl rfl ?_)
      refine Lb_w (lb_get rfl rfl ?_)
      change Lb _ _ _ _ _ _ _ [.int (s14.1 75), .int 204, .int (s14.1 73), .int 6, .int 2000, .int ((2 * x13) + 1), .ref 265] _ _
      refine Lb_w (lb_ca [.int (204 * (s14.1 75)), .int (s14.1 73), .int 6, .int 2000, .int ((2 * x13) + 1), .ref 265] xo_imul rfl rfl (fun _ hk => ?_))
      replace hk := kc_mul (x := 204) (y := s14.1 75) (show (204 : Int32).toInt = 204 by decide) rfl hk
      replace h := h hk _ (i_mul (x := 204) (y := s14.1 75) (show (204 : Int32).toInt = 204 by decide) rfl hk)
      refine Lb_w (lb_ca [.int ((s14.1 73) - (204 * (s14.1 75))), .int 6, .int 2000, .int ((2 * x13) + 1), .ref 265] xo_isub rfl rfl (fun _ hk => ?_))
      replace hk := kc_sub (x := s14.1 73) (y := (204 * (s14.1 75))) rfl rfl hk
      replace h := h hk _ (i_sub (x := s14.1 73) (y := (204 * (s14.1 75))) rfl rfl hk)
      refine Lb_w (lb_ca [.int (6 * ((s14.1 73) - (204 * (s14.1 75)))), .int 2000, .int ((2 * x13) + 1), .ref 265] xo_imul rfl rfl (fun _ hk => ?_))
      replace hk := kc_mul (x := 6) (y := ((s14.1 73) - (204 * (s14.1 75)))) (show (6 : Int32).toInt = 6 by decide) rfl hk
      replace h := h hk _ (i_mul (x := 6) (y := ((s14.1 73) - (204 * (s14.1 75)))) (show (6 : Int32).toInt = 6 by decide) rfl hk)
      refine Lb_w (lb_ca [.int (2000 + (6 * ((s14.1 73) - (204 * (s14.1 75))))), .int ((2 * x13) + 1), .ref 265] xo_iadd rfl rfl (fun _ hk => ?_))
      replace hk := kc_add (x := 2000) (y := (6 * ((s14.1 73) - (204 * (s14.1 75))))) (show (2000 : Int32).toInt = 2000 by decide) rfl hk
      replace h := h hk _ (i_add (x := 2000) (y := (6 * ((s14.1 73) - (204 * (s14.1 75))))) (show (2000 : Int32).toInt = 2000 by decide) rfl hk)
      refine Lb_w (lb_ias rfl rfl (fun hk => ?_))
      replace h := h (kc_in (x := ((2 * x13) + 1)) rfl hk)
      replace h := h _ rfl
      refine Lb_w (lb_ld rfl rfl rfl ?_)
      refine Lb_w (lb_get rfl rfl ?_)
      change Lb _ _ _ _ _ _ _ [.ref 266] _ _
      refine Lb_w (lb_ld rfl rfl rfl ?_)
      refine Lb_w (lb_ld rfl rfl rfl ?_)
      refine Lb_w (lb_get rfl rfl ?_)
      change Lb _ _ _ _ _ _ _ [.ref 281, .int ((2 * x13) + 1), .ref 266] _ _
      refine Lb_w (lb_ld rfl rfl rfl ?_)
      refine Lb_w (lb_ial rfl rfl (fun hk => ?_))
      change Lb _ _ _ _ _ _ _ [.int ((sa s14 265 ((2 * x13) + 1).toInt.toNat (2000 + (6 * ((s14.1 73) - (204 * (s14.1 75)))))).2.1 281 a3.toInt.toNat), .int ((2 * x13) + 1), .ref 266] _ _
      replace h := h (kc_in (x := a3) rfl hk)
      refine Lb_w (lb_c [.int 1, .int ((sa s14 265 ((2 * x13) + 1).toInt.toNat (2000 + (6 * ((s14.1 73) - (204 * (s14.1 75)))))).2.1 281 a3.toInt.toNat), .int ((2 * x13) + 1), .ref 266] (xo_push (.int 1)) rfl rfl ?_)
      refine Lb_w (lb_ca [.int (((sa s14 265 ((2 * x13) + 1).toInt.toNat (2000 + (6 * ((s14.1 73) - (204 * (s14.1 75)))))).2.1 281 a3.toInt.toNat) - 1), .int ((2 * x13) + 1), .ref 266] xo_isub rfl rfl (fun _ hk => ?_))
      replace hk := kc_sub (x := (sa s14 265 ((2 * x13) + 1).toInt.toNat (2000 + (6 * ((s14.1 73) - (204 * (s14.1 75)))))).2.1 281 a3.toInt.toNat) (y := 1) rfl (show (1 : Int32).toInt = 1 by decide) hk
      replace h := h hk _ (i_sub (x := (sa s14 265 ((2 * x13) + 1).toInt.toNat (2000 + (6 * ((s14.1 73) - (204 * (s14.1 75)))))).2.1 281 a3.toInt.toNat) (y := 1) rfl (show (1 : Int32).toInt = 1 by decide) hk)
      refine Lb_w (lb_ias rfl rfl (fun hk => ?_))
      replace h := h (kc_in (x := ((2 * x13) + 1)) rfl hk)
      replace h := h _ rfl
      refine Lb_w (lb_ld rfl rfl rfl ?_)
      refine Lb_w (lb_ld rfl rfl rfl ?_)
      refine Lb_w (lb_ca [.int (a5 + a2)] xo_iadd rfl rfl (fun _ hk => ?_))
      replace hk := kc_add (x := a5) (y := a2) rfl rfl hk
      replace h := h hk _ (i_add (x := a5) (y := a2) rfl rfl hk)
      refine Lb_w (lb_st [.ref 213, .int a1, .int a2, .int a3, .int a4, .int a5, .int a6, .int (s.1 112), .int x7, .int x10, .int x13, .int ((2 * x13) + 1), .int (a5 + a2), .null, .null, .null, .null, .null] rfl rfl rfl ?_)
      refine Lb_w (lb_c [.int 0] (xo_push (.int 0)) rfl rfl ?_)
      refine Lb_w (lb_st [.ref 213, .int a1, .int a2, .int a3, .int a4, .int a5, .int a6, .int (s.1 112), .int x7, .int x10, .int x13, .int ((2 * x13) + 1), .int (a5 + a2), .int 0, .null, .null, .null, .null] rfl rfl rfl ?_)
      exact lkl_256_189  h
    · replace h := h.2 ((i_eq (x := s3.1 112) (y := s.1 112) rfl rfl).mp hc)
      refine Lb_w (lb_ld rfl rfl rfl ?_)
      refine Lb_w (lb_ld rfl rfl rfl ?_)
      refine Lb_w (lb_put rfl rfl (fun hk => ?_))
      replace h := h _ rfl
      exact Lb_w (lb_ret0 rfl h)
  · replace h := h.2 (fun q => hc ((i_le (x := ((s.2.1 282 a3.toInt.toNat) + (s.2.1 283 a3.toInt.toNat))) (y := a7) rfl rfl).mpr q))
    refine Lb_w (lb_ld rfl rfl rfl ?_)
    refine Lb_w (lb_get rfl rfl ?_)
    change Lb _ _ _ _ _ _ _ [.ref 264] _ _
    refine Lb_w (lb_ld rfl rfl rfl ?_)
    refine Lb_w (lb_get rfl rfl ?_)
    change Lb _ _ _ _ _ _ _ [.int (s.1 64), .ref 264] _ _
    refine Lb_w (lb_ld rfl rfl rfl ?_)
    refine Lb_w (lb_get rfl rfl ?_)
    change Lb _ _ _ _ _ _ _ [.ref 264, .int (s.1 64), .ref 264] _ _
    refine Lb_w (lb_ld rfl rfl rfl ?_)
    refine Lb_w (lb_ial rfl rfl (fun hk => ?_))
    change Lb _ _ _ _ _ _ _ [.int (s.2.1 264 a7.toInt.toNat), .int (s.1 64), .ref 264] _ _
    replace h := h (kc_in (x := a7) rfl hk)
    refine Lb_w (lb_ias rfl rfl (fun hk => ?_))
    replace h := h (kc_in (x := s.1 64) rfl hk)
    replace h := h _ rfl
    refine Lb_w (lb_ld rfl rfl rfl ?_)
    refine Lb_w (lb_c [.ref 213, .ref 213] xo_dup rfl rfl ?_)
    refine Lb_w (lb_get rfl rfl ?_)
    change Lb _ _ _ _ _ _ _ [.int ((sa s 264 (s.1 64).toInt.toNat (s.2.1 264 a7.toInt.toNat)).1 64), .ref 213] _ _
    refine Lb_w (lb_c [.int 1, .int ((sa s 264 (s.1 64).toInt.toNat (s.2.1 264 a7.toInt.toNat)).1 64), .ref 213] (xo_push (.int 1)) rfl rfl ?_)
    refine Lb_w (lb_ca [.int (((sa s 264 (s.1 64).toInt.toNat (s.2.1 264 a7.toInt.toNat)).1 64) + 1), .ref 213] xo_iadd rfl rfl (fun _ hk => ?_))
    replace hk := kc_add (x := (sa s 264 (s.1 64).toInt.toNat (s.2.1 264 a7.toInt.toNat)).1 64) (y := 1) rfl (show (1 : Int32).toInt = 1 by decide) hk
    replace h := h hk _ (i_add (x := (sa s 264 (s.1 64).toInt.toNat (s.2.1 264 a7.toInt.toNat)).1 64) (y := 1) rfl (show (1 : Int32).toInt = 1 by decide) hk)
    refine Lb_w (lb_put rfl rfl (fun hk => ?_))
    replace h := h _ rfl
    refine Lb_w (lb_inc [.ref 213, .int a1, .int a2, .int a3, .int a4, .int a5, .int a6, .int (a7 + 1), .null, .null, .null, .null, .null, .null, .null, .null, .null, .null] rfl rfl rfl rfl (fun hk => ?_))
    replace hk := kc_inc (x := a7) (n := 1) rfl hk
    replace h := h hk _ (i_add (x := a7) (y := 1) rfl (show (1 : Int32).toInt = 1 by decide) hk)
    refine Lb_w (lb_go rfl ?_)
    exact r74 a1 a2 a3 a4 a5 a6 (a7 + 1)  (sf (sa s 264 (s.1 64).toInt.toNat (s.2.1 264 a7.toInt.toNat)) 64 (((sa s 264 (s.1 64).toInt.toNat (s.2.1 264 a7.toInt.toNat)).1 64) + 1)) h
def ubl_256_74 (T : Nat → List Value → yS → (Option Value → yS → Prop) → Prop)  (a1 : Int32) (a2 : Int32) (a3 : Int32) (a4 : Int32) (a5 : Int32) (a6 : Int32) (a7 : Int32) (s : yS) (P : Option Value → yS → Prop) : Prop :=
  ∃ (I : Int32 → Int32 → Int32 → Int32 → Int32 → Int32 → Int32 → yS → Prop), I a1 a2 a3 a4 a5 a6 a7 s ∧ ∀ (a1 : Int32) (a2 : Int32) (a3 : Int32) (a4 : Int32) (a5 : Int32) (a6 : Int32) (a7 : Int32) (s : yS), I a1 a2 a3 a4 a5 a6 a7 s → ub_256_74 T I a1 a2 a3 a4 a5 a6 a7 s P
theorem lkl_256_74 {d N0 : Nat}  {a1 : Int32} {a2 : Int32} {a3 : Int32} {a4 : Int32} {a5 : Int32} {a6 : Int32} {a7 : Int32} {s : yS} {P : Option Value → yS → Prop}  (h : ubl_256_74 (Par d)  a1 a2 a3 a4 a5 a6 a7 s P) : Lb d N0 14 (none) xE_256 (xE_256.drop 74) [.ref 213, .int a1, .int a2, .int a3, .int a4, .int a5, .int a6, .int a7, .null, .null, .null, .null, .null, .null, .null, .null, .null, .null] [] s P := by
  obtain ⟨I, h0, h1⟩ := h
  have key : ∀ (m : Nat), m ≤ N0 → ∀ (a1 : Int32) (a2 : Int32) (a3 : Int32) (a4 : Int32) (a5 : Int32) (a6 : Int32) (a7 : Int32) (s : yS), I a1 a2 a3 a4 a5 a6 a7 s → Lb d m 14 (none) xE_256 (xE_256.drop 74) [.ref 213, .int a1, .int a2, .int a3, .int a4, .int a5, .int a6, .int a7, .null, .null, .null, .null, .null, .null, .null, .null, .null, .null] [] s P := by
    intro m
    induction m with
    | zero => exact fun _ a1 a2 a3 a4 a5 a6 a7 s _ => Lb_0
    | succ m ih =>
      intro hm
      replace hm : m ≤ N0 := Nat.le_of_succ_le hm
      replace ih := ih hm
      intro a1 a2 a3 a4 a5 a6 a7 s hI
      exact lk_256_74 ih (h1 a1 a2 a3 a4 a5 a6 a7 s hI)
  exact key N0 (Nat.le_refl _) a1 a2 a3 a4 a5 a6 a7 s h0
def ub_256_50 (T : Nat → List Value → yS → (Option Value → yS → Prop) → Prop) (R50 : Int32 → Int32 → Int32 → Int32 → Int32 → Int32 → Int32 → yS → Prop) (a1 : Int32) (a2 : Int32) (a3 : Int32) (a4 : Int32) (a5 : Int32) (a6 : Int32) (a7 : Int32) (s : yS) (P : Option Value → yS → Prop) : Prop :=
  (a2.toInt ≤ a7.toInt → ubl_256_74 T  a1 a2 a3 a4 a5 a6 a6  s P) ∧ (¬ (a2.toInt ≤ a7.toInt) → ((-2147483648 ≤ a1.toInt + a7.toInt ∧ a1.toInt + a7.toInt ≤ 2147483647) → ∀ x1 : Int32, x1.toInt = a1.toInt + a7.toInt → ((0 ≤ x1.toInt ∧ x1.toInt < 200000) → ((0 ≤ (s.1 64).toInt ∧ (s.1 64).toInt < 200000) → ∀ s2, s2 = sa s 264 (s.1 64).toInt.toNat (s.2.1 264 x1.toInt.toNat) → ((-2147483648 ≤ (s2.1 64).toInt + 1 ∧ (s2.1 64).toInt + 1 ≤ 2147483647) → ∀ x3 : Int32, x3.toInt = (s2.1 64).toInt + 1 → ∀ s4, s4 = sf s2 64 x3 → ((-2147483648 ≤ a7.toInt + 1 ∧ a7.toInt + 1 ≤ 2147483647) → ∀ x5 : Int32, x5.toInt = a7.toInt + 1 → R50 a1 a2 a3 a4 a5 a6 x5  s4))))))
set_option maxRecDepth 20000 in
theorem lk_256_50 {d N0 : Nat} {R50 : Int32 → Int32 → Int32 → Int32 → Int32 → Int32 → Int32 → yS → Prop} {a1 : Int32} {a2 : Int32} {a3 : Int32} {a4 : Int32} {a5 : Int32} {a6 : Int32} {a7 : Int32} {s : yS} {P : Option Value → yS → Prop} (r50 : ∀ a1 a2 a3 a4 a5 a6 a7 s, R50 a1 a2 a3 a4 a5 a6 a7 s → Lb d N0 14 (none) xE_256 (xE_256.drop 50) [.ref 213, .int a1, .int a2, .int a3, .int a4, .int a5, .int a6, .int a7, .null, .null, .null, .null, .null, .null, .null, .null, .null, .null] [] s P) (h : ub_256_50 (Par d) R50 a1 a2 a3 a4 a5 a6 a7 s P) : Lb d (N0 + 1) 14 (none) xE_256 (xE_256.drop 50) [.ref 213, .int a1, .int a2, .int a3, .int a4, .int a5, .int a6, .int a7, .null, .null, .null, .null, .null, .null, .null, .null, .null, .null] [] s P := by
  unfold ub_256_50 at h
  refine lb_ld rfl rfl rfl ?_
  refine Lb_w (lb_ld rfl rfl rfl ?_)
  refine Lb_w (lb_brP rfl rfl ⟨fun hc => ?_, fun hc => ?_⟩)
  · replace h := h.1 ((i_le (x := a2) (y := a7) rfl rfl).mp hc)
    refine Lb_w (lb_ld rfl rfl rfl ?_)
    refine Lb_w (lb_st [.ref 213, .int a1, .int a2, .int a3, .int a4, .int a5, .int a6, .int a6, .null, .null, .null, .null, .null, .null, .null, .null, .null, .null] rfl rfl rfl ?_)
    exact lkl_256_74  h
  · replace h := h.2 (fun q => hc ((i_le (x := a2) (y := a7) rfl rfl).mpr q))
    refine Lb_w (lb_ld rfl rfl rfl ?_)
    refine Lb_w (lb_get rfl rfl ?_)
    change Lb _ _ _ _ _ _ _ [.ref 264] _ _
    refine Lb_w (lb_ld rfl rfl rfl ?_)
    refine Lb_w (lb_get rfl rfl ?_)
    change Lb _ _ _ _ _ _ _ [.int (s.1 64), .ref 264] _ _
    refine Lb_w (lb_ld rfl rfl rfl ?_)
    refine Lb_w (lb_get rfl rfl ?_)
    change Lb _ _ _ _ _ _ _ [.ref 264, .int (s.1 64), .ref 264] _ _
    refine Lb_w (lb_ld rfl rfl rfl ?_)
    refine Lb_w (lb_ld rfl rfl rfl ?_)
    refine Lb_w (lb_ca [.int (a1 + a7), .ref 264, .int (s.1 64), .ref 264] xo_iadd rfl rfl (fun _ hk => ?_))
    replace hk := kc_add (x := a1) (y := a7) rfl rfl hk
    replace h := h hk _ (i_add (x := a1) (y := a7) rfl rfl hk)
    refine Lb_w (lb_ial rfl rfl (fun hk => ?_))
    change Lb _ _ _ _ _ _ _ [.int (s.2.1 264 (a1 + a7).toInt.toNat), .int (s.1 64), .ref 264] _ _
    replace h := h (kc_in (x := (a1 + a7)) rfl hk)
    refine Lb_w (lb_ias rfl rfl (fun hk => ?_))
    replace h := h (kc_in (x := s.1 64) rfl hk)
    replace h := h _ rfl
    refine Lb_w (lb_ld rfl rfl rfl ?_)
    refine Lb_w (lb_c [.ref 213, .ref 213] xo_dup rfl rfl ?_)
    refine Lb_w (lb_get rfl rfl ?_)
    change Lb _ _ _ _ _ _ _ [.int ((sa s 264 (s.1 64).toInt.toNat (s.2.1 264 (a1 + a7).toInt.toNat)).1 64), .ref 213] _ _
    refine Lb_w (lb_c [.int 1, .int ((sa s 264 (s.1 64).toInt.toNat (s.2.1 264 (a1 + a7).toInt.toNat)).1 64), .ref 213] (xo_push (.int 1)) rfl rfl ?_)
    refine Lb_w (lb_ca [.int (((sa s 264 (s.1 64).toInt.toNat (s.2.1 264 (a1 + a7).toInt.toNat)).1 64) + 1), .ref 213] xo_iadd rfl rfl (fun _ hk => ?_))
    replace hk := kc_add (x := (sa s 264 (s.1 64).toInt.toNat (s.2.1 264 (a1 + a7).toInt.toNat)).1 64) (y := 1) rfl (show (1 : Int32).toInt = 1 by decide) hk
    replace h := h hk _ (i_add (x := (sa s 264 (s.1 64).toInt.toNat (s.2.1 264 (a1 + a7).toInt.toNat)).1 64) (y := 1) rfl (show (1 : Int32).toInt = 1 by decide) hk)
    refine Lb_w (lb_put rfl rfl (fun hk => ?_))
    replace h := h _ rfl
    refine Lb_w (lb_inc [.ref 213, .int a1, .int a2, .int a3, .int a4, .int a5, .int a6, .int (a7 + 1), .null, .null, .null, .null, .null, .null, .null, .null, .null, .null] rfl rfl rfl rfl (fun hk => ?_))
    replace hk := kc_inc (x := a7) (n := 1) rfl hk
    replace h := h hk _ (i_add (x := a7) (y := 1) rfl (show (1 : Int32).toInt = 1 by decide) hk)
    refine Lb_w (lb_go rfl ?_)
    exact r50 a1 a2 a3 a4 a5 a6 (a7 + 1)  (sf (sa s 264 (s.1 64).toInt.toNat (s.2.1 264 (a1 + a7).toInt.toNat)) 64 (((sa s 264 (s.1 64).toInt.toNat (s.2.1 264 (a1 + a7).toInt.toNat)).1 64) + 1)) h
def ubl_256_50 (T : Nat → List Value → yS → (Option Value → yS → Prop) → Prop)  (a1 : Int32) (a2 : Int32) (a3 : Int32) (a4 : Int32) (a5 : Int32) (a6 : Int32) (a7 : Int32) (s : yS) (P : Option Value → yS → Prop) : Prop :=
  ∃ (I : Int32 → Int32 → Int32 → Int32 → Int32 → Int32 → Int32 → yS → Prop), I a1 a2 a3 a4 a5 a6 a7 s ∧ ∀ (a1 : Int32) (a2 : Int32) (a3 : Int32) (a4 : Int32) (a5 : Int32) (a6 : Int32) (a7 : Int32) (s : yS), I a1 a2 a3 a4 a5 a6 a7 s → ub_256_50 T I a1 a2 a3 a4 a5 a6 a7 s P
theorem lkl_256_50 {d N0 : Nat}  {a1 : Int32} {a2 : Int32} {a3 : Int32} {a4 : Int32} {a5 : Int32} {a6 : Int32} {a7 : Int32} {s : yS} {P : Option Value → yS → Prop}  (h : ubl_256_50 (Par d)  a1 a2 a3 a4 a5 a6 a7 s P) : Lb d N0 14 (none) xE_256 (xE_256.drop 50) [.ref 213, .int a1, .int a2, .int a3, .int a4, .int a5, .int a6, .int a7, .null, .null, .null, .null, .null, .null, .null, .null, .null, .null] [] s P := by
  obtain ⟨I, h0, h1⟩ := h
  have key : ∀ (m : Nat), m ≤ N0 → ∀ (a1 : Int32) (a2 : Int32) (a3 : Int32) (a4 : Int32) (a5 : Int32) (a6 : Int32) (a7 : Int32) (s : yS), I a1 a2 a3 a4 a5 a6 a7 s → Lb d m 14 (none) xE_256 (xE_256.drop 50) [.ref 213, .int a1, .int a2, .int a3, .int a4, .int a5, .int a6, .int a7, .null, .null, .null, .null, .null, .null, .null, .null, .null, .null] [] s P := by
    intro m
    induction m with
    | zero => exact fun _ a1 a2 a3 a4 a5 a6 a7 s _ => Lb_0
    | succ m ih =>
      intro hm
      replace hm : m ≤ N0 := Nat.le_of_succ_le hm
      replace ih := ih hm
      intro a1 a2 a3 a4 a5 a6 a7 s hI
      exact lk_256_50 ih (h1 a1 a2 a3 a4 a5 a6 a7 s hI)
  exact key N0 (Nat.le_refl _) a1 a2 a3 a4 a5 a6 a7 s h0
def ub_256_37 (T : Nat → List Value → yS → (Option Value → yS → Prop) → Prop)  (a1 : Int32) (a2 : Int32) (a3 : Int32) (a4 : Int32) (s : yS) (P : Option Value → yS → Prop) : Prop :=
  P none s
set_option maxRecDepth 20000 in
theorem lk_256_37 {d N0 : Nat}  {a1 : Int32} {a2 : Int32} {a3 : Int32} {a4 : Int32} {s : yS} {P : Option Value → yS → Prop}  (h : ub_256_37 (Par d)  a1 a2 a3 a4 s P) : Lb d N0 14 (none) xE_256 (xE_256.drop 37) [.ref 213, .int a1, .int a2, .int a3, .int a4, .null, .null, .null, .null, .null, .null, .null, .null, .null, .null, .null, .null, .null] [] s P := by
  unfold ub_256_37 at h
  exact Lb_w (lb_ret0 rfl h)
def ub_256_30 (T : Nat → List Value → yS → (Option Value → yS → Prop) → Prop)  (a1 : Int32) (a2 : Int32) (a3 : Int32) (a4 : Int32) (t1 : Int32) (s : yS) (P : Option Value → yS → Prop) : Prop :=
  ((t1.toInt = 0 ∨ t1.toInt = 1) → ∀ s1, s1 = sf s 111 t1 → (¬ (a4.toInt = 1) → ub_256_37 T  a1 a2 a3 a4  s1 P) ∧ (a4.toInt = 1 → (¬ ((s1.1 111).toInt = 0) → ((0 ≤ a3.toInt ∧ a3.toInt < 160) → T 186 [.ref 213, .int (s1.2.1 282 a3.toInt.toNat)] s1 (fun v3 s2 => ∃ x4, v3 = some (.int x4) ∧ (ubl_256_50 T  a1 a2 a3 a4 (s1.1 64) x4 0  s2 P)))) ∧ ((s1.1 111).toInt = 0 → ub_256_37 T  a1 a2 a3 a4  s1 P)))
set_option maxRecDepth 20000 in
theorem lk_256_30 {d N0 : Nat}  {a1 : Int32} {a2 : Int32} {a3 : Int32} {a4 : Int32} {t1 : Int32} {s : yS} {P : Option Value → yS → Prop}  (h : ub_256_30 (Par d)  a1 a2 a3 a4 t1 s P) : Lb d N0 14 (none) xE_256 (xE_256.drop 30) [.ref 213, .int a1, .int a2, .int a3, .int a4, .null, .null, .null, .null, .null, .null, .null, .null, .null, .null, .null, .null, .null] [.int t1, .ref 213] s P := by
  unfold ub_256_30 at h
  refine Lb_w (lb_put rfl rfl (fun hk => ?_))
  replace h := h (kc_z (x := t1) rfl hk)
  replace h := h _ rfl
  refine Lb_w (lb_ld rfl rfl rfl ?_)
  refine Lb_w (lb_c [.int 1, .int a4] (xo_push (.int 1)) rfl rfl ?_)
  refine Lb_w (lb_brN rfl rfl ⟨fun hc => ?_, fun hc => ?_⟩)
  · replace h := h.1 (fun q => hc ((i_eq (x := a4) (y := 1) rfl (show (1 : Int32).toInt = 1 by decide)).mpr q))
    exact lk_256_37  h
  · replace h := h.2 ((i_eq (x := a4) (y := 1) rfl (show (1 : Int32).toInt = 1 by decide)).mp hc)
    refine Lb_w (lb_ld rfl rfl rfl ?_)
    refine Lb_w (lb_get rfl rfl ?_)
    change Lb _ _ _ _ _ _ _ [.int ((sf s 111 t1).1 111)] _ _
    refine Lb_w (lb_brN rfl rfl ⟨fun hc => ?_, fun hc => ?_⟩)
    · replace h := h.1 (fun q => hc ((i_eq (x := (sf s 111 t1).1 111) (y := 0) rfl (show (0 : Int32).toInt = 0 by decide)).mpr q))
      refine Lb_w (lb_ld rfl rfl rfl ?_)
      refine Lb_w (lb_get rfl rfl ?_)
      change Lb _ _ _ _ _ _ _ [.int ((sf s 111 t1).1 64)] _ _
      refine Lb_w (lb_st [.ref 213, .int a1, .int a2, .int a3, .int a4, .int ((sf s 111 t1).1 64), .null, .null, .null, .null, .null, .null, .null, .null, .null, .null, .null, .null] rfl rfl rfl ?_)
      refine Lb_w (lb_ld rfl rfl rfl ?_)
      refine Lb_w (lb_ld rfl rfl rfl ?_)
      refine Lb_w (lb_get rfl rfl ?_)
      change Lb _ _ _ _ _ _ _ [.ref 282, .ref 213] _ _
      refine Lb_w (lb_ld rfl rfl rfl ?_)
      refine Lb_w (lb_ial rfl rfl (fun hk => ?_))
      change Lb _ _ _ _ _ _ _ [.int ((sf s 111 t1).2.1 282 a3.toInt.toNat), .ref 213] _ _
      replace h := h (kc_in (x := a3) rfl hk)
      refine Lb_w (lb_call [.ref 213, .int ((sf s 111 t1).2.1 282 a3.toInt.toNat)] [] rfl rfl rfl (Par.imp h (fun v3 s2 h => ?_)))
      obtain ⟨x4, rfl, h⟩ := h
      change Lb _ _ _ _ _ _ _ [.int x4] _ _
      refine Lb_w (lb_st [.ref 213, .int a1, .int a2, .int a3, .int a4, .int ((sf s 111 t1).1 64), .int x4, .null, .null, .null, .null, .null, .null, .null, .null, .null, .null, .null] rfl rfl rfl ?_)
      refine Lb_w (lb_c [.int 0] (xo_push (.int 0)) rfl rfl ?_)
      refine Lb_w (lb_st [.ref 213, .int a1, .int a2, .int a3, .int a4, .int ((sf s 111 t1).1 64), .int x4, .int 0, .null, .null, .null, .null, .null, .null, .null, .null, .null, .null] rfl rfl rfl ?_)
      exact lkl_256_50  h
    · replace h := h.2 ((i_eq (x := (sf s 111 t1).1 111) (y := 0) rfl (show (0 : Int32).toInt = 0 by decide)).mp hc)
      exact lk_256_37  h
def ub_256_29 (T : Nat → List Value → yS → (Option Value → yS → Prop) → Prop)  (a1 : Int32) (a2 : Int32) (a3 : Int32) (a4 : Int32) (s : yS) (P : Option Value → yS → Prop) : Prop :=
  ub_256_30 T  a1 a2 a3 a4 0 s P
set_option maxRecDepth 20000 in
theorem lk_256_29 {d N0 : Nat}  {a1 : Int32} {a2 : Int32} {a3 : Int32} {a4 : Int32} {s : yS} {P : Option Value → yS → Prop}  (h : ub_256_29 (Par d)  a1 a2 a3 a4 s P) : Lb d N0 14 (none) xE_256 (xE_256.drop 29) [.ref 213, .int a1, .int a2, .int a3, .int a4, .null, .null, .null, .null, .null, .null, .null, .null, .null, .null, .null, .null, .null] [.ref 213] s P := by
  unfold ub_256_29 at h
  refine Lb_w (lb_c [.int 0, .ref 213] (xo_push (.int 0)) rfl rfl ?_)
  exact lk_256_30  h
def ub_256_0 (T : Nat → List Value → yS → (Option Value → yS → Prop) → Prop)  (a1 : Int32) (a2 : Int32) (a3 : Int32) (s : yS) (P : Option Value → yS → Prop) : Prop :=
  ((0 ≤ a3.toInt ∧ a3.toInt < 160) → ((0 ≤ a3.toInt ∧ a3.toInt < 160) → T 186 [.ref 213, .int (s.2.1 282 a3.toInt.toNat)] s (fun v2 s1 => ∃ x3, v2 = some (.int x3) ∧ (((0 ≤ a3.toInt ∧ a3.toInt < 160) → ((-2147483648 ≤ x3.toInt - (s1.2.1 282 a3.toInt.toNat).toInt ∧ x3.toInt - (s1.2.1 282 a3.toInt.toNat).toInt ≤ 2147483647) → ∀ x4 : Int32, x4.toInt = x3.toInt - (s1.2.1 282 a3.toInt.toNat).toInt → T 195 [.ref 213, .int a1, .int a2, .int (s.2.1 282 a3.toInt.toNat), .int x4] s1 (fun v6 s5 => ∃ x7, v6 = some (.int x7) ∧ (((s5.1 111).toInt = 0 → ub_256_29 T  a1 a2 a3 x7  s5 P) ∧ (¬ ((s5.1 111).toInt = 0) → (x7.toInt = 2 → ub_256_29 T  a1 a2 a3 x7  s5 P) ∧ (¬ (x7.toInt = 2) → ub_256_30 T  a1 a2 a3 x7 1 s5 P))))))))))
set_option maxRecDepth 20000 in
theorem lk_256_0 {d N0 : Nat}  {a1 : Int32} {a2 : Int32} {a3 : Int32} {s : yS} {P : Option Value → yS → Prop}  (h : ub_256_0 (Par d)  a1 a2 a3 s P) : Lb d N0 14 (none) xE_256 (xE_256.drop 0) [.ref 213, .int a1, .int a2, .int a3, .null, .null, .null, .null, .null, .null, .null, .null, .null, .null, .null, .null, .null, .null] [] s P := by
  unfold ub_256_0 at h
  refine Lb_w (lb_ld rfl rfl rfl ?_)
  refine Lb_w (lb_ld rfl rfl rfl ?_)
  refine Lb_w (lb_ld rfl rfl rfl ?_)
  refine Lb_w (lb_ld rfl rfl rfl ?_)
  refine Lb_w (lb_get rfl rfl ?_)
  change Lb _ _ _ _ _ _ _ [.ref 282, .int a2, .int a1, .ref 213] _ _
  refine Lb_w (lb_ld rfl rfl rfl ?_)
  refine Lb_w (lb_ial rfl rfl (fun hk => ?_))
  change Lb _ _ _ _ _ _ _ [.int (s.2.1 282 a3.toInt.toNat), .int a2, .int a1, .ref 213] _ _
  replace h := h (kc_in (x := a3) rfl hk)
  refine Lb_w (lb_ld rfl rfl rfl ?_)
  refine Lb_w (lb_ld rfl rfl rfl ?_)
  refine Lb_w (lb_get rfl rfl ?_)
  change Lb _ _ _ _ _ _ _ [.ref 282, .ref 213, .int (s.2.1 282 a3.toInt.toNat), .int a2, .int a1, .ref 213] _ _
  refine Lb_w (lb_ld rfl rfl rfl ?_)
  refine Lb_w (lb_ial rfl rfl (fun hk => ?_))
  change Lb _ _ _ _ _ _ _ [.int (s.2.1 282 a3.toInt.toNat), .ref 213, .int (s.2.1 282 a3.toInt.toNat), .int a2, .int a1, .ref 213] _ _
  replace h := h (kc_in (x := a3) rfl hk)
  refine Lb_w (lb_call [.ref 213, .int (s.2.1 282 a3.toInt.toNat)] [.int (s.2.1 282 a3.toInt.toNat), .int a2, .int a1, .ref 213] rfl rfl rfl (Par.imp h (fun v2 s1 h => ?_)))
  obtain ⟨x3, rfl, h⟩ := h
  change Lb _ _ _ _ _ _ _ [.int x3, .int (s.2.1 282 a3.toInt.toNat), .int a2, .int a1, .ref 213] _ _
  refine Lb_w (lb_ld rfl rfl rfl ?_)
  refine Lb_w (lb_get rfl rfl ?_)
  change Lb _ _ _ _ _ _ _ [.ref 282, .int x3, .int (s.2.1 282 a3.toInt.toNat), .int a2, .int a1, .ref 213] _ _
  refine Lb_w (lb_ld rfl rfl rfl ?_)
  refine Lb_w (lb_ial rfl rfl (fun hk => ?_))
  change Lb _ _ _ _ _ _ _ [.int (s1.2.1 282 a3.toInt.toNat), .int x3, .int (s.2.1 282 a3.toInt.toNat), .int a2, .int a1, .ref 213] _ _
  replace h := h (kc_in (x := a3) rfl hk)
  refine Lb_w (lb_ca [.int (x3 - (s1.2.1 282 a3.toInt.toNat)), .int (s.2.1 282 a3.toInt.toNat), .int a2, .int a1, .ref 213] xo_isub rfl rfl (fun _ hk => ?_))
  replace hk := kc_sub (x := x3) (y := s1.2.1 282 a3.toInt.toNat) rfl rfl hk
  replace h := h hk _ (i_sub (x := x3) (y := s1.2.1 282 a3.toInt.toNat) rfl rfl hk)
  refine Lb_w (lb_call [.ref 213, .int a1, .int a2, .int (s.2.1 282 a3.toInt.toNat), .int (x3 - (s1.2.1 282 a3.toInt.toNat))] [] rfl rfl rfl (Par.imp h (fun v6 s5 h => ?_)))
  obtain ⟨x7, rfl, h⟩ := h
  change Lb _ _ _ _ _ _ _ [.int x7] _ _
  refine Lb_w (lb_st [.ref 213, .int a1, .int a2, .int a3, .int x7, .null, .null, .null, .null, .null, .null, .null, .null, .null, .null, .null, .null, .null] rfl rfl rfl ?_)
  refine Lb_w (lb_ld rfl rfl rfl ?_)
  refine Lb_w (lb_ld rfl rfl rfl ?_)
  refine Lb_w (lb_get rfl rfl ?_)
  change Lb _ _ _ _ _ _ _ [.int (s5.1 111), .ref 213] _ _
  refine Lb_w (lb_brP rfl rfl ⟨fun hc => ?_, fun hc => ?_⟩)
  · replace h := h.1 ((i_eq (x := s5.1 111) (y := 0) rfl (show (0 : Int32).toInt = 0 by decide)).mp hc)
    exact lk_256_29  h
  · replace h := h.2 (fun q => hc ((i_eq (x := s5.1 111) (y := 0) rfl (show (0 : Int32).toInt = 0 by decide)).mpr q))
    refine Lb_w (lb_ld rfl rfl rfl ?_)
    refine Lb_w (lb_c [.int 2, .int x7, .ref 213] (xo_push (.int 2)) rfl rfl ?_)
    refine Lb_w (lb_brP rfl rfl ⟨fun hc => ?_, fun hc => ?_⟩)
    · replace h := h.1 ((i_eq (x := x7) (y := 2) rfl (show (2 : Int32).toInt = 2 by decide)).mp hc)
      exact lk_256_29  h
    · replace h := h.2 (fun q => hc ((i_eq (x := x7) (y := 2) rfl (show (2 : Int32).toInt = 2 by decide)).mpr q))
      refine Lb_w (lb_c [.int 1, .ref 213] (xo_push (.int 1)) rfl rfl ?_)
      refine Lb_w (lb_go rfl ?_)
      exact lk_256_30  h
theorem pb_256 {d : Nat} {a1 : Int32} {a2 : Int32} {a3 : Int32} {s : yS} {P : Option Value → yS → Prop} (h : ub_256_0 (Par d) a1 a2 a3 s P) : Par (d + 1) 256 [.ref 213, .int a1, .int a2, .int a3] s P := par_of (E := xE_256) (ml := 14) (ret := none) rfl (fun _ => lk_256_0 h)
/-! instances -/
def ub_257_128 (T : Nat → List Value → yS → (Option Value → yS → Prop) → Prop)  (a1 : Int32) (a2 : Int32) (t1 : Int32) (s : yS) (P : Option Value → yS → Prop) : Prop :=
  ∀ s1, s1 = sf s 109 t1 → P (some (.int (s1.1 109))) s1
set_option maxRecDepth 20000 in
theorem lk_257_128 {d N0 : Nat}  {a1 : Int32} {a2 : Int32} {t1 : Int32} {s : yS} {P : Option Value → yS → Prop}  (h : ub_257_128 (Par d)  a1 a2 t1 s P) : Lb d N0 5 (some .int) xE_257 (xE_257.drop 128) [.ref 213, .int a1, .int a2, .null, .null, .null] [.int t1, .ref 213] s P := by
  unfold ub_257_128 at h
  refine Lb_w (lb_put rfl rfl (fun hk => ?_))
  replace h := h _ rfl
  refine Lb_w (lb_ld rfl rfl rfl ?_)
  refine Lb_w (lb_get rfl rfl ?_)
  change Lb _ _ _ _ _ _ _ [.int ((sf s 109 t1).1 109)] _ _
  exact Lb_w (lb_retI rfl h)
def ub_257_119 (T : Nat → List Value → yS → (Option Value → yS → Prop) → Prop)  (a1 : Int32) (a2 : Int32) (s : yS) (P : Option Value → yS → Prop) : Prop :=
  ((s.1 111).toInt = 0 → ub_257_128 T  a1 a2 (-1) s P) ∧ (¬ ((s.1 111).toInt = 0) → T 258 [.ref 213, .int 2] s (fun v2 s1 => ∃ x3, v2 = some (.int x3) ∧ (ub_257_128 T  a1 a2 x3 s1 P)))
set_option maxRecDepth 20000 in
theorem lk_257_119 {d N0 : Nat}  {a1 : Int32} {a2 : Int32} {s : yS} {P : Option Value → yS → Prop}  (h : ub_257_119 (Par d)  a1 a2 s P) : Lb d N0 5 (some .int) xE_257 (xE_257.drop 119) [.ref 213, .int a1, .int a2, .null, .null, .null] [] s P := by
  unfold ub_257_119 at h
  refine Lb_w (lb_ld rfl rfl rfl ?_)
  refine Lb_w (lb_ld rfl rfl rfl ?_)
  refine Lb_w (lb_get rfl rfl ?_)
  change Lb _ _ _ _ _ _ _ [.int (s.1 111), .ref 213] _ _
  refine Lb_w (lb_brP rfl rfl ⟨fun hc => ?_, fun hc => ?_⟩)
  · replace h := h.1 ((i_eq (x := s.1 111) (y := 0) rfl (show (0 : Int32).toInt = 0 by decide)).mp hc)
    refine Lb_w (lb_c [.int (-1), .ref 213] (xo_push (.int (-1))) rfl rfl ?_)
    exact lk_257_128  h
  · replace h := h.2 (fun q => hc ((i_eq (x := s.1 111) (y := 0) rfl (show (0 : Int32).toInt = 0 by decide)).mpr q))
    refine Lb_w (lb_ld rfl rfl rfl ?_)
    refine Lb_w (lb_c [.int 2, .ref 213, .ref 213] (xo_push (.int 2)) rfl rfl ?_)
    refine Lb_w (lb_call [.ref 213, .int 2] [.ref 213] rfl rfl rfl (Par.imp h (fun v2 s1 h => ?_)))
    obtain ⟨x3, rfl, h⟩ := h
    change Lb _ _ _ _ _ _ _ [.int x3, .ref 213] _ _
    refine Lb_w (lb_go rfl ?_)
    exact lk_257_128  h
def ub_257_118 (T : Nat → List Value → yS → (Option Value → yS → Prop) → Prop) (R54 : Int32 → Int32 → yS → Prop) (a1 : Int32) (a2 : Int32) (a3 : Int32) (s : yS) (P : Option Value → yS → Prop) : Prop :=
  R54 a1 a2  s
set_option maxRecDepth 20000 in
theorem lk_257_118 {d N0 : Nat} {R54 : Int32 → Int32 → yS → Prop} {a1 : Int32} {a2 : Int32} {a3 : Int32} {s : yS} {P : Option Value → yS → Prop} (r54 : ∀ a1 a2 s, R54 a1 a2 s → Lb d N0 5 (some .int) xE_257 (xE_257.drop 54) [.ref 213, .int a1, .int a2, .null, .null, .null] [] s P) (h : ub_257_118 (Par d) R54 a1 a2 a3 s P) : Lb d N0 5 (some .int) xE_257 (xE_257.drop 118) [.ref 213, .int a1, .int a2, .int a3, .null, .null] [] s P := by
  unfold ub_257_118 at h
  refine Lb_w (lb_go rfl ?_)
  refine lb_fg 3 ?_
  exact r54 a1 a2  s h
def ub_257_116 (T : Nat → List Value → yS → (Option Value → yS → Prop) → Prop) (R54 : Int32 → Int32 → yS → Prop) (R66 : Int32 → Int32 → Int32 → yS → Prop) (a1 : Int32) (a2 : Int32) (a3 : Int32) (a4 : Int32) (s : yS) (P : Option Value → yS → Prop) : Prop :=
  ((-2147483648 ≤ a3.toInt + 1 ∧ a3.toInt + 1 ≤ 2147483647) → ∀ x1 : Int32, x1.toInt = a3.toInt + 1 → R66 a1 a2 x1  s)
set_option maxRecDepth 20000 in
theorem lk_257_116 {d N0 : Nat} {R54 : Int32 → Int32 → yS → Prop} {R66 : Int32 → Int32 → Int32 → yS → Prop} {a1 : Int32} {a2 : Int32} {a3 : Int32} {a4 : Int32} {s : yS} {P : Option Value → yS → Prop} (r54 : ∀ a1 a2 s, R54 a1 a2 s → Lb d N0 5 (some .int) xE_257 (xE_257.drop 54) [.ref 213, .int a1, .int a2, .null, .null, .null] [] s P) (r66 : ∀ a1 a2 a3 s, R66 a1 a2 a3 s → Lb d N0 5 (some .int) xE_257 (xE_257.drop 66) [.ref 213, .int a1, .int a2, .int a3, .null, .null] [] s P) (h : ub_257_116 (Par d) R54 R66 a1 a2 a3 a4 s P) : Lb d N0 5 (some .int) xE_257 (xE_257.drop 116) [.ref 213, .int a1, .int a2, .int a3, .int a4, .null] [] s P := by
  unfold ub_257_116 at h
  refine Lb_w (lb_inc [.ref 213, .int a1, .int a2, .int (a3 + 1), .int a4, .null] rfl rfl rfl rfl (fun hk => ?_))
  replace hk := kc_inc (x := a3) (n := 1) rfl hk
  replace h := h hk _ (i_add (x := a3) (y := 1) rfl (show (1 : Int32).toInt = 1 by decide) hk)
  refine Lb_w (lb_go rfl ?_)
  refine lb_fg 4 ?_
  exact r66 a1 a2 (a3 + 1)  s h
def ub_257_114 (T : Nat → List Value → yS → (Option Value → yS → Prop) → Prop) (R54 : Int32 → Int32 → yS → Prop) (R66 : Int32 → Int32 → Int32 → yS → Prop) (R75 : Int32 → Int32 → Int32 → Int32 → yS → Prop) (a1 : Int32) (a2 : Int32) (a3 : Int32) (a4 : Int32) (s : yS) (P : Option Value → yS → Prop) : Prop :=
  ((-2147483648 ≤ a4.toInt + 1 ∧ a4.toInt + 1 ≤ 2147483647) → ∀ x1 : Int32, x1.toInt = a4.toInt + 1 → R75 a1 a2 a3 x1  s)
set_option maxRecDepth 20000 in
theorem lk_257_114 {d N0 : Nat} {R54 : Int32 → Int32 → yS → Prop} {R66 : Int32 → Int32 → Int32 → yS → Prop} {R75 : Int32 → Int32 → Int32 → Int32 → yS → Prop} {a1 : Int32} {a2 : Int32} {a3 : Int32} {a4 : Int32} {s : yS} {P : Option Value → yS → Prop} (r54 : ∀ a1 a2 s, R54 a1 a2 s → Lb d N0 5 (some .int) xE_257 (xE_257.drop 54) [.ref 213, .int a1, .int a2, .null, .null, .null] [] s P) (r66 : ∀ a1 a2 a3 s, R66 a1 a2 a3 s → Lb d N0 5 (some .int) xE_257 (xE_257.drop 66) [.ref 213, .int a1, .int a2, .int a3, .null, .null] [] s P) (r75 : ∀ a1 a2 a3 a4 s, R75 a1 a2 a3 a4 s → Lb d N0 5 (some .int) xE_257 (xE_257.drop 75) [.ref 213, .int a1, .int a2, .int a3, .int a4, .null] [] s P) (h : ub_257_114 (Par d) R54 R66 R75 a1 a2 a3 a4 s P) : Lb d N0 5 (some .int) xE_257 (xE_257.drop 114) [.ref 213, .int a1, .int a2, .int a3, .int a4, .null] [] s P := by
  unfold ub_257_114 at h
  refine Lb_w (lb_inc [.ref 213, .int a1, .int a2, .int a3, .int (a4 + 1), .null] rfl rfl rfl rfl (fun hk => ?_))
  replace hk := kc_inc (x := a4) (n := 1) rfl hk
  replace h := h hk _ (i_add (x := a4) (y := 1) rfl (show (1 : Int32).toInt = 1 by decide) hk)
  refine Lb_w (lb_go rfl ?_)
  exact r75 a1 a2 a3 (a4 + 1)  s h
def ub_257_75 (T : Nat → List Value → yS → (Option Value → yS → Prop) → Prop) (R54 : Int32 → Int32 → yS → Prop) (R66 : Int32 → Int32 → Int32 → yS → Prop) (R75 : Int32 → Int32 → Int32 → Int32 → yS → Prop) (a1 : Int32) (a2 : Int32) (a3 : Int32) (a4 : Int32) (s : yS) (P : Option Value → yS → Prop) : Prop :=
  ((s.1 112).toInt ≤ a4.toInt → ub_257_116 T R54 R66 a1 a2 a3 a4  s P) ∧ (¬ ((s.1 112).toInt ≤ a4.toInt) → ((s.1 111).toInt = 0 → ub_257_116 T R54 R66 a1 a2 a3 a4  s P) ∧ (¬ ((s.1 111).toInt = 0) → ((0 ≤ a3.toInt ∧ a3.toInt < 160) → (¬ ((s.2.1 279 a3.toInt.toNat).toInt = 1) → ub_257_116 T R54 R66 a1 a2 a3 a4  s P) ∧ ((s.2.1 279 a3.toInt.toNat).toInt = 1 → ((0 ≤ a4.toInt ∧ a4.toInt < 160) → (¬ ((s.2.1 279 a4.toInt.toNat).toInt = 0) → ub_257_114 T R54 R66 R75 a1 a2 a3 a4  s P) ∧ ((s.2.1 279 a4.toInt.toNat).toInt = 0 → ((0 ≤ a4.toInt ∧ a4.toInt < 160) → T 220 [.ref 213, .int (s.2.1 282 a4.toInt.toNat)] s (fun v2 s1 => ∃ x3, v2 = some (.int x3) ∧ ((x3.toInt = 0 → ub_257_114 T R54 R66 R75 a1 a2 a3 a4  s1 P) ∧ (¬ (x3.toInt = 0) → ∀ s4, s4 = sf s1 64 100000 → ((0 ≤ a4.toInt ∧ a4.toInt < 160) → ((0 ≤ a4.toInt ∧ a4.toInt < 160) → T 256 [.ref 213, .int (s4.2.1 282 a4.toInt.toNat), .int (s4.2.1 283 a4.toInt.toNat), .int a3] s4 (fun v6 s5 => v6 = none ∧ (ub_257_114 T R54 R66 R75 a1 a2 a3 a4  s5 P))))))))))))))
set_option maxRecDepth 20000 in
theorem lk_257_75 {d N0 : Nat} {R54 : Int32 → Int32 → yS → Prop} {R66 : Int32 → Int32 → Int32 → yS → Prop} {R75 : Int32 → Int32 → Int32 → Int32 → yS → Prop} {a1 : Int32} {a2 : Int32} {a3 : Int32} {a4 : Int32} {s : yS} {P : Option Value → yS → Prop} (r54 : ∀ a1 a2 s, R54 a1 a2 s → Lb d N0 5 (some .int) xE_257 (xE_257.drop 54) [.ref 213, .int a1, .int a2, .null, .null, .null] [] s P) (r66 : ∀ a1 a2 a3 s, R66 a1 a2 a3 s → Lb d N0 5 (some .int) xE_257 (xE_257.drop 66) [.ref 213, .int a1, .int a2, .int a3, .null, .null] [] s P) (r75 : ∀ a1 a2 a3 a4 s, R75 a1 a2 a3 a4 s → Lb d N0 5 (some .int) xE_257 (xE_257.drop 75) [.ref 213, .int a1, .int a2, .int a3, .int a4, .null] [] s P) (h : ub_257_75 (Par d) R54 R66 R75 a1 a2 a3 a4 s P) : Lb d (N0 + 1) 5 (some .int) xE_257 (xE_257.drop 75) [.ref 213, .int a1, .int a2, .int a3, .int a4, .null] [] s P := by
  unfold ub_257_75 at h
  refine lb_ld rfl rfl rfl ?_
  refine Lb_w (lb_ld rfl rfl rfl ?_)
  refine Lb_w (lb_get rfl rfl ?_)
  change Lb _ _ _ _ _ _ _ [.int (s.1 112), .int a4] _ _
  refine Lb_w (lb_brP rfl rfl ⟨fun hc => ?_, fun hc => ?_⟩)
  · replace h := h.1 ((i_le (x := s.1 112) (y := a4) rfl rfl).mp hc)
    exact lk_257_116 r54 r66 h
  · replace h := h.2 (fun q => hc ((i_le (x := s.1 112) (y := a4) rfl rfl).mpr q))
    refine Lb_w (lb_ld rfl rfl rfl ?_)
    refine Lb_w (lb_get rfl rfl ?_)
    change Lb _ _ _ _ _ _ _ [.int (s.1 111)] _ _
    refine Lb_w (lb_brP rfl rfl ⟨fun hc => ?_, fun hc => ?_⟩)
    · replace h := h.1 ((i_eq (x := s.1 111) (y := 0) rfl (show (0 : Int32).toInt = 0 by decide)).mp hc)
      exact lk_257_116 r54 r66 h
    · replace h := h.2 (fun q => hc ((i_eq (x := s.1 111) (y := 0) rfl (show (0 : Int32).toInt = 0 by decide)).mpr q))
      refine Lb_w (lb_ld rfl rfl rfl ?_)
      refine Lb_w (lb_get rfl rfl ?_)
      change Lb _ _ _ _ _ _ _ [.ref 279] _ _
      refine Lb_w (lb_ld rfl rfl rfl ?_)
      refine Lb_w (lb_ial rfl rfl (fun hk => ?_))
      change Lb _ _ _ _ _ _ _ [.int (s.2.1 279 a3.toInt.toNat)] _ _
      replace h := h (kc_in (x := a3) rfl hk)
      refine Lb_w (lb_c [.int 1, .int (s.2.1 279 a3.toInt.toNat)] (xo_push (.int 1)) rfl rfl ?_)
      refine Lb_w (lb_brN rfl rfl ⟨fun hc => ?_, fun hc => ?_⟩)
      · replace h := h.1 (fun q => hc ((i_eq (x := s.2.1 279 a3.toInt.toNat) (y := 1) rfl (show (1 : Int32).toInt = 1 by decide)).mpr q))
        exact lk_257_116 r54 r66 h
      · replace h := h.2 ((i_eq (x := s.2.1 279 a3.toInt.toNat) (y := 1) rfl (show (1 : Int32).toInt = 1 by decide)).mp hc)
        refine Lb_w (lb_ld rfl rfl rfl ?_)
        refine Lb_w (lb_get rfl rfl ?_)
        change Lb _ _ _ _ _ _ _ [.ref 279] _ _
        refine Lb_w (lb_ld rfl rfl rfl ?_)
        refine Lb_w (lb_ial rfl rfl (fun hk => ?_))
        change Lb _ _ _ _ _ _ _ [.int (s.2.1 279 a4.toInt.toNat)] _ _
        replace h := h (kc_in (x := a4) rfl hk)
        refine Lb_w (lb_brN rfl rfl ⟨fun hc => ?_, fun hc => ?_⟩)
        · replace h := h.1 (fun q => hc ((i_eq (x := s.2.1 279 a4.toInt.toNat) (y := 0) rfl (show (0 : Int32).toInt = 0 by decide)).mpr q))
          exact lk_257_114 r54 r66 r75 h
        · replace h := h.2 ((i_eq (x := s.2.1 279 a4.toInt.toNat) (y := 0) rfl (show (0 : Int32).toInt = 0 by decide)).mp hc)
          refine Lb_w (lb_ld rfl rfl rfl ?_)
          refine Lb_w (lb_ld rfl rfl rfl ?_)
          refine Lb_w (lb_get rfl rfl ?_)
          change Lb _ _ _ _ _ _ _ [.ref 282, .ref 213] _ _
          refine Lb_w (lb_ld rfl rfl rfl ?_)
          refine Lb_w (lb_ial rfl rfl (fun hk => ?_))
          change Lb _ _ _ _ _ _ _ [.int (s.2.1 282 a4.toInt.toNat), .ref 213] _ _
          replace h := h (kc_in (x := a4) rfl hk)
          refine Lb_w (lb_call [.ref 213, .int (s.2.1 282 a4.toInt.toNat)] [] rfl rfl rfl (Par.imp h (fun v2 s1 h => ?_)))
          obtain ⟨x3, rfl, h⟩ := h
          change Lb _ _ _ _ _ _ _ [.int x3] _ _
          refine Lb_w (lb_brP rfl rfl ⟨fun hc => ?_, fun hc => ?_⟩)
          · replace h := h.1 ((i_eq (x := x3) (y := 0) rfl (show (0 : Int32).toInt = 0 by decide)).mp hc)
            exact lk_257_114 r54 r66 r75 h
          · replace h := h.2 (fun q => hc ((i_eq (x := x3) (y := 0) rfl (show (0 : Int32).toInt = 0 by decide)).mpr q))
            refine Lb_w (lb_ld rfl rfl rfl ?_)
            refine Lb_w (lb_c [.int 100000, .ref 213] (xo_push (.int 100000)) rfl rfl ?_)
            refine Lb_w (lb_put rfl rfl (fun hk => ?_))
            replace h := h _ rfl
            refine Lb_w (lb_ld rfl rfl rfl ?_)
            refine Lb_w (lb_ld rfl rfl rfl ?_)
            refine Lb_w (lb_get rfl rfl ?_)
            change Lb _ _ _ _ _ _ _ [.ref 282, .ref 213] _ _
            refine Lb_w (lb_ld rfl rfl rfl ?_)
            refine Lb_w (lb_ial rfl rfl (fun hk => ?_))
            change Lb _ _ _ _ _ _ _ [.int ((sf s1 64 100000).2.1 282 a4.toInt.toNat), .ref 213] _ _
            replace h := h (kc_in (x := a4) rfl hk)
            refine Lb_w (lb_ld rfl rfl rfl ?_)
            refine Lb_w (lb_get rfl rfl ?_)
            change Lb _ _ _ _ _ _ _ [.ref 283, .int ((sf s1 64 100000).2.1 282 a4.toInt.toNat), .ref 213] _ _
            refine Lb_w (lb_ld rfl rfl rfl ?_)
            refine Lb_w (lb_ial rfl rfl (fun hk => ?_))
            change Lb _ _ _ _ _ _ _ [.int ((sf s1 64 100000).2.1 283 a4.toInt.toNat), .int ((sf s1 64 100000).2.1 282 a4.toInt.toNat), .ref 213] _ _
            replace h := h (kc_in (x := a4) rfl hk)
            refine Lb_w (lb_ld rfl rfl rfl ?_)
            refine Lb_w (lb_call [.ref 213, .int ((sf s1 64 100000).2.1 282 a4.toInt.toNat), .int ((sf s1 64 100000).2.1 283 a4.toInt.toNat), .int a3] [] rfl rfl rfl (Par.imp h (fun v6 s5 h => ?_)))
            obtain ⟨rfl, h⟩ := h
            change Lb _ _ _ _ _ _ _ [] _ _
            exact lk_257_114 r54 r66 r75 h
def ubl_257_75 (T : Nat → List Value → yS → (Option Value → yS → Prop) → Prop) (R54 : Int32 → Int32 → yS → Prop) (R66 : Int32 → Int32 → Int32 → yS → Prop) (a1 : Int32) (a2 : Int32) (a3 : Int32) (a4 : Int32) (s : yS) (P : Option Value → yS → Prop) : Prop :=
  ∃ (I : Int32 → Int32 → Int32 → Int32 → yS → Prop), I a1 a2 a3 a4 s ∧ ∀ (a1 : Int32) (a2 : Int32) (a3 : Int32) (a4 : Int32) (s : yS), I a1 a2 a3 a4 s → ub_257_75 T R54 R66 I a1 a2 a3 a4 s P
theorem lkl_257_75 {d N0 : Nat} {R54 : Int32 → Int32 → yS → Prop} {R66 : Int32 → Int32 → Int32 → yS → Prop} {a1 : Int32} {a2 : Int32} {a3 : Int32} {a4 : Int32} {s : yS} {P : Option Value → yS → Prop} (r54 : ∀ a1 a2 s, R54 a1 a2 s → Lb d N0 5 (some .int) xE_257 (xE_257.drop 54) [.ref 213, .int a1, .int a2, .null, .null, .null] [] s P) (r66 : ∀ a1 a2 a3 s, R66 a1 a2 a3 s → Lb d N0 5 (some .int) xE_257 (xE_257.drop 66) [.ref 213, .int a1, .int a2, .int a3, .null, .null] [] s P) (h : ubl_257_75 (Par d) R54 R66 a1 a2 a3 a4 s P) : Lb d N0 5 (some .int) xE_257 (xE_257.drop 75) [.ref 213, .int a1, .int a2, .int a3, .int a4, .null] [] s P := by
  obtain ⟨I, h0, h1⟩ := h
  have key : ∀ (m : Nat), m ≤ N0 → ∀ (a1 : Int32) (a2 : Int32) (a3 : Int32) (a4 : Int32) (s : yS), I a1 a2 a3 a4 s → Lb d m 5 (some .int) xE_257 (xE_257.drop 75) [.ref 213, .int a1, .int a2, .int a3, .int a4, .null] [] s P := by
    intro m
    induction m with
    | zero => exact fun _ a1 a2 a3 a4 s _ => Lb_0
    | succ m ih =>
      intro hm
      replace hm : m ≤ N0 := Nat.le_of_succ_le hm
      replace ih := ih hm
      intro a1 a2 a3 a4 s hI
      exact lk_257_75 (fun a1 a2 s q => Lb_le hm (r54 a1 a2 s q)) (fun a1 a2 a3 s q => Lb_le hm (r66 a1 a2 a3 s q)) ih (h1 a1 a2 a3 a4 s hI)
  exact key N0 (Nat.le_refl _) a1 a2 a3 a4 s h0
def ub_257_66 (T : Nat → List Value → yS → (Option Value → yS → Prop) → Prop) (R54 : Int32 → Int32 → yS → Prop) (R66 : Int32 → Int32 → Int32 → yS → Prop) (a1 : Int32) (a2 : Int32) (a3 : Int32) (s : yS) (P : Option Value → yS → Prop) : Prop :=
  ((s.1 112).toInt ≤ a3.toInt → ub_257_118 T R54 a1 a2 a3  s P) ∧ (¬ ((s.1 112).toInt ≤ a3.toInt) → ((s.1 111).toInt = 0 → ub_257_118 T R54 a1 a2 a3  s P) ∧ (¬ ((s.1 111).toInt = 0) → ubl_257_75 T R54 R66 a1 a2 a3 0  s P))
set_option maxRecDepth 20000 in
theorem lk_257_66 {d N0 : Nat} {R54 : Int32 → Int32 → yS → Prop} {R66 : Int32 → Int32 → Int32 → yS → Prop} {a1 : Int32} {a2 : Int32} {a3 : Int32} {s : yS} {P : Option Value → yS → Prop} (r54 : ∀ a1 a2 s, R54 a1 a2 s → Lb d N0 5 (some .int) xE_257 (xE_257.drop 54) [.ref 213, .int a1, .int a2, .null, .null, .null] [] s P) (r66 : ∀ a1 a2 a3 s, R66 a1 a2 a3 s → Lb d N0 5 (some .int) xE_257 (xE_257.drop 66) [.ref 213, .int a1, .int a2, .int a3, .null, .null] [] s P) (h : ub_257_66 (Par d) R54 R66 a1 a2 a3 s P) : Lb d (N0 + 1) 5 (some .int) xE_257 (xE_257.drop 66) [.ref 213, .int a1, .int a2, .int a3, .null, .null] [] s P := by
  unfold ub_257_66 at h
  refine lb_ld rfl rfl rfl ?_
  refine Lb_w (lb_ld rfl rfl rfl ?_)
  refine Lb_w (lb_get rfl rfl ?_)
  change Lb _ _ _ _ _ _ _ [.int (s.1 112), .int a3] _ _
  refine Lb_w (lb_brP rfl rfl ⟨fun hc => ?_, fun hc => ?_⟩)
  · replace h := h.1 ((i_le (x := s.1 112) (y := a3) rfl rfl).mp hc)
    exact lk_257_118 r54 h
  · replace h := h.2 (fun q => hc ((i_le (x := s.1 112) (y := a3) rfl rfl).mpr q))
    refine Lb_w (lb_ld rfl rfl rfl ?_)
    refine Lb_w (lb_get rfl rfl ?_)
    change Lb _ _ _ _ _ _ _ [.int (s.1 111)] _ _
    refine Lb_w (lb_brP rfl rfl ⟨fun hc => ?_, fun hc => ?_⟩)
    · replace h := h.1 ((i_eq (x := s.1 111) (y := 0) rfl (show (0 : Int32).toInt = 0 by decide)).mp hc)
      exact lk_257_118 r54 h
    · replace h := h.2 (fun q => hc ((i_eq (x := s.1 111) (y := 0) rfl (show (0 : Int32).toInt = 0 by decide)).mpr q))
      refine Lb_w (lb_c [.int 0] (xo_push (.int 0)) rfl rfl ?_)
      refine Lb_w (lb_st [.ref 213, .int a1, .int a2, .int a3, .int 0, .null] rfl rfl rfl ?_)
      exact lkl_257_75 r54 r66 h
def ubl_257_66 (T : Nat → List Value → yS → (Option Value → yS → Prop) → Prop) (R54 : Int32 → Int32 → yS → Prop) (a1 : Int32) (a2 : Int32) (a3 : Int32) (s : yS) (P : Option Value → yS → Prop) : Prop :=
  ∃ (I : Int32 → Int32 → Int32 → yS → Prop), I a1 a2 a3 s ∧ ∀ (a1 : Int32) (a2 : Int32) (a3 : Int32) (s : yS), I a1 a2 a3 s → ub_257_66 T R54 I a1 a2 a3 s P
theorem lkl_257_66 {d N0 : Nat} {R54 : Int32 → Int32 → yS → Prop} {a1 : Int32} {a2 : Int32} {a3 : Int32} {s : yS} {P : Option Value → yS → Prop} (r54 : ∀ a1 a2 s, R54 a1 a2 s → Lb d N0 5 (some .int) xE_257 (xE_257.drop 54) [.ref 213, .int a1, .int a2, .null, .null, .null] [] s P) (h : ubl_257_66 (Par d) R54 a1 a2 a3 s P) : Lb d N0 5 (some .int) xE_257 (xE_257.drop 66) [.ref 213, .int a1, .int a2, .int a3, .null, .null] [] s P := by
  obtain ⟨I, h0, h1⟩ := h
  have key : ∀ (m : Nat), m ≤ N0 → ∀ (a1 : Int32) (a2 : Int32) (a3 : Int32) (s : yS), I a1 a2 a3 s → Lb d m 5 (some .int) xE_257 (xE_257.drop 66) [.ref 213, .int a1, .int a2, .int a3, .null, .null] [] s P := by
    intro m
    induction m with
    | zero => exact fun _ a1 a2 a3 s _ => Lb_0
    | succ m ih =>
      intro hm
      replace hm : m ≤ N0 := Nat.le_of_succ_le hm
      replace ih := ih hm
      intro a1 a2 a3 s hI
      exact lk_257_66 (fun a1 a2 s q => Lb_le hm (r54 a1 a2 s q)) ih (h1 a1 a2 a3 s hI)
  exact key N0 (Nat.le_refl _) a1 a2 a3 s h0
def ub_257_54 (T : Nat → List Value → yS → (Option Value → yS → Prop) → Prop) (R54 : Int32 → Int32 → yS → Prop) (a1 : Int32) (a2 : Int32) (s : yS) (P : Option Value → yS → Prop) : Prop :=
  (a2.toInt = (s.1 112).toInt → ub_257_119 T  a1 a2  s P) ∧ (¬ (a2.toInt = (s.1 112).toInt) → ((s.1 111).toInt = 0 → ub_257_119 T  a1 a2  s P) ∧ (¬ ((s.1 111).toInt = 0) → ubl_257_66 T R54 a1 (s.1 112) 0  s P))
set_option maxRecDepth 20000 in
theorem lk_257_54 {d N0 : Nat} {R54 : Int32 → Int32 → yS → Prop} {a1 : Int32} {a2 : Int32} {s : yS} {P : Option Value → yS → Prop} (r54 : ∀ a1 a2 s, R54 a1 a2 s → Lb d N0 5 (some .int) xE_257 (xE_257.drop 54) [.ref 213, .int a1, .int a2, .null, .null, .null] [] s P) (h : ub_257_54 (Par d) R54 a1 a2 s P) : Lb d (N0 + 1) 5 (some .int) xE_257 (xE_257.drop 54) [.ref 213, .int a1, .int a2, .null, .null, .null] [] s P := by
  unfold ub_257_54 at h
  refine lb_ld rfl rfl rfl ?_
  refine Lb_w (lb_ld rfl rfl rfl ?_)
  refine Lb_w (lb_get rfl rfl ?_)
  change Lb _ _ _ _ _ _ _ [.int (s.1 112), .int a2] _ _
  refine Lb_w (lb_brP rfl rfl ⟨fun hc => ?_, fun hc => ?_⟩)
  · replace h := h.1 ((i_eq (x := a2) (y := s.1 112) rfl rfl).mp hc)
    exact lk_257_119  h
  · replace h := h.2 (fun q => hc ((i_eq (x := a2) (y := s.1 112) rfl rfl).mpr q))
    refine Lb_w (lb_ld rfl rfl rfl ?_)
    refine Lb_w (lb_get rfl rfl ?_)
    change Lb _ _ _ _ _ _ _ [.int (s.1 111)] _ _
    refine Lb_w (lb_brP rfl rfl ⟨fun hc => ?_, fun hc => ?_⟩)
    · replace h := h.1 ((i_eq (x := s.1 111) (y := 0) rfl (show (0 : Int32).toInt = 0 by decide)).mp hc)
      exact lk_257_119  h
    · replace h := h.2 (fun q => hc ((i_eq (x := s.1 111) (y := 0) rfl (show (0 : Int32).toInt = 0 by decide)).mpr q))
      refine Lb_w (lb_ld rfl rfl rfl ?_)
      refine Lb_w (lb_get rfl rfl ?_)
      change Lb _ _ _ _ _ _ _ [.int (s.1 112)] _ _
      refine Lb_w (lb_st [.ref 213, .int a1, .int (s.1 112), .null, .null, .null] rfl rfl rfl ?_)
      refine Lb_w (lb_c [.int 0] (xo_push (.int 0)) rfl rfl ?_)
      refine Lb_w (lb_st [.ref 213, .int a1, .int (s.1 112), .int 0, .null, .null] rfl rfl rfl ?_)
      exact lkl_257_66 r54 h
def ubl_257_54 (T : Nat → List Value → yS → (Option Value → yS → Prop) → Prop)  (a1 : Int32) (a2 : Int32) (s : yS) (P : Option Value → yS → Prop) : Prop :=
  ∃ (I : Int32 → Int32 → yS → Prop), I a1 a2 s ∧ ∀ (a1 : Int32) (a2 : Int32) (s : yS), I a1 a2 s → ub_257_54 T I a1 a2 s P
theorem lkl_257_54 {d N0 : Nat}  {a1 : Int32} {a2 : Int32} {s : yS} {P : Option Value → yS → Prop}  (h : ubl_257_54 (Par d)  a1 a2 s P) : Lb d N0 5 (some .int) xE_257 (xE_257.drop 54) [.ref 213, .int a1, .int a2, .null, .null, .null] [] s P := by
  obtain ⟨I, h0, h1⟩ := h
  have key : ∀ (m : Nat), m ≤ N0 → ∀ (a1 : Int32) (a2 : Int32) (s : yS), I a1 a2 s → Lb d m 5 (some .int) xE_257 (xE_257.drop 54) [.ref 213, .int a1, .int a2, .null, .null, .null] [] s P := by
    intro m
    induction m with
    | zero => exact fun _ a1 a2 s _ => Lb_0
    | succ m ih =>
      intro hm
      replace hm : m ≤ N0 := Nat.le_of_succ_le hm
      replace ih := ih hm
      intro a1 a2 s hI
      exact lk_257_54 ih (h1 a1 a2 s hI)
  exact key N0 (Nat.le_refl _) a1 a2 s h0
def ub_257_0 (T : Nat → List Value → yS → (Option Value → yS → Prop) → Prop)   (s : yS) (P : Option Value → yS → Prop) : Prop :=
  ∀ s1, s1 = sf s 0 0 → (¬ ((s1.1 90).toInt = 0) → ((s1.1 110).toInt = 0 → ∀ s2, s2 = sf s1 110 1 → ∀ s3, s3 = sf s2 75 (s2.1 29) → ∀ s4, s4 = sf s3 112 0 → ∀ s5, s5 = sf s4 118 20000 → ∀ s6, s6 = sf s5 111 1 → ∀ s7, s7 = sf s6 64 100000 → ∀ s8, s8 = sf s7 70 0 → T 188 [.ref 213] s8 (fun v10 s9 => ∃ x11, v10 = some (.int x11) ∧ (T 206 [.ref 213, .int (-1), .int (-1), .int (-1)] s9 (fun v13 s12 => v13 = none ∧ (((0 ≤ (s12.1 29).toInt ∧ (s12.1 29).toInt < 2) → T 253 [.ref 213, .int (s12.2.1 259 (s12.1 29).toInt.toNat), .int x11] s12 (fun v15 s14 => v15 = none ∧ (ubl_257_54 T  x11 (-1)  s14 P)))))))) ∧ (¬ ((s1.1 110).toInt = 0) → P (some (.int (s1.1 109))) s1)) ∧ ((s1.1 90).toInt = 0 → P (some (.int (-1))) s1)
set_option maxRecDepth 20000 in
theorem lk_257_0 {d N0 : Nat}   {s : yS} {P : Option Value → yS → Prop}  (h : ub_257_0 (Par d)   s P) : Lb d N0 5 (some .int) xE_257 (xE_257.drop 0) [.ref 213, .null, .null, .null, .null, .null] [] s P := by
  unfold ub_257_0 at h
  refine Lb_w (lb_ld rfl rfl rfl ?_)
  refine Lb_w (lb_c [.int 0, .ref 213] (xo_push (.int 0)) rfl rfl ?_)
  refine Lb_w (lb_put rfl rfl (fun hk => ?_))
  replace h := h _ rfl
  refine Lb_w (lb_ld rfl rfl rfl ?_)
  refine Lb_w (lb_get rfl rfl ?_)
  change Lb _ _ _ _ _ _ _ [.int ((sf s 0 0).1 90)] _ _
  refine Lb_w (lb_brN rfl rfl ⟨fun hc => ?_, fun hc => ?_⟩)
  · replace h := h.1 (fun q => hc ((i_eq (x := (sf s 0 0).1 90) (y := 0) rfl (show (0 : Int32).toInt = 0 by decide)).mpr q))
    refine Lb_w (lb_ld rfl rfl rfl ?_)
    refine Lb_w (lb_get rfl rfl ?_)
    change Lb _ _ _ _ _ _ _ [.int ((sf s 0 0).1 110)] _ _
    refine Lb_w (lb_brP rfl rfl ⟨fun hc => ?_, fun hc => ?_⟩)
    · replace h := h.1 ((i_eq (x := (sf s 0 0).1 110) (y := 0) rfl (show (0 : Int32).toInt = 0 by decide)).mp hc)
      refine Lb_w (lb_ld rfl rfl rfl ?_)
      refine Lb_w (lb_c [.int 1, .ref 213] (xo_push (.int 1)) rfl rfl ?_)
      refine Lb_w (lb_put rfl rfl (fun hk => ?_))
      replace h := h _ rfl
      refine Lb_w (lb_ld rfl rfl rfl ?_)
      refine Lb_w (lb_ld rfl rfl rfl ?_)
      refine Lb_w (lb_get rfl rfl ?_)
      change Lb _ _ _ _ _ _ _ [.int ((sf (sf s 0 0) 110 1).1 29), .ref 213] _ _
      refine Lb_w (lb_put rfl rfl (fun hk => ?_))
      replace h := h _ rfl
      refine Lb_w (lb_ld rfl rfl rfl ?_)
      refine Lb_w (lb_c [.int 0, .ref 213] (xo_push (.int 0)) rfl rfl ?_)
      refine Lb_w (lb_put rfl rfl (fun hk => ?_))
      replace h := h _ rfl
      refine Lb_w (lb_ld rfl rfl rfl ?_)
      refine Lb_w (lb_c [.int 20000, .ref 213] (xo_push (.int 20000)) rfl rfl ?_)
      refine Lb_w (lb_put rfl rfl (fun hk => ?_))
      replace h := h _ rfl
      refine Lb_w (lb_ld rfl rfl rfl ?_)
      refine Lb_w (lb_c [.int 1, .ref 213] (xo_push (.int 1)) rfl rfl ?_)
      refine Lb_w (lb_put rfl rfl (fun hk => ?_))
      replace h := h _ rfl
      refine Lb_w (lb_ld rfl rfl rfl ?_)
      refine Lb_w (lb_c [.int 100000, .ref 213] (xo_push (.int 100000)) rfl rfl ?_)
      refine Lb_w (lb_put rfl rfl (fun hk => ?_))
      replace h := h _ rfl
      refine Lb_w (lb_ld rfl rfl rfl ?_)
      refine Lb_w (lb_c [.int 0, .ref 213] (xo_push (.int 0)) rfl rfl ?_)
      refine Lb_w (lb_put rfl rfl (fun hk => ?_))
      replace h := h _ rfl
      refine Lb_w (lb_ld rfl rfl rfl ?_)
      refine Lb_w (lb_call [.ref 213] [] rfl rfl rfl (Par.imp h (fun v10 s9 h => ?_)))
      obtain ⟨x11, rfl, h⟩ := h
      change Lb _ _ _ _ _ _ _ [.int x11] _ _
      refine Lb_w (lb_st [.ref 213, .int x11, .null, .null, .null, .null] rfl rfl rfl ?_)
      refine Lb_w (lb_ld rfl rfl rfl ?_)
      refine Lb_w (lb_c [.int (-1), .ref 213] (xo_push (.int (-1))) rfl rfl ?_)
      refine Lb_w (lb_c [.int (-1), .int (-1), .ref 213] (xo_push (.int (-1))) rfl rfl ?_)
      refine Lb_w (lb_c [.int (-1), .int (-1), .int (-1), .ref 213] (xo_push (.int (-1))) rfl rfl ?_)
      refine Lb_w (lb_call [.ref 213, .int (-1), .int (-1), .int (-1)] [] rfl rfl rfl (Par.imp h (fun v13 s12 h => ?_)))
      obtain ⟨rfl, h⟩ := h
      change Lb _ _ _ _ _ _ _ [] _ _
      refine Lb_w (lb_ld rfl rfl rfl ?_)
      refine Lb_w (lb_ld rfl rfl rfl ?_)
      refine Lb_w (lb_get rfl rfl ?_)
      change Lb _ _ _ _ _ _ _ [.ref 259, .ref 213] _ _
      refine Lb_w (lb_ld rfl rfl rfl ?_)
      refine Lb_w (lb_get rfl rfl ?_)
      change Lb _ _ _ _ _ _ _ [.int (s12.1 29), .ref 259, .ref 213] _ _
      refine Lb_w (lb_ial rfl rfl (fun hk => ?_))
      change Lb _ _ _ _ _ _ _ [.int (s12.2.1 259 (s12.1 29).toInt.toNat), .ref 213] _ _
      replace h := h (kc_in (x := s12.1 29) rfl hk)
      refine Lb_w (lb_ld rfl rfl rfl ?_)
      refine Lb_w (lb_call [.ref 213, .int (s12.2.1 259 (s12.1 29).toInt.toNat), .int x11] [] rfl rfl rfl (Par.imp h (fun v15 s14 h => ?_)))
      obtain ⟨rfl, h⟩ := h
      change Lb _ _ _ _ _ _ _ [] _ _
      refine Lb_w (lb_c [.int (-1)] (xo_push (.int (-1))) rfl rfl ?_)
      refine Lb_w (lb_st [.ref 213, .int x11, .int (-1), .null, .null, .null] rfl rfl rfl ?_)
      exact lkl_257_54  h
    · replace h := h.2 (fun q => hc ((i_eq (x := (sf s 0 0).1 110) (y := 0) rfl (show (0 : Int32).toInt = 0 by decide)).mpr q))
      refine Lb_w (lb_ld rfl rfl rfl ?_)
      refine Lb_w (lb_get rfl rfl ?_)
      change Lb _ _ _ _ _ _ _ [.int ((sf s 0 0).1 109)] _ _
      exact Lb_w (lb_retI rfl h)
  · replace h := h.2 ((i_eq (x := (sf s 0 0).1 90) (y := 0) rfl (show (0 : Int32).toInt = 0 by decide)).mp hc)
    refine Lb_w (lb_c [.int (-1)] (xo_push (.int (-1))) rfl rfl ?_)
    exact Lb_w (lb_retI rfl h)
theorem pb_257 {d : Nat}  {s : yS} {P : Option Value → yS → Prop} (h : ub_257_0 (Par d)  s P) : Par (d + 1) 257 [.ref 213] s P := par_of (E := xE_257) (ml := 5) (ret := some .int) rfl (fun _ => lk_257_0 h)
/-! howMany -/
def ub_258_18 (T : Nat → List Value → yS → (Option Value → yS → Prop) → Prop) (R4 : Int32 → Int32 → Int32 → yS → Prop) (a1 : Int32) (a2 : Int32) (a3 : Int32) (t0 : Int32) (t1 : Int32) (s : yS) (P : Option Value → yS → Prop) : Prop :=
  ((-2147483648 ≤ t0.toInt + t1.toInt ∧ t0.toInt + t1.toInt ≤ 2147483647) → ∀ x1 : Int32, x1.toInt = t0.toInt + t1.toInt → ((-2147483648 ≤ a3.toInt + 1 ∧ a3.toInt + 1 ≤ 2147483647) → ∀ x2 : Int32, x2.toInt = a3.toInt + 1 → R4 a1 x1 x2  s))
set_option maxRecDepth 20000 in
theorem lk_258_18 {d N0 : Nat} {R4 : Int32 → Int32 → Int32 → yS → Prop} {a1 : Int32} {a2 : Int32} {a3 : Int32} {t0 : Int32} {t1 : Int32} {s : yS} {P : Option Value → yS → Prop} (r4 : ∀ a1 a2 a3 s, R4 a1 a2 a3 s → Lb d N0 4 (some .int) xE_258 (xE_258.drop 4) [.ref 213, .int a1, .int a2, .int a3, .null, .null] [] s P) (h : ub_258_18 (Par d) R4 a1 a2 a3 t0 t1 s P) : Lb d N0 4 (some .int) xE_258 (xE_258.drop 18) [.ref 213, .int a1, .int a2, .int a3, .null, .null] [.int t1, .int t0] s P := by
  unfold ub_258_18 at h
  refine Lb_w (lb_ca [.int (t0 + t1)] xo_iadd rfl rfl (fun _ hk => ?_))
  replace hk := kc_add (x := t0) (y := t1) rfl rfl hk
  replace h := h hk _ (i_add (x := t0) (y := t1) rfl rfl hk)
  refine Lb_w (lb_st [.ref 213, .int a1, .int (t0 + t1), .int a3, .null, .null] rfl rfl rfl ?_)
  refine Lb_w (lb_inc [.ref 213, .int a1, .int (t0 + t1), .int (a3 + 1), .null, .null] rfl rfl rfl rfl (fun hk => ?_))
  replace hk := kc_inc (x := a3) (n := 1) rfl hk
  replace h := h hk _ (i_add (x := a3) (y := 1) rfl (show (1 : Int32).toInt = 1 by decide) hk)
  refine Lb_w (lb_go rfl ?_)
  exact r4 a1 (t0 + t1) (a3 + 1)  s h
def ub_258_4 (T : Nat → List Value → yS → (Option Value → yS → Prop) → Prop) (R4 : Int32 → Int32 → Int32 → yS → Prop) (a1 : Int32) (a2 : Int32) (a3 : Int32) (s : yS) (P : Option Value → yS → Prop) : Prop :=
  ((s.1 112).toInt ≤ a3.toInt → P (some (.int a2)) s) ∧ (¬ ((s.1 112).toInt ≤ a3.toInt) → ((0 ≤ a3.toInt ∧ a3.toInt < 160) → (¬ ((s.2.1 279 a3.toInt.toNat).toInt = a1.toInt) → ub_258_18 T R4 a1 a2 a3 a2 0 s P) ∧ ((s.2.1 279 a3.toInt.toNat).toInt = a1.toInt → ub_258_18 T R4 a1 a2 a3 a2 1 s P)))
set_option maxRecDepth 20000 in
theorem lk_258_4 {d N0 : Nat} {R4 : Int32 → Int32 → Int32 → yS → Prop} {a1 : Int32} {a2 : Int32} {a3 : Int32} {s : yS} {P : Option Value → yS → Prop} (r4 : ∀ a1 a2 a3 s, R4 a1 a2 a3 s → Lb d N0 4 (some .int) xE_258 (xE_258.drop 4) [.ref 213, .int a1, .int a2, .int a3, .null, .null] [] s P) (h : ub_258_4 (Par d) R4 a1 a2 a3 s P) : Lb d (N0 + 1) 4 (some .int) xE_258 (xE_258.drop 4) [.ref 213, .int a1, .int a2, .int a3, .null, .null] [] s P := by
  unfold ub_258_4 at h
  refine lb_ld rfl rfl rfl ?_
  refine Lb_w (lb_ld rfl rfl rfl ?_)
  refine Lb_w (lb_get rfl rfl ?_)
  change Lb _ _ _ _ _ _ _ [.int (s.1 112), .int a3] _ _
  refine Lb_w (lb_brP rfl rfl ⟨fun hc => ?_, fun hc => ?_⟩)
  · replace h := h.1 ((i_le (x := s.1 112) (y := a3) rfl rfl).mp hc)
    refine Lb_w (lb_ld rfl rfl rfl ?_)
    exact Lb_w (lb_retI rfl h)
  · replace h := h.2 (fun q => hc ((i_le (x := s.1 112) (y := a3) rfl rfl).mpr q))
    refine Lb_w (lb_ld rfl rfl rfl ?_)
    refine Lb_w (lb_ld rfl rfl rfl ?_)
    refine Lb_w (lb_get rfl rfl ?_)
    change Lb _ _ _ _ _ _ _ [.ref 279, .int a2] _ _
    refine Lb_w (lb_ld rfl rfl rfl ?_)
    refine Lb_w (lb_ial rfl rfl (fun hk => ?_))
    change Lb _ _ _ _ _ _ _ [.int (s.2.1 279 a3.toInt.toNat), .int a2] _ _
    replace h := h (kc_in (x := a3) rfl hk)
    refine Lb_w (lb_ld rfl rfl rfl ?_)
    refine Lb_w (lb_brN rfl rfl ⟨fun hc => ?_, fun hc => ?_⟩)
    · replace h := h.1 (fun q => hc ((i_eq (x := s.2.1 279 a3.toInt.toNat) (y := a1) rfl rfl).mpr q))
      refine Lb_w (lb_c [.int 0, .int a2] (xo_push (.int 0)) rfl rfl ?_)
      exact lk_258_18 r4 h
    · replace h := h.2 ((i_eq (x := s.2.1 279 a3.toInt.toNat) (y := a1) rfl rfl).mp hc)
      refine Lb_w (lb_c [.int 1, .int a2] (xo_push (.int 1)) rfl rfl ?_)
      refine Lb_w (lb_go rfl ?_)
      exact lk_258_18 r4 h
def ubl_258_4 (T : Nat → List Value → yS → (Option Value → yS → Prop) → Prop)  (a1 : Int32) (a2 : Int32) (a3 : Int32) (s : yS) (P : Option Value → yS → Prop) : Prop :=
  ∃ (I : Int32 → Int32 → Int32 → yS → Prop), I a1 a2 a3 s ∧ ∀ (a1 : Int32) (a2 : Int32) (a3 : Int32) (s : yS), I a1 a2 a3 s → ub_258_4 T I a1 a2 a3 s P
theorem lkl_258_4 {d N0 : Nat}  {a1 : Int32} {a2 : Int32} {a3 : Int32} {s : yS} {P : Option Value → yS → Prop}  (h : ubl_258_4 (Par d)  a1 a2 a3 s P) : Lb d N0 4 (some .int) xE_258 (xE_258.drop 4) [.ref 213, .int a1, .int a2, .int a3, .null, .null] [] s P := by
  obtain ⟨I, h0, h1⟩ := h
  have key : ∀ (m : Nat), m ≤ N0 → ∀ (a1 : Int32) (a2 : Int32) (a3 : Int32) (s : yS), I a1 a2 a3 s → Lb d m 4 (some .int) xE_258 (xE_258.drop 4) [.ref 213, .int a1, .int a2, .int a3, .null, .null] [] s P := by
    intro m
    induction m with
    | zero => exact fun _ a1 a2 a3 s _ => Lb_0
    | succ m ih =>
      intro hm
      replace hm : m ≤ N0 := Nat.le_of_succ_le hm
      replace ih := ih hm
      intro a1 a2 a3 s hI
      exact lk_258_4 ih (h1 a1 a2 a3 s hI)
  exact key N0 (Nat.le_refl _) a1 a2 a3 s h0
def ub_258_0 (T : Nat → List Value → yS → (Option Value → yS → Prop) → Prop)  (a1 : Int32) (s : yS) (P : Option Value → yS → Prop) : Prop :=
  ubl_258_4 T  a1 0 0  s P
set_option maxRecDepth 20000 in
theorem lk_258_0 {d N0 : Nat}  {a1 : Int32} {s : yS} {P : Option Value → yS → Prop}  (h : ub_258_0 (Par d)  a1 s P) : Lb d N0 4 (some .int) xE_258 (xE_258.drop 0) [.ref 213, .int a1, .null, .null, .null, .null] [] s P := by
  unfold ub_258_0 at h
  refine Lb_w (lb_c [.int 0] (xo_push (.int 0)) rfl rfl ?_)
  refine Lb_w (lb_st [.ref 213, .int a1, .int 0, .null, .null, .null] rfl rfl rfl ?_)
  refine Lb_w (lb_c [.int 0] (xo_push (.int 0)) rfl rfl ?_)
  refine Lb_w (lb_st [.ref 213, .int a1, .int 0, .int 0, .null, .null] rfl rfl rfl ?_)
  exact lkl_258_4  h
theorem pb_258 {d : Nat} {a1 : Int32} {s : yS} {P : Option Value → yS → Prop} (h : ub_258_0 (Par d) a1 s P) : Par (d + 1) 258 [.ref 213, .int a1] s P := par_of (E := xE_258) (ml := 4) (ret := some .int) rfl (fun _ => lk_258_0 h)
/-! made -/
def ub_259_19 (T : Nat → List Value → yS → (Option Value → yS → Prop) → Prop)  (a1 : Int32) (t0 : Int32) (s : yS) (P : Option Value → yS → Prop) : Prop :=
  P (some (.int t0)) s
set_option maxRecDepth 20000 in
theorem lk_259_19 {d N0 : Nat}  {a1 : Int32} {t0 : Int32} {s : yS} {P : Option Value → yS → Prop}  (h : ub_259_19 (Par d)  a1 t0 s P) : Lb d N0 2 (some .int) xE_259 (xE_259.drop 19) [.ref 213, .int a1, .null, .null] [.int t0] s P := by
  unfold ub_259_19 at h
  exact Lb_w (lb_retI rfl h)
def ub_259_14 (T : Nat → List Value → yS → (Option Value → yS → Prop) → Prop)  (a1 : Int32) (s : yS) (P : Option Value → yS → Prop) : Prop :=
  ub_259_19 T  a1 (-1) s P
set_option maxRecDepth 20000 in
theorem lk_259_14 {d N0 : Nat}  {a1 : Int32} {s : yS} {P : Option Value → yS → Prop}  (h : ub_259_14 (Par d)  a1 s P) : Lb d N0 2 (some .int) xE_259 (xE_259.drop 14) [.ref 213, .int a1, .null, .null] [] s P := by
  unfold ub_259_14 at h
  refine Lb_w (lb_c [.int (-1)] (xo_push (.int (-1))) rfl rfl ?_)
  refine Lb_w (lb_go rfl ?_)
  exact lk_259_19  h
def ub_259_0 (T : Nat → List Value → yS → (Option Value → yS → Prop) → Prop)  (a1 : Int32) (s : yS) (P : Option Value → yS → Prop) : Prop :=
  ∀ s1, s1 = sf s 0 0 → ((s1.1 90).toInt = 0 → ub_259_14 T  a1  s1 P) ∧ (¬ ((s1.1 90).toInt = 0) → ((s1.1 109).toInt < 0 → ub_259_14 T  a1  s1 P) ∧ (¬ ((s1.1 109).toInt < 0) → (a1.toInt < 0 → ub_259_14 T  a1  s1 P) ∧ (¬ (a1.toInt < 0) → (a1.toInt ≤ 2 → T 258 [.ref 213, .int a1] s1 (fun v3 s2 => ∃ x4, v3 = some (.int x4) ∧ (ub_259_19 T  a1 x4 s2 P))) ∧ (¬ (a1.toInt ≤ 2) → ub_259_14 T  a1  s1 P))))
set_option maxRecDepth 20000 in
theorem lk_259_0 {d N0 : Nat}  {a1 : Int32} {s : yS} {P : Option Value → yS → Prop}  (h : ub_259_0 (Par d)  a1 s P) : Lb d N0 2 (some .int) xE_259 (xE_259.drop 0) [.ref 213, .int a1, .null, .null] [] s P := by
  unfold ub_259_0 at h
  refine Lb_w (lb_ld rfl rfl rfl ?_)
  refine Lb_w (lb_c [.int 0, .ref 213] (xo_push (.int 0)) rfl rfl ?_)
  refine Lb_w (lb_put rfl rfl (fun hk => ?_))
  replace h := h _ rfl
  refine Lb_w (lb_ld rfl rfl rfl ?_)
  refine Lb_w (lb_get rfl rfl ?_)
  change Lb _ _ _ _ _ _ _ [.int ((sf s 0 0).1 90)] _ _
  refine Lb_w (lb_brP rfl rfl ⟨fun hc => ?_, fun hc => ?_⟩)
  · replace h := h.1 ((i_eq (x := (sf s 0 0).1 90) (y := 0) rfl (show (0 : Int32).toInt = 0 by decide)).mp hc)
    exact lk_259_14  h
  · replace h := h.2 (fun q => hc ((i_eq (x := (sf s 0 0).1 90) (y := 0) rfl (show (0 : Int32).toInt = 0 by decide)).mpr q))
    refine Lb_w (lb_ld rfl rfl rfl ?_)
    refine Lb_w (lb_get rfl rfl ?_)
    change Lb _ _ _ _ _ _ _ [.int ((sf s 0 0).1 109)] _ _
    refine Lb_w (lb_brP rfl rfl ⟨fun hc => ?_, fun hc => ?_⟩)
    · replace h := h.1 ((i_lt (x := (sf s 0 0).1 109) (y := 0) rfl (show (0 : Int32).toInt = 0 by decide)).mp hc)
      exact lk_259_14  h
    · replace h := h.2 (fun q => hc ((i_lt (x := (sf s 0 0).1 109) (y := 0) rfl (show (0 : Int32).toInt = 0 by decide)).mpr q))
      refine Lb_w (lb_ld rfl rfl rfl ?_)
      refine Lb_w (lb_brP rfl rfl ⟨fun hc => ?_, fun hc => ?_⟩)
      · replace h := h.1 ((i_lt (x := a1) (y := 0) rfl (show (0 : Int32).toInt = 0 by decide)).mp hc)
        exact lk_259_14  h
      · replace h := h.2 (fun q => hc ((i_lt (x := a1) (y := 0) rfl (show (0 : Int32).toInt = 0 by decide)).mpr q))
        refine Lb_w (lb_ld rfl rfl rfl ?_)
        refine Lb_w (lb_c [.int 2, .int a1] (xo_push (.int 2)) rfl rfl ?_)
        refine Lb_w (lb_brP rfl rfl ⟨fun hc => ?_, fun hc => ?_⟩)
        · replace h := h.1 ((i_le (x := a1) (y := 2) rfl (show (2 : Int32).toInt = 2 by decide)).mp hc)
          refine Lb_w (lb_ld rfl rfl rfl ?_)
          refine Lb_w (lb_ld rfl rfl rfl ?_)
          refine Lb_w (lb_call [.ref 213, .int a1] [] rfl rfl rfl (Par.imp h (fun v3 s2 h => ?_)))
          obtain ⟨x4, rfl, h⟩ := h
          change Lb _ _ _ _ _ _ _ [.int x4] _ _
          exact lk_259_19  h
        · replace h := h.2 (fun q => hc ((i_le (x := a1) (y := 2) rfl (show (2 : Int32).toInt = 2 by decide)).mpr q))
          exact lk_259_14  h
theorem pb_259 {d : Nat} {a1 : Int32} {s : yS} {P : Option Value → yS → Prop} (h : ub_259_0 (Par d) a1 s P) : Par (d + 1) 259 [.ref 213, .int a1] s P := par_of (E := xE_259) (ml := 2) (ret := some .int) rfl (fun _ => lk_259_0 h)
