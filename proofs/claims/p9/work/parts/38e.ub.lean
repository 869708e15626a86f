/-! bounds -/
def ub_211_107 (T : Nat → List Value → yS → (Option Value → yS → Prop) → Prop)  (a1 : Int32) (a2 : Int32) (a3 : Int32) (a4 : Int32) (a5 : Int32) (s : yS) (P : Option Value → yS → Prop) : Prop :=
  ((-2147483648 ≤ (s.1 70).toInt - 1 ∧ (s.1 70).toInt - 1 ≤ 2147483647) → ∀ x1 : Int32, x1.toInt = (s.1 70).toInt - 1 → ∀ s2, s2 = sf s 70 x1 → P none s2)
set_option maxRecDepth 20000 in
theorem lk_211_107 {d N0 : Nat}  {a1 : Int32} {a2 : Int32} {a3 : Int32} {a4 : Int32} {a5 : Int32} {s : yS} {P : Option Value → yS → Prop}  (h : ub_211_107 (Par d)  a1 a2 a3 a4 a5 s P) : Lb d N0 6 (none) xE_211 (xE_211.drop 107) [.ref 213, .int a1, .int a2, .int a3, .int a4, .int a5, .null, .null] [] s P := by
  unfold ub_211_107 at h
  refine Lb_w (lb_ld rfl rfl rfl ?_)
  refine Lb_w (lb_c [.ref 213, .ref 213] xo_dup rfl rfl ?_)
  refine Lb_w (lb_get rfl rfl ?_)
  change Lb _ _ _ _ _ _ _ [.int (s.1 70), .ref 213] _ _
  refine Lb_w (lb_c [.int 1, .int (s.1 70), .ref 213] (xo_push (.int 1)) rfl rfl ?_)
  refine Lb_w (lb_ca [.int ((s.1 70) - 1), .ref 213] xo_isub rfl rfl (fun _ hk => ?_))
  replace hk := kc_sub (x := s.1 70) (y := 1) rfl (show (1 : Int32).toInt = 1 by decide) hk
  replace h := h hk _ (i_sub (x := s.1 70) (y := 1) rfl (show (1 : Int32).toInt = 1 by decide) hk)
  refine Lb_w (lb_put rfl rfl (fun hk => ?_))
  replace h := h _ rfl
  exact Lb_w (lb_ret0 rfl h)
def ub_211_72 (T : Nat → List Value → yS → (Option Value → yS → Prop) → Prop) (R72 : Int32 → Int32 → Int32 → Int32 → Int32 → yS → Prop) (a1 : Int32) (a2 : Int32) (a3 : Int32) (a4 : Int32) (a5 : Int32) (s : yS) (P : Option Value → yS → Prop) : Prop :=
  (a5.toInt < 0 → ub_211_107 T  a1 a2 a3 a4 a5  s P) ∧ (¬ (a5.toInt < 0) → (¬ ((s.1 8).toInt = 0) → ub_211_107 T  a1 a2 a3 a4 a5  s P) ∧ ((s.1 8).toInt = 0 → ((0 ≤ a5.toInt ∧ a5.toInt < 12006) → ((0 ≤ a5.toInt ∧ a5.toInt < 12006) → ((-2147483648 ≤ 6 * a2.toInt ∧ 6 * a2.toInt ≤ 2147483647) → ∀ x1 : Int32, x1.toInt = 6 * a2.toInt → ((-2147483648 ≤ x1.toInt + a4.toInt ∧ x1.toInt + a4.toInt ≤ 2147483647) → ∀ x2 : Int32, x2.toInt = x1.toInt + a4.toInt → ((0 ≤ x2.toInt ∧ x2.toInt < 288) → ((0 ≤ a5.toInt ∧ a5.toInt < 12006) → T 212 [.ref 213, .int (s.2.1 231 a5.toInt.toNat), .int (s.2.1 232 a5.toInt.toNat), .int (s.2.1 238 x2.toInt.toNat), .int a3, .int (s.2.1 222 a5.toInt.toNat)] s (fun v4 s3 => v4 = none ∧ (((-2147483648 ≤ a4.toInt + 1 ∧ a4.toInt + 1 ≤ 2147483647) → ∀ x5 : Int32, x5.toInt = a4.toInt + 1 → ((0 ≤ a5.toInt ∧ a5.toInt < 12006) → R72 a1 a2 a3 x5 (s3.2.1 225 a5.toInt.toNat)  s3))))))))))))
set_option maxRecDepth 20000 in
theorem lk_211_72 {d N0 : Nat} {R72 : Int32 → Int32 → Int32 → Int32 → Int32 → yS → Prop} {a1 : Int32} {a2 : Int32} {a3 : Int32} {a4 : Int32} {a5 : Int32} {s : yS} {P : Option Value → yS → Prop} (r72 : ∀ a1 a2 a3 a4 a5 s, R72 a1 a2 a3 a4 a5 s → Lb d N0 6 (none) xE_211 (xE_211.drop 72) [.ref 213, .int a1, .int a2, .int a3, .int a4, .int a5, .null, .null] [] s P) (h : ub_211_72 (Par d) R72 a1 a2 a3 a4 a5 s P) : Lb d (N0 + 1) 6 (none) xE_211 (xE_211.drop 72) [.ref 213, .int a1, .int a2, .int a3, .int a4, .int a5, .null, .null] [] s P := by
  unfold ub_211_72 at h
  refine lb_ld rfl rfl rfl ?_
  refine Lb_w (lb_brP rfl rfl ⟨fun hc => ?_, fun hc => ?_⟩)
  · replace h := h.1 ((i_lt (x := a5) (y := 0) rfl (show (0 : Int32).toInt = 0 by decide)).mp hc)
    exact lk_211_107  h
  · replace h := h.2 (fun q => hc ((i_lt (x := a5) (y := 0) rfl (show (0 : Int32).toInt = 0 by decide)).mpr q))
    refine Lb_w (lb_ld rfl rfl rfl ?_)
    refine Lb_w (lb_get rfl rfl ?_)
    change Lb _ _ _ _ _ _ _ [.int (s.1 8)] _ _
    refine Lb_w (lb_brN rfl rfl ⟨fun hc => ?_, fun hc => ?_⟩)
    · replace h := h.1 (fun q => hc ((i_eq (x := s.1 8) (y := 0) rfl (show (0 : Int32).toInt = 0 by decide)).mpr q))
      exact lk_211_107  h
    · replace h := h.2 ((i_eq (x := s.1 8) (y := 0) rfl (show (0 : Int32).toInt = 0 by decide)).mp hc)
      refine Lb_w (lb_ld rfl rfl rfl ?_)
      refine Lb_w (lb_ld rfl rfl rfl ?_)
      refine Lb_w (lb_get rfl rfl ?_)
      change Lb _ _ _ _ _ _ _ [.ref 231, .ref 213] _ _
      refine Lb_w (lb_ld rfl rfl rfl ?_)
      refine Lb_w (lb_ial rfl rfl (fun hk => ?_))
      change Lb _ _ _ _ _ _ _ [.int (s.2.1 231 a5.toInt.toNat), .ref 213] _ _
      replace h := h (kc_in (x := a5) rfl hk)
      refine Lb_w (lb_ld rfl rfl rfl ?_)
      refine Lb_w (lb_get rfl rfl ?_)
      change Lb _ _ _ _ _ _ _ [.ref 232, .int (s.2.1 231 a5.toInt.toNat), .ref 213] _ _
      refine Lb_w (lb_ld rfl rfl rfl ?_)
      refine Lb_w (lb_ial rfl rfl (fun hk => ?_))
      change Lb _ _ _ _ _ _ _ [.int (s.2.1 232 a5.toInt.toNat), .int (s.2.1 231 a5.toInt.toNat), .ref 213] _ _
      replace h := h (kc_in (x := a5) rfl hk)
      refine Lb_w (lb_ld rfl rfl rfl ?_)
      refine Lb_w (lb_get rfl rfl ?_)
      change Lb _ _ _ _ _ _ _ [.ref 238, .int (s.2.1 232 a5.toInt.toNat), .int (s.2.1 231 a5.toInt.toNat), .ref 213] _ _
      refine Lb_w (lb_c [.int 6, .ref 238, .int (s.2.1 232 a5.toInt.toNat), .int (s.2.1 231 a5.toInt.toNat), .ref 213] (xo_push (.int 6)) rfl rfl ?_)
      refine Lb_w (lb_ld rfl rfl rfl ?_)
      refine Lb_w (lb_ca [.int (6 * a2), .ref 238, .int (s.2.1 232 a5.toInt.toNat), .int (s.2.1 231 a5.toInt.toNat), .ref 213] xo_imul rfl rfl (fun _ hk => ?_))
      replace hk := kc_mul (x := 6) (y := a2) (show (6 : Int32).toInt = 6 by decide) rfl hk
      replace h := h hk _ (i_mul (x := 6) (y := a2) (show (6 : Int32).toInt = 6 by decide) rfl hk)
      refine Lb_w (lb_ld rfl rfl rfl ?_)
      refine Lb_w (lb_ca [.int ((6 * a2) + a4), .ref 238, .int (s.2.1 232 a5.toInt.toNat), .int (s.2.1 231 a5.toInt.toNat), .ref 213] xo_iadd rfl rfl (fun _ hk => ?_))
      replace hk := kc_add (x := (6 * a2)) (y := a4) rfl rfl hk
      replace h := h hk _ (i_add (x := (6 * a2)) (y := a4) rfl rfl hk)
      refine Lb_w (lb_ial rfl rfl (fun hk => ?_))
      change Lb _ _ _ _ _ _ _ [.int (s.2.1 238 ((6 * a2) + a4).toInt.toNat), .int (s.2.1 232 a5.toInt.toNat), .int (s.2.1 231 a5.toInt.toNat), .ref 213] _ _
      replace h := h (kc_in (x := ((6 * a2) + a4)) rfl hk)
      refine Lb_w (lb_ld rfl rfl rfl ?_)
      refine Lb_w (lb_ld rfl rfl rfl ?_)
      refine Lb_w (lb_get rfl rfl ?_)
      change Lb _ _ _ _ _ _ _ [.ref 222, .int a3, .int (s.2.1 238 ((6 * a2) + a4).toInt.toNat), .int (s.2.1 232 a5.toInt.toNat), .int (s.2.1 231 a5.toInt.toNat), .ref 213] _ _
      refine Lb_w (lb_ld rfl rfl rfl ?_)
      refine Lb_w (lb_ial rfl rfl (fun hk => ?_))
      change Lb _ _ _ _ _ _ _ [.int (s.2.1 222 a5.toInt.toNat), .int a3, .int (s.2.1 238 ((6 * a2) + a4).toInt.toNat), .int (s.2.1 232 a5.toInt.toNat), .int (s.2.1 231 a5.toInt.toNat), .ref 213] _ _
      replace h := h (kc_in (x := a5) rfl hk)
      refine Lb_w (lb_call [.ref 213, .int (s.2.1 231 a5.toInt.toNat), .int (s.2.1 232 a5.toInt.toNat), .int (s.2.1 238 ((6 * a2) + a4).toInt.toNat), .int a3, .int (s.2.1 222 a5.toInt.toNat)] [] rfl rfl rfl (Par.imp h (fun v4 s3 h => ?_)))
      obtain ⟨rfl, h⟩ := h
      change Lb _ _ _ _ _ _ _ [] _ _
      refine Lb_w (lb_inc [.ref 213, .int a1, .int a2, .int a3, .int (a4 + 1), .int a5, .null, .null] rfl rfl rfl rfl (fun hk => ?_))
      replace hk := kc_inc (x := a4) (n := 1) rfl hk
      replace h := h hk _ (i_add (x := a4) (y := 1) rfl (show (1 : Int32).toInt = 1 by decide) hk)
      refine Lb_w (lb_ld rfl rfl rfl ?_)
      refine Lb_w (lb_get rfl rfl ?_)
      change Lb _ _ _ _ _ _ _ [.ref 225] _ _
      refine Lb_w (lb_ld rfl rfl rfl ?_)
      refine Lb_w (lb_ial rfl rfl (fun hk => ?_))
      change Lb _ _ _ _ _ _ _ [.int (s3.2.1 225 a5.toInt.toNat)] _ _
      replace h := h (kc_in (x := a5) rfl hk)
      refine Lb_w (lb_st [.ref 213, .int a1, .int a2, .int a3, .int (a4 + 1), .int (s3.2.1 225 a5.toInt.toNat), .null, .null] rfl rfl rfl ?_)
      refine Lb_w (lb_go rfl ?_)
      exact r72 a1 a2 a3 (a4 + 1) (s3.2.1 225 a5.toInt.toNat)  s3 h
def ubl_211_72 (T : Nat → List Value → yS → (Option Value → yS → Prop) → Prop)  (a1 : Int32) (a2 : Int32) (a3 : Int32) (a4 : Int32) (a5 : Int32) (s : yS) (P : Option Value → yS → Prop) : Prop :=
  ∃ (I : Int32 → Int32 → Int32 → Int32 → Int32 → yS → Prop), I a1 a2 a3 a4 a5 s ∧ ∀ (a1 : Int32) (a2 : Int32) (a3 : Int32) (a4 : Int32) (a5 : Int32) (s : yS), I a1 a2 a3 a4 a5 s → ub_211_72 T I a1 a2 a3 a4 a5 s P
theorem lkl_211_72 {d N0 : Nat}  {a1 : Int32} {a2 : Int32} {a3 : Int32} {a4 : Int32} {a5 : Int32} {s : yS} {P : Option Value → yS → Prop}  (h : ubl_211_72 (Par d)  a1 a2 a3 a4 a5 s P) : Lb d N0 6 (none) xE_211 (xE_211.drop 72) [.ref 213, .int a1, .int a2, .int a3, .int a4, .int a5, .null, .null] [] s P := by
  obtain ⟨I, h0, h1⟩ := h
  have key : ∀ (m : Nat), m ≤ N0 → ∀ (a1 : Int32) (a2 : Int32) (a3 : Int32) (a4 : Int32) (a5 : Int32) (s : yS), I a1 a2 a3 a4 a5 s → Lb d m 6 (none) xE_211 (xE_211.drop 72) [.ref 213, .int a1, .int a2, .int a3, .int a4, .int a5, .null, .null] [] s P := by
    intro m
    induction m with
    | zero => exact fun _ a1 a2 a3 a4 a5 s _ => Lb_0
    | succ m ih =>
      intro hm
      replace hm : m ≤ N0 := Nat.le_of_succ_le hm
      replace ih := ih hm
      intro a1 a2 a3 a4 a5 s hI
      exact lk_211_72 ih (h1 a1 a2 a3 a4 a5 s hI)
  exact key N0 (Nat.le_refl _) a1 a2 a3 a4 a5 s h0
def ub_211_27 (T : Nat → List Value → yS → (Option Value → yS → Prop) → Prop)  (a1 : Int32) (a2 : Int32) (s : yS) (P : Option Value → yS → Prop) : Prop :=
  P none s
set_option maxRecDepth 20000 in
theorem lk_211_27 {d N0 : Nat}  {a1 : Int32} {a2 : Int32} {s : yS} {P : Option Value → yS → Prop}  (h : ub_211_27 (Par d)  a1 a2 s P) : Lb d N0 6 (none) xE_211 (xE_211.drop 27) [.ref 213, .int a1, .int a2, .null, .null, .null, .null, .null] [] s P := by
  unfold ub_211_27 at h
  exact Lb_w (lb_ret0 rfl h)
def ub_211_19 (T : Nat → List Value → yS → (Option Value → yS → Prop) → Prop)  (a1 : Int32) (a2 : Int32) (s : yS) (P : Option Value → yS → Prop) : Prop :=
  (0 < (s.1 8).toInt → ub_211_27 T  a1 a2  s P) ∧ (¬ (0 < (s.1 8).toInt) → ((0 ≤ a1.toInt ∧ a1.toInt < 12006) → (¬ ((s.2.1 226 a1.toInt.toNat).toInt = 0) → ((-2147483648 ≤ 24 * (s.1 75).toInt ∧ 24 * (s.1 75).toInt ≤ 2147483647) → ∀ x1 : Int32, x1.toInt = 24 * (s.1 75).toInt → ((0 ≤ a1.toInt ∧ a1.toInt < 12006) → ((0 ≤ (s.2.1 231 a1.toInt.toNat).toInt ∧ (s.2.1 231 a1.toInt.toNat).toInt < 200000) → T 185 [.int (s.2.1 264 (s.2.1 231 a1.toInt.toNat).toInt.toNat)] s (fun v3 s2 => ∃ x4, v3 = some (.int x4) ∧ (((-2147483648 ≤ x1.toInt + x4.toInt ∧ x1.toInt + x4.toInt ≤ 2147483647) → ∀ x5 : Int32, x5.toInt = x1.toInt + x4.toInt → T 188 [.ref 213] s2 (fun v7 s6 => ∃ x8, v7 = some (.int x8) ∧ (((0 ≤ a1.toInt ∧ a1.toInt < 12006) → ((0 ≤ (s6.2.1 231 a1.toInt.toNat).toInt ∧ (s6.2.1 231 a1.toInt.toNat).toInt < 200000) → T 185 [.int (s6.2.1 264 (s6.2.1 231 a1.toInt.toNat).toInt.toNat)] s6 (fun v10 s9 => ∃ x11, v10 = some (.int x11) ∧ (((-2147483648 ≤ 6 * x11.toInt ∧ 6 * x11.toInt ≤ 2147483647) → ∀ x12 : Int32, x12.toInt = 6 * x11.toInt → ((-2147483648 ≤ 1000 + x12.toInt ∧ 1000 + x12.toInt ≤ 2147483647) → ∀ x13 : Int32, x13.toInt = 1000 + x12.toInt → ((0 ≤ a1.toInt ∧ a1.toInt < 12006) → T 189 [.ref 213, .int x8, .int 0, .int x13, .int (s9.2.1 231 a1.toInt.toNat)] s9 (fun v15 s14 => v15 = none ∧ (((0 ≤ a1.toInt ∧ a1.toInt < 12006) → ubl_211_72 T  a1 x5 x8 0 (s14.2.1 224 a1.toInt.toNat)  s14 P))))))))))))))))))) ∧ ((s.2.1 226 a1.toInt.toNat).toInt = 0 → ub_211_27 T  a1 a2  s P)))
set_option maxRecDepth 20000 in
theorem lk_211_19 {d N0 : Nat}  {a1 : Int32} {a2 : Int32} {s : yS} {P : Option Value → yS → Prop}  (h : ub_211_19 (Par d)  a1 a2 s P) : Lb d N0 6 (none) xE_211 (xE_211.drop 19) [.ref 213, .int a1, .int a2, .null, .null, .null, .null, .null] [] s P := by
  unfold ub_211_19 at h
  refine Lb_w (lb_ld rfl rfl rfl ?_)
  refine Lb_w (lb_get rfl rfl ?_)
  change Lb _ _ _ _ _ _ _ [.int (s.1 8)] _ _
  refine Lb_w (lb_brP rfl rfl ⟨fun hc => ?_, fun hc => ?_⟩)
  · replace h := h.1 ((i_lt (x := 0) (y := s.1 8) (show (0 : Int32).toInt = 0 by decide) rfl).mp hc)
    exact lk_211_27  h
  · replace h := h.2 (fun q => hc ((i_lt (x := 0) (y := s.1 8) (show (0 : Int32).toInt = 0 by decide) rfl).mpr q))
    refine Lb_w (lb_ld rfl rfl rfl ?_)
    refine Lb_w (lb_get rfl rfl ?_)
    change Lb _ _ _ _ _ _ _ [.ref 226] _ _
    refine Lb_w (lb_ld rfl rfl rfl ?_)
    refine Lb_w (lb_ial rfl rfl (fun hk => ?_))
    change Lb _ _ _ _ _ _ _ [.int (s.2.1 226 a1.toInt.toNat)] _ _
    replace h := h (kc_in (x := a1) rfl hk)
    refine Lb_w (lb_brN rfl rfl ⟨fun hc => ?_, fun hc => ?_⟩)
    · replace h := h.1 (fun q => hc ((i_eq (x := s.2.1 226 a1.toInt.toNat) (y := 0) rfl (show (0 : Int32).toInt = 0 by decide)).mpr q))
      refine Lb_w (lb_c [.int 24] (xo_push (.int 24)) rfl rfl ?_)
      refine Lb_w (lb_ld rfl rfl rfl ?_)
      refine Lb_w (lb_get rfl rfl ?_)
      change Lb _ _ _ _ _ _ _ [.int (s.1 75), .int 24] _ _
      refine Lb_w (lb_ca [.int (24 * (s.1 75))] xo_imul rfl rfl (fun _ hk => ?_))
      replace hk := kc_mul (x := 24) (y := s.1 75) (show (24 : Int32).toInt = 24 by decide) rfl hk
      replace h := h hk _ (i_mul (x := 24) (y := s.1 75) (show (24 : Int32).toInt = 24 by decide) rfl hk)
      refine Lb_w (lb_ld rfl rfl rfl ?_)
      refine Lb_w (lb_get rfl rfl ?_)
      change Lb _ _ _ _ _ _ _ [.ref 264, .int (24 * (s.1 75))] _ _
      refine Lb_w (lb_ld rfl rfl rfl ?_)
      refine Lb_w (lb_get rfl rfl ?_)
      change Lb _ _ _ _ _ _ _ [.ref 231, .ref 264, .int (24 * (s.1 75))] _ _
      refine Lb_w (lb_ld rfl rfl rfl ?_)
      refine Lb_w (lb_ial rfl rfl (fun hk => ?_))
      change Lb _ _ _ _ _ _ _ [.int (s.2.1 231 a1.toInt.toNat), .ref 264, .int (24 * (s.1 75))] _ _
      replace h := h (kc_in (x := a1) rfl hk)
      refine Lb_w (lb_ial rfl rfl (fun hk => ?_))
      change Lb _ _ _ _ _ _ _ [.int (s.2.1 264 (s.2.1 231 a1.toInt.toNat).toInt.toNat), .int (24 * (s.1 75))] _ _
      replace h := h (kc_in (x := s.2.1 231 a1.toInt.toNat) rfl hk)
      refine Lb_w (lb_call [.int (s.2.1 264 (s.2.1 231 a1.toInt.toNat).toInt.toNat)] [.int (24 * (s.1 75))] rfl rfl rfl (Par.imp h (fun v3 s2 h => ?_)))
      obtain ⟨x4, rfl, h⟩ := h
      change Lb _ _ _ _ _ _ _ [.int x4, .int (24 * (s.1 75))] _ _
      refine Lb_w (lb_ca [.int ((24 * (s.1 75)) + x4)] xo_iadd rfl rfl (fun _ hk => ?_))
      replace hk := kc_add (x := (24 * (s.1 75))) (y := x4) rfl rfl hk
      replace h := h hk _ (i_add (x := (24 * (s.1 75))) (y := x4) rfl rfl hk)
      refine Lb_w (lb_st [.ref 213, .int a1, .int ((24 * (s.1 75)) + x4), .null, .null, .null, .null, .null] rfl rfl rfl ?_)
      refine Lb_w (lb_ld rfl rfl rfl ?_)
      refine Lb_w (lb_call [.ref 213] [] rfl rfl rfl (Par.imp h (fun v7 s6 h => ?_)))
      obtain ⟨x8, rfl, h⟩ := h
      change Lb _ _ _ _ _ _ _ [.int x8] _ _
      refine Lb_w (lb_st [.ref 213, .int a1, .int ((24 * (s.1 75)) + x4), .int x8, .null, .null, .null, .null] rfl rfl rfl ?_)
      refine Lb_w (lb_ld rfl rfl rfl ?_)
      refine Lb_w (lb_ld rfl rfl rfl ?_)
      refine Lb_w (lb_c [.int 0, .int x8, .ref 213] (xo_push (.int 0)) rfl rfl ?_)
      refine Lb_w (lb_c [.int 1000, .int 0, .int x8, .ref 213] (xo_push (.int 1000)) rfl rfl ?_)
      refine Lb_w (lb_c [.int 6, .int 1000, .int 0, .int x8, .ref 213] (xo_push (.int 6)) rfl rfl ?_)
      refine Lb_w (lb_ld rfl rfl rfl ?_)
      refine Lb_w (lb_get rfl rfl ?_)
      change Lb _ _ _ _ _ _ _ [.ref 264, .int 6, .int 1000, .int 0, .int x8, .ref 213] _ _
      refine Lb_w (lb_ld rfl rfl rfl ?_)
      refine Lb_w (lb_get rfl rfl ?_)
      change Lb _ _ _ _ _ _ _ [.ref 231, .ref 264, .int 6, .int 1000, .int 0, .int x8, .ref 213] _ _
      refine Lb_w (lb_ld rfl rfl rfl ?_)
      refine Lb_w (lb_ial rfl rfl (fun hk => ?_))
      change Lb _ _ _ _ _ _ _ [.int (s6.2.1 231 a1.toInt.toNat), .ref 264, .int 6, .int 1000, .int 0, .int x8, .ref 213] _ _
      replace h := h (kc_in (x := a1) rfl hk)
      refine Lb_w (lb_ial rfl rfl (fun hk => ?_))
      change Lb _ _ _ _ _ _ _ [.int (s6.2.1 264 (s6.2.1 231 a1.toInt.toNat).toInt.toNat), .int 6, .int 1000, .int 0, .int x8, .ref 213] _ _
      replace h := h (kc_in (x := s6.2.1 231 a1.toInt.toNat) rfl hk)
      refine Lb_w (lb_call [.int (s6.2.1 264 (s6.2.1 231 a1.toInt.toNat).toInt.toNat)] [.int 6, .int 1000, .int 0, .int x8, .ref 213] rfl rfl rfl (Par.imp h (fun v10 s9 h => ?_)))
      obtain ⟨x11, rfl, h⟩ := h
      change Lb _ _ _ _ _ _ _ [.int x11, .int 6, .int 1000, .int 0, .int x8, .ref 213] _ _
      refine Lb_w (lb_ca [.int (6 * x11), .int 1000, .int 0, .int x8, .ref 213] xo_imul rfl rfl (fun _ hk => ?_))
      replace hk := kc_mul (x := 6) (y := x11) (show (6 : Int32).toInt = 6 by decide) rfl hk
      replace h := h hk _ (i_mul (x := 6) (y := x11) (show (6 : Int32).toInt = 6 by decide) rfl hk)
      refine Lb_w (lb_ca [.int (1000 + (6 * x11)), .int 0, .int x8, .ref 213] xo_iadd rfl rfl (fun _ hk => ?_))
      replace hk := kc_add (x := 1000) (y := (6 * x11)) (show (1000 : Int32).toInt = 1000 by decide) rfl hk
      replace h := h hk _ (i_add (x := 1000) (y := (6 * x11)) (show (1000 : Int32).toInt = 1000 by decide) rfl hk)
      refine Lb_w (lb_ld rfl rfl rfl ?_)
      refine Lb_w (lb_get rfl rfl ?_)
      change Lb _ _ _ _ _ _ _ [.ref 231, .int (1000 + (6 * x11)), .int 0, .int x8, .ref 213] _ _
      refine Lb_w (lb_ld rfl rfl rfl ?_)
      refine Lb_w (lb_ial rfl rfl (fun hk => ?_))
      change Lb _ _ _ _ _ _ _ [.int (s9.2.1 231 a1.toInt.toNat), .int (1000 + (6 * x11)), .int 0, .int x8, .ref 213] _ _
      replace h := h (kc_in (x := a1) rfl hk)
      refine Lb_w (lb_call [.ref 213, .int x8, .int 0, .int (1000 + (6 * x11)), .int (s9.2.1 231 a1.toInt.toNat)] [] rfl rfl rfl (Par.imp h (fun v15 s14 h => ?_)))
      obtain ⟨rfl, h⟩ := h
      change Lb _ _ _ _ _ _ _ [] _ _
      refine Lb_w (lb_c [.int 0] (xo_push (.int 0)) rfl rfl ?_)
      refine Lb_w (lb_st [.ref 213, .int a1, .int ((24 * (s.1 75)) + x4), .int x8, .int 0, .null, .null, .null] rfl rfl rfl ?_)
      refine Lb_w (lb_ld rfl rfl rfl ?_)
      refine Lb_w (lb_get rfl rfl ?_)
      change Lb _ _ _ _ _ _ _ [.ref 224] _ _
      refine Lb_w (lb_ld rfl rfl rfl ?_)
      refine Lb_w (lb_ial rfl rfl (fun hk => ?_))
      change Lb _ _ _ _ _ _ _ [.int (s14.2.1 224 a1.toInt.toNat)] _ _
      replace h := h (kc_in (x := a1) rfl hk)
      refine Lb_w (lb_st [.ref 213, .int a1, .int ((24 * (s.1 75)) + x4), .int x8, .int 0, .int (s14.2.1 224 a1.toInt.toNat), .null, .null] rfl rfl rfl ?_)
      exact lkl_211_72  h
    · replace h := h.2 ((i_eq (x := s.2.1 226 a1.toInt.toNat) (y := 0) rfl (show (0 : Int32).toInt = 0 by decide)).mp hc)
      exact lk_211_27  h
def ub_211_5 (T : Nat → List Value → yS → (Option Value → yS → Prop) → Prop) (R5 : Int32 → Int32 → yS → Prop) (a1 : Int32) (a2 : Int32) (s : yS) (P : Option Value → yS → Prop) : Prop :=
  (a2.toInt < 0 → ub_211_19 T  a1 a2  s P) ∧ (¬ (a2.toInt < 0) → (¬ ((s.1 8).toInt = 0) → ub_211_19 T  a1 a2  s P) ∧ ((s.1 8).toInt = 0 → T 211 [.ref 213, .int a2] s (fun v2 s1 => v2 = none ∧ (((0 ≤ a2.toInt ∧ a2.toInt < 12006) → R5 a1 (s1.2.1 225 a2.toInt.toNat)  s1)))))
set_option maxRecDepth 20000 in
theorem lk_211_5 {d N0 : Nat} {R5 : Int32 → Int32 → yS → Prop} {a1 : Int32} {a2 : Int32} {s : yS} {P : Option Value → yS → Prop} (r5 : ∀ a1 a2 s, R5 a1 a2 s → Lb d N0 6 (none) xE_211 (xE_211.drop 5) [.ref 213, .int a1, .int a2, .null, .null, .null, .null, .null] [] s P) (h : ub_211_5 (Par d) R5 a1 a2 s P) : Lb d (N0 + 1) 6 (none) xE_211 (xE_211.drop 5) [.ref 213, .int a1, .int a2, .null, .null, .null, .null, .null] [] s P := by
  unfold ub_211_5 at h
  refine lb_ld rfl rfl rfl ?_
  refine Lb_w (lb_brP rfl rfl ⟨fun hc => ?_, fun hc => ?_⟩)
  · replace h := h.1 ((i_lt (x := a2) (y := 0) rfl (show (0 : Int32).toInt = 0 by decide)).mp hc)
    exact lk_211_19  h
  · replace h := h.2 (fun q => hc ((i_lt (x := a2) (y := 0) rfl (show (0 : Int32).toInt = 0 by decide)).mpr q))
    refine Lb_w (lb_ld rfl rfl rfl ?_)
    refine Lb_w (lb_get rfl rfl ?_)
    change Lb _ _ _ _ _ _ _ [.int (s.1 8)] _ _
    refine Lb_w (lb_brN rfl rfl ⟨fun hc => ?_, fun hc => ?_⟩)
    · replace h := h.1 (fun q => hc ((i_eq (x := s.1 8) (y := 0) rfl (show (0 : Int32).toInt = 0 by decide)).mpr q))
      exact lk_211_19  h
    · replace h := h.2 ((i_eq (x := s.1 8) (y := 0) rfl (show (0 : Int32).toInt = 0 by decide)).mp hc)
      refine Lb_w (lb_ld rfl rfl rfl ?_)
      refine Lb_w (lb_ld rfl rfl rfl ?_)
      refine Lb_w (lb_call [.ref 213, .int a2] [] rfl rfl rfl (Par.imp h (fun v2 s1 h => ?_)))
      obtain ⟨rfl, h⟩ := h
      change Lb _ _ _ _ _ _ _ [] _ _
      refine Lb_w (lb_ld rfl rfl rfl ?_)
      refine Lb_w (lb_get rfl rfl ?_)
      change Lb _ _ _ _ _ _ _ [.ref 225] _ _
      refine Lb_w (lb_ld rfl rfl rfl ?_)
      refine Lb_w (lb_ial rfl rfl (fun hk => ?_))
      change Lb _ _ _ _ _ _ _ [.int (s1.2.1 225 a2.toInt.toNat)] _ _
      replace h := h (kc_in (x := a2) rfl hk)
      refine Lb_w (lb_st [.ref 213, .int a1, .int (s1.2.1 225 a2.toInt.toNat), .null, .null, .null, .null, .null] rfl rfl rfl ?_)
      refine Lb_w (lb_go rfl ?_)
      exact r5 a1 (s1.2.1 225 a2.toInt.toNat)  s1 h
def ubl_211_5 (T : Nat → List Value → yS → (Option Value → yS → Prop) → Prop)  (a1 : Int32) (a2 : Int32) (s : yS) (P : Option Value → yS → Prop) : Prop :=
  ∃ (I : Int32 → Int32 → yS → Prop), I a1 a2 s ∧ ∀ (a1 : Int32) (a2 : Int32) (s : yS), I a1 a2 s → ub_211_5 T I a1 a2 s P
theorem lkl_211_5 {d N0 : Nat}  {a1 : Int32} {a2 : Int32} {s : yS} {P : Option Value → yS → Prop}  (h : ubl_211_5 (Par d)  a1 a2 s P) : Lb d N0 6 (none) xE_211 (xE_211.drop 5) [.ref 213, .int a1, .int a2, .null, .null, .null, .null, .null] [] s P := by
  obtain ⟨I, h0, h1⟩ := h
  have key : ∀ (m : Nat), m ≤ N0 → ∀ (a1 : Int32) (a2 : Int32) (s : yS), I a1 a2 s → Lb d m 6 (none) xE_211 (xE_211.drop 5) [.ref 213, .int a1, .int a2, .null, .null, .null, .null, .null] [] s P := by
    intro m
    induction m with
    | zero => exact fun _ a1 a2 s _ => Lb_0
    | succ m ih =>
      intro hm
      replace hm : m ≤ N0 := Nat.le_of_succ_le hm
      replace ih := ih hm
      intro a1 a2 s hI
      exact lk_211_5 ih (h1 a1 a2 s hI)
  exact key N0 (Nat.le_refl _) a1 a2 s h0
def ub_211_0 (T : Nat → List Value → yS → (Option Value → yS → Prop) → Prop)  (a1 : Int32) (s : yS) (P : Option Value → yS → Prop) : Prop :=
  ((0 ≤ a1.toInt ∧ a1.toInt < 12006) → ubl_211_5 T  a1 (s.2.1 224 a1.toInt.toNat)  s P)
set_option maxRecDepth 20000 in
theorem lk_211_0 {d N0 : Nat}  {a1 : Int32} {s : yS} {P : Option Value → yS → Prop}  (h : ub_211_0 (Par d)  a1 s P) : Lb d N0 6 (none) xE_211 (xE_211.drop 0) [.ref 213, .int a1, .null, .null, .null, .null, .null, .null] [] s P := by
  unfold ub_211_0 at h
  refine Lb_w (lb_ld rfl rfl rfl ?_)
  refine Lb_w (lb_get rfl rfl ?_)
  change Lb _ _ _ _ _ _ _ [.ref 224] _ _
  refine Lb_w (lb_ld rfl rfl rfl ?_)
  refine Lb_w (lb_ial rfl rfl (fun hk => ?_))
  change Lb _ _ _ _ _ _ _ [.int (s.2.1 224 a1.toInt.toNat)] _ _
  replace h := h (kc_in (x := a1) rfl hk)
  refine Lb_w (lb_st [.ref 213, .int a1, .int (s.2.1 224 a1.toInt.toNat), .null, .null, .null, .null, .null] rfl rfl rfl ?_)
  exact lkl_211_5  h
theorem pb_211 {d : Nat} {a1 : Int32} {s : yS} {P : Option Value → yS → Prop} (h : ub_211_0 (Par d) a1 s P) : Par (d + 1) 211 [.ref 213, .int a1] s P := par_of (E := xE_211) (ml := 6) (ret := none) rfl (fun _ => lk_211_0 h)
/-! fits -/
def ub_212_40 (T : Nat → List Value → yS → (Option Value → yS → Prop) → Prop)  (a1 : Int32) (a2 : Int32) (a3 : Int32) (a4 : Int32) (a5 : Int32) (a6 : Int32) (a7 : Int32) (s : yS) (P : Option Value → yS → Prop) : Prop :=
  ∀ s1, s1 = sf s 64 a6 → P none s1
set_option maxRecDepth 20000 in
theorem lk_212_40 {d N0 : Nat}  {a1 : Int32} {a2 : Int32} {a3 : Int32} {a4 : Int32} {a5 : Int32} {a6 : Int32} {a7 : Int32} {s : yS} {P : Option Value → yS → Prop}  (h : ub_212_40 (Par d)  a1 a2 a3 a4 a5 a6 a7 s P) : Lb d N0 8 (none) xE_212 (xE_212.drop 40) [.ref 213, .int a1, .int a2, .int a3, .int a4, .int a5, .int a6, .int a7, .null, .null, .null, .null, .null, .null] [] s P := by
  unfold ub_212_40 at h
  refine Lb_w (lb_ld rfl rfl rfl ?_)
  refine Lb_w (lb_ld rfl rfl rfl ?_)
  refine Lb_w (lb_put rfl rfl (fun hk => ?_))
  replace h := h _ rfl
  exact Lb_w (lb_ret0 rfl h)
def ub_212_38 (T : Nat → List Value → yS → (Option Value → yS → Prop) → Prop)  (a1 : Int32) (a2 : Int32) (a3 : Int32) (a4 : Int32) (a5 : Int32) (a6 : Int32) (a7 : Int32) (t1 : Int32) (s : yS) (P : Option Value → yS → Prop) : Prop :=
  T 163 [.ref 213, .int t1, .int a5] s (fun v2 s1 => v2 = none ∧ (ub_212_40 T  a1 a2 a3 a4 a5 a6 a7  s1 P))
set_option maxRecDepth 20000 in
theorem lk_212_38 {d N0 : Nat}  {a1 : Int32} {a2 : Int32} {a3 : Int32} {a4 : Int32} {a5 : Int32} {a6 : Int32} {a7 : Int32} {t1 : Int32} {s : yS} {P : Option Value → yS → Prop}  (h : ub_212_38 (Par d)  a1 a2 a3 a4 a5 a6 a7 t1 s P) : Lb d N0 8 (none) xE_212 (xE_212.drop 38) [.ref 213, .int a1, .int a2, .int a3, .int a4, .int a5, .int a6, .int a7, .null, .null, .null, .null, .null, .null] [.int t1, .ref 213] s P := by
  unfold ub_212_38 at h
  refine Lb_w (lb_ld rfl rfl rfl ?_)
  refine Lb_w (lb_call [.ref 213, .int t1, .int a5] [] rfl rfl rfl (Par.imp h (fun v2 s1 h => ?_)))
  obtain ⟨rfl, h⟩ := h
  change Lb _ _ _ _ _ _ _ [] _ _
  exact lk_212_40  h
def ub_212_0 (T : Nat → List Value → yS → (Option Value → yS → Prop) → Prop)  (a1 : Int32) (a2 : Int32) (a3 : Int32) (a4 : Int32) (a5 : Int32) (s : yS) (P : Option Value → yS → Prop) : Prop :=
  ((0 ≤ a3.toInt ∧ a3.toInt < 12006) → ((0 ≤ a3.toInt ∧ a3.toInt < 12006) → T 191 [.ref 213, .int (s.2.1 231 a3.toInt.toNat), .int (s.2.1 232 a3.toInt.toNat), .int a4] s (fun v2 s1 => ∃ x3, v2 = some (.int x3) ∧ ((¬ (x3.toInt = 0) → T 195 [.ref 213, .int a1, .int a2, .int (s1.1 71), .int (s1.1 72)] s1 (fun v5 s4 => ∃ x6, v5 = some (.int x6) ∧ ((x6.toInt = 1 → ub_212_40 T  a1 a2 a3 a4 a5 (s.1 64) x6  s4 P) ∧ (¬ (x6.toInt = 1) → (¬ (x6.toInt = 0) → ub_212_38 T  a1 a2 a3 a4 a5 (s.1 64) x6 9 s4 P) ∧ (x6.toInt = 0 → ub_212_38 T  a1 a2 a3 a4 a5 (s.1 64) x6 7 s4 P))))) ∧ (x3.toInt = 0 → T 163 [.ref 213, .int 9, .int a5] s1 (fun v8 s7 => v8 = none ∧ (P none s7)))))))
set_option maxRecDepth 20000 in
theorem lk_212_0 {d N0 : Nat}  {a1 : Int32} {a2 : Int32} {a3 : Int32} {a4 : Int32} {a5 : Int32} {s : yS} {P : Option Value → yS → Prop}  (h : ub_212_0 (Par d)  a1 a2 a3 a4 a5 s P) : Lb d N0 8 (none) xE_212 (xE_212.drop 0) [.ref 213, .int a1, .int a2, .int a3, .int a4, .int a5, .null, .null, .null, .null, .null, .null, .null, .null] [] s P := by
  unfold ub_212_0 at h
  refine Lb_w (lb_ld rfl rfl rfl ?_)
  refine Lb_w (lb_get rfl rfl ?_)
  change Lb _ _ _ _ _ _ _ [.int (s.1 64)] _ _
  refine Lb_w (lb_st [.ref 213, .int a1, .int a2, .int a3, .int a4, .int a5, .int (s.1 64), .null, .null, .null, .null, .null, .null, .null] rfl rfl rfl ?_)
  refine Lb_w (lb_ld rfl rfl rfl ?_)
  refine Lb_w (lb_ld rfl rfl rfl ?_)
  refine Lb_w (lb_get rfl rfl ?_)
  change Lb _ _ _ _ _ _ _ [.ref 231, .ref 213] _ _
  refine Lb_w (lb_ld rfl rfl rfl ?_)
  refine Lb_w (lb_ial rfl rfl (fun hk => ?_))
  change Lb _ _ _ _ _ _ _ [.int (s.2.1 231 a3.toInt.toNat), .ref 213] _ _
  replace h := h (kc_in (x := a3) rfl hk)
  refine Lb_w (lb_ld rfl rfl rfl ?_)
  refine Lb_w (lb_get rfl rfl ?_)
  change Lb _ _ _ _ _ _ _ [.ref 232, .int (s.2.1 231 a3.toInt.toNat), .ref 213] _ _
  refine Lb_w (lb_ld rfl rfl rfl ?_)
  refine Lb_w (lb_ial rfl rfl (fun hk => ?_))
  change Lb _ _ _ _ _ _ _ [.int (s.2.1 232 a3.toInt.toNat), .int (s.2.1 231 a3.toInt.toNat), .ref 213] _ _
  replace h := h (kc_in (x := a3) rfl hk)
  refine Lb_w (lb_ld rfl rfl rfl ?_)
  refine Lb_w (lb_call [.ref 213, .int (s.2.1 231 a3.toInt.toNat), .int (s.2.1 232 a3.toInt.toNat), .int a4] [] rfl rfl rfl (Par.imp h (fun v2 s1 h => ?_)))
  obtain ⟨x3, rfl, h⟩ := h
  change Lb _ _ _ _ _ _ _ [.int x3] _ _
  refine Lb_w (lb_brN rfl rfl ⟨fun hc => ?_, fun hc => ?_⟩)
  · replace h := h.1 (fun q => hc ((i_eq (x := x3) (y := 0) rfl (show (0 : Int32).toInt = 0 by decide)).mpr q))
    refine Lb_w (lb_ld rfl rfl rfl ?_)
    refine Lb_w (lb_ld rfl rfl rfl ?_)
    refine Lb_w (lb_ld rfl rfl rfl ?_)
    refine Lb_w (lb_ld rfl rfl rfl ?_)
    refine Lb_w (lb_get rfl rfl ?_)
    change Lb _ _ _ _ _ _ _ [.int (s1.1 71), .int a2, .int a1, .ref 213] _ _
    refine Lb_w (lb_ld rfl rfl rfl ?_)
    refine Lb_w (lb_get rfl rfl ?_)
    change Lb _ _ _ _ _ _ _ [.int (s1.1 72), .int (s1.1 71), .int a2, .int a1, .ref 213] _ _
    refine Lb_w (lb_call [.ref 213, .int a1, .int a2, .int (s1.1 71), .int (s1.1 72)] [] rfl rfl rfl (Par.imp h (fun v5 s4 h => ?_)))
    obtain ⟨x6, rfl, h⟩ := h
    change Lb _ _ _ _ _ _ _ [.int x6] _ _
    refine Lb_w (lb_st [.ref 213, .int a1, .int a2, .int a3, .int a4, .int a5, .int (s.1 64), .int x6, .null, .null, .null, .null, .null, .null] rfl rfl rfl ?_)
    refine Lb_w (lb_ld rfl rfl rfl ?_)
    refine Lb_w (lb_c [.int 1, .int x6] (xo_push (.int 1)) rfl rfl ?_)
    refine Lb_w (lb_brP rfl rfl ⟨fun hc => ?_, fun hc => ?_⟩)
    · replace h := h.1 ((i_eq (x := x6) (y := 1) rfl (show (1 : Int32).toInt = 1 by decide)).mp hc)
      exact lk_212_40  h
    · replace h := h.2 (fun q => hc ((i_eq (x := x6) (y := 1) rfl (show (1 : Int32).toInt = 1 by decide)).mpr q))
      refine Lb_w (lb_ld rfl rfl rfl ?_)
      refine Lb_w (lb_ld rfl rfl rfl ?_)
      refine Lb_w (lb_brN rfl rfl ⟨fun hc => ?_, fun hc => ?_⟩)
      · replace h := h.1 (fun q => hc ((i_eq (x := x6) (y := 0) rfl (show (0 : Int32).toInt = 0 by decide)).mpr q))
        refine Lb_w (lb_c [.int 9, .ref 213] (xo_push (.int 9)) rfl rfl ?_)
        exact lk_212_38  h
      · replace h := h.2 ((i_eq (x := x6) (y := 0) rfl (show (0 : Int32).toInt = 0 by decide)).mp hc)
        refine Lb_w (lb_c [.int 7, .ref 213] (xo_push (.int 7)) rfl rfl ?_)
        refine Lb_w (lb_go rfl ?_)
        exact lk_212_38  h
  · replace h := h.2 ((i_eq (x := x3) (y := 0) rfl (show (0 : Int32).toInt = 0 by decide)).mp hc)
    refine Lb_w (lb_ld rfl rfl rfl ?_)
    refine Lb_w (lb_c [.int 9, .ref 213] (xo_push (.int 9)) rfl rfl ?_)
    refine Lb_w (lb_ld rfl rfl rfl ?_)
    refine Lb_w (lb_call [.ref 213, .int 9, .int a5] [] rfl rfl rfl (Par.imp h (fun v8 s7 h => ?_)))
    obtain ⟨rfl, h⟩ := h
    change Lb _ _ _ _ _ _ _ [] _ _
    exact Lb_w (lb_ret0 rfl h)
theorem pb_212 {d : Nat} {a1 : Int32} {a2 : Int32} {a3 : Int32} {a4 : Int32} {a5 : Int32} {s : yS} {P : Option Value → yS → Prop} (h : ub_212_0 (Par d) a1 a2 a3 a4 a5 s P) : Par (d + 1) 212 [.ref 213, .int a1, .int a2, .int a3, .int a4, .int a5] s P := par_of (E := xE_212) (ml := 8) (ret := none) rfl (fun _ => lk_212_0 h)
/-! headBounds -/
def ub_213_55 (T : Nat → List Value → yS → (Option Value → yS → Prop) → Prop)  (a1 : Int32) (a2 : Int32) (s : yS) (P : Option Value → yS → Prop) : Prop :=
  P none s
set_option maxRecDepth 20000 in
theorem lk_213_55 {d N0 : Nat}  {a1 : Int32} {a2 : Int32} {s : yS} {P : Option Value → yS → Prop}  (h : ub_213_55 (Par d)  a1 a2 s P) : Lb d N0 3 (none) xE_213 (xE_213.drop 55) [.ref 213, .int a1, .int a2, .null, .null] [] s P := by
  unfold ub_213_55 at h
  exact Lb_w (lb_ret0 rfl h)
def ub_213_46 (T : Nat → List Value → yS → (Option Value → yS → Prop) → Prop)  (a1 : Int32) (a2 : Int32) (s : yS) (P : Option Value → yS → Prop) : Prop :=
  (¬ ((s.1 8).toInt = 0) → ub_213_55 T  a1 a2  s P) ∧ ((s.1 8).toInt = 0 → ((0 ≤ a1.toInt ∧ a1.toInt < 408) → T 211 [.ref 213, .int (s.2.1 251 a1.toInt.toNat)] s (fun v2 s1 => v2 = none ∧ (ub_213_55 T  a1 a2  s1 P))))
set_option maxRecDepth 20000 in
theorem lk_213_46 {d N0 : Nat}  {a1 : Int32} {a2 : Int32} {s : yS} {P : Option Value → yS → Prop}  (h : ub_213_46 (Par d)  a1 a2 s P) : Lb d N0 3 (none) xE_213 (xE_213.drop 46) [.ref 213, .int a1, .int a2, .null, .null] [] s P := by
  unfold ub_213_46 at h
  refine Lb_w (lb_ld rfl rfl rfl ?_)
  refine Lb_w (lb_get rfl rfl ?_)
  change Lb _ _ _ _ _ _ _ [.int (s.1 8)] _ _
  refine Lb_w (lb_brN rfl rfl ⟨fun hc => ?_, fun hc => ?_⟩)
  · replace h := h.1 (fun q => hc ((i_eq (x := s.1 8) (y := 0) rfl (show (0 : Int32).toInt = 0 by decide)).mpr q))
    exact lk_213_55  h
  · replace h := h.2 ((i_eq (x := s.1 8) (y := 0) rfl (show (0 : Int32).toInt = 0 by decide)).mp hc)
    refine Lb_w (lb_ld rfl rfl rfl ?_)
    refine Lb_w (lb_ld rfl rfl rfl ?_)
    refine Lb_w (lb_get rfl rfl ?_)
    change Lb _ _ _ _ _ _ _ [.ref 251, .ref 213] _ _
    refine Lb_w (lb_ld rfl rfl rfl ?_)
    refine Lb_w (lb_ial rfl rfl (fun hk => ?_))
    change Lb _ _ _ _ _ _ _ [.int (s.2.1 251 a1.toInt.toNat), .ref 213] _ _
    replace h := h (kc_in (x := a1) rfl hk)
    refine Lb_w (lb_call [.ref 213, .int (s.2.1 251 a1.toInt.toNat)] [] rfl rfl rfl (Par.imp h (fun v2 s1 h => ?_)))
    obtain ⟨rfl, h⟩ := h
    change Lb _ _ _ _ _ _ _ [] _ _
    exact lk_213_55  h
def ub_213_25 (T : Nat → List Value → yS → (Option Value → yS → Prop) → Prop) (R25 : Int32 → Int32 → yS → Prop) (a1 : Int32) (a2 : Int32) (s : yS) (P : Option Value → yS → Prop) : Prop :=
  ((0 ≤ a1.toInt ∧ a1.toInt < 408) → ((s.2.1 248 a1.toInt.toNat).toInt ≤ a2.toInt → ub_213_46 T  a1 a2  s P) ∧ (¬ ((s.2.1 248 a1.toInt.toNat).toInt ≤ a2.toInt) → (¬ ((s.1 8).toInt = 0) → ub_213_46 T  a1 a2  s P) ∧ ((s.1 8).toInt = 0 → ((-2147483648 ≤ 6 * a1.toInt ∧ 6 * a1.toInt ≤ 2147483647) → ∀ x1 : Int32, x1.toInt = 6 * a1.toInt → ((-2147483648 ≤ x1.toInt + a2.toInt ∧ x1.toInt + a2.toInt ≤ 2147483647) → ∀ x2 : Int32, x2.toInt = x1.toInt + a2.toInt → ((0 ≤ x2.toInt ∧ x2.toInt < 2448) → T 211 [.ref 213, .int (s.2.1 250 x2.toInt.toNat)] s (fun v4 s3 => v4 = none ∧ (((-2147483648 ≤ a2.toInt + 1 ∧ a2.toInt + 1 ≤ 2147483647) → ∀ x5 : Int32, x5.toInt = a2.toInt + 1 → R25 a1 x5  s3)))))))))
set_option maxRecDepth 20000 in
theorem lk_213_25 {d N0 : Nat} {R25 : Int32 → Int32 → yS → Prop} {a1 : Int32} {a2 : Int32} {s : yS} {P : Option Value → yS → Prop} (r25 : ∀ a1 a2 s, R25 a1 a2 s → Lb d N0 3 (none) xE_213 (xE_213.drop 25) [.ref 213, .int a1, .int a2, .null, .null] [] s P) (h : ub_213_25 (Par d) R25 a1 a2 s P) : Lb d (N0 + 1) 3 (none) xE_213 (xE_213.drop 25) [.ref 213, .int a1, .int a2, .null, .null] [] s P := by
  unfold ub_213_25 at h
  refine lb_ld rfl rfl rfl ?_
  refine Lb_w (lb_ld rfl rfl rfl ?_)
  refine Lb_w (lb_get rfl rfl ?_)
  change Lb _ _ _ _ _ _ _ [.ref 248, .int a2] _ _
  refine Lb_w (lb_ld rfl rfl rfl ?_)
  refine Lb_w (lb_ial rfl rfl (fun hk => ?_))
  change Lb _ _ _ _ _ _ _ [.int (s.2.1 248 a1.toInt.toNat), .int a2] _ _
  replace h := h (kc_in (x := a1) rfl hk)
  refine Lb_w (lb_brP rfl rfl ⟨fun hc => ?_, fun hc => ?_⟩)
  · replace h := h.1 ((i_le (x := s.2.1 248 a1.toInt.toNat) (y := a2) rfl rfl).mp hc)
    exact lk_213_46  h
  · replace h := h.2 (fun q => hc ((i_le (x := s.2.1 248 a1.toInt.toNat) (y := a2) rfl rfl).mpr q))
    refine Lb_w (lb_ld rfl rfl rfl ?_)
    refine Lb_w (lb_get rfl rfl ?_)
    change Lb _ _ _ _ _ _ _ [.int (s.1 8)] _ _
    refine Lb_w (lb_brN rfl rfl ⟨fun hc => ?_, fun hc => ?_⟩)
    · replace h := h.1 (fun q => hc ((i_eq (x := s.1 8) (y := 0) rfl (show (0 : Int32).toInt = 0 by decide)).mpr q))
      exact lk_213_46  h
    · replace h := h.2 ((i_eq (x := s.1 8) (y := 0) rfl (show (0 : Int32).toInt = 0 by decide)).mp hc)
      refine Lb_w (lb_ld rfl rfl rfl ?_)
      refine Lb_w (lb_ld rfl rfl rfl ?_)
      refine Lb_w (lb_get rfl rfl ?_)
      change Lb _ _ _ _ _ _ _ [.ref 250, .ref 213] _ _
      refine Lb_w (lb_c [.int 6, .ref 250, .ref 213] (xo_push (.int 6)) rfl rfl ?_)
      refine Lb_w (lb_ld rfl rfl rfl ?_)
      refine Lb_w (lb_ca [.int (6 * a1), .ref 250, .ref 213] xo_imul rfl rfl (fun _ hk => ?_))
      replace hk := kc_mul (x := 6) (y := a1) (show (6 : Int32).toInt = 6 by decide) rfl hk
      replace h := h hk _ (i_mul (x := 6) (y := a1) (show (6 : Int32).toInt = 6 by decide) rfl hk)
      refine Lb_w (lb_ld rfl rfl rfl ?_)
      refine Lb_w (lb_ca [.int ((6 * a1) + a2), .ref 250, .ref 213] xo_iadd rfl rfl (fun _ hk => ?_))
      replace hk := kc_add (x := (6 * a1)) (y := a2) rfl rfl hk
      replace h := h hk _ (i_add (x := (6 * a1)) (y := a2) rfl rfl hk)
      refine Lb_w (lb_ial rfl rfl (fun hk => ?_))
      change Lb _ _ _ _ _ _ _ [.int (s.2.1 250 ((6 * a1) + a2).toInt.toNat), .ref 213] _ _
      replace h := h (kc_in (x := ((6 * a1) + a2)) rfl hk)
      refine Lb_w (lb_call [.ref 213, .int (s.2.1 250 ((6 * a1) + a2).toInt.toNat)] [] rfl rfl rfl (Par.imp h (fun v4 s3 h => ?_)))
      obtain ⟨rfl, h⟩ := h
      change Lb _ _ _ _ _ _ _ [] _ _
      refine Lb_w (lb_inc [.ref 213, .int a1, .int (a2 + 1), .null, .null] rfl rfl rfl rfl (fun hk => ?_))
      replace hk := kc_inc (x := a2) (n := 1) rfl hk
      replace h := h hk _ (i_add (x := a2) (y := 1) rfl (show (1 : Int32).toInt = 1 by decide) hk)
      refine Lb_w (lb_go rfl ?_)
      exact r25 a1 (a2 + 1)  s3 h
def ubl_213_25 (T : Nat → List Value → yS → (Option Value → yS → Prop) → Prop)  (a1 : Int32) (a2 : Int32) (s : yS) (P : Option Value → yS → Prop) : Prop :=
  ∃ (I : Int32 → Int32 → yS → Prop), I a1 a2 s ∧ ∀ (a1 : Int32) (a2 : Int32) (s : yS), I a1 a2 s → ub_213_25 T I a1 a2 s P
theorem lkl_213_25 {d N0 : Nat}  {a1 : Int32} {a2 : Int32} {s : yS} {P : Option Value → yS → Prop}  (h : ubl_213_25 (Par d)  a1 a2 s P) : Lb d N0 3 (none) xE_213 (xE_213.drop 25) [.ref 213, .int a1, .int a2, .null, .null] [] s P := by
  obtain ⟨I, h0, h1⟩ := h
  have key : ∀ (m : Nat), m ≤ N0 → ∀ (a1 : Int32) (a2 : Int32) (s : yS), I a1 a2 s → Lb d m 3 (none) xE_213 (xE_213.drop 25) [.ref 213, .int a1, .int a2, .null, .null] [] s P := by
    intro m
    induction m with
    | zero => exact fun _ a1 a2 s _ => Lb_0
    | succ m ih =>
      intro hm
      replace hm : m ≤ N0 := Nat.le_of_succ_le hm
      replace ih := ih hm
      intro a1 a2 s hI
      exact lk_213_25 ih (h1 a1 a2 s hI)
  exact key N0 (Nat.le_refl _) a1 a2 s h0
def ub_213_23 (T : Nat → List Value → yS → (Option Value → yS → Prop) → Prop)  (a1 : Int32) (a2 : Int32) (s : yS) (P : Option Value → yS → Prop) : Prop :=
  ubl_213_25 T  a1 0  s P
set_option maxRecDepth 20000 in
theorem lk_213_23 {d N0 : Nat}  {a1 : Int32} {a2 : Int32} {s : yS} {P : Option Value → yS → Prop}  (h : ub_213_23 (Par d)  a1 a2 s P) : Lb d N0 3 (none) xE_213 (xE_213.drop 23) [.ref 213, .int a1, .int a2, .null, .null] [] s P := by
  unfold ub_213_23 at h
  refine Lb_w (lb_c [.int 0] (xo_push (.int 0)) rfl rfl ?_)
  refine Lb_w (lb_st [.ref 213, .int a1, .int 0, .null, .null] rfl rfl rfl ?_)
  exact lkl_213_25  h
def ub_213_2 (T : Nat → List Value → yS → (Option Value → yS → Prop) → Prop) (R2 : Int32 → Int32 → yS → Prop) (a1 : Int32) (a2 : Int32) (s : yS) (P : Option Value → yS → Prop) : Prop :=
  ((0 ≤ a1.toInt ∧ a1.toInt < 408) → ((s.2.1 245 a1.toInt.toNat).toInt ≤ a2.toInt → ub_213_23 T  a1 a2  s P) ∧ (¬ ((s.2.1 245 a1.toInt.toNat).toInt ≤ a2.toInt) → (¬ ((s.1 8).toInt = 0) → ub_213_23 T  a1 a2  s P) ∧ ((s.1 8).toInt = 0 → ((-2147483648 ≤ 6 * a1.toInt ∧ 6 * a1.toInt ≤ 2147483647) → ∀ x1 : Int32, x1.toInt = 6 * a1.toInt → ((-2147483648 ≤ x1.toInt + a2.toInt ∧ x1.toInt + a2.toInt ≤ 2147483647) → ∀ x2 : Int32, x2.toInt = x1.toInt + a2.toInt → ((0 ≤ x2.toInt ∧ x2.toInt < 2448) → T 211 [.ref 213, .int (s.2.1 247 x2.toInt.toNat)] s (fun v4 s3 => v4 = none ∧ (((-2147483648 ≤ a2.toInt + 1 ∧ a2.toInt + 1 ≤ 2147483647) → ∀ x5 : Int32, x5.toInt = a2.toInt + 1 → R2 a1 x5  s3)))))))))
set_option maxRecDepth 20000 in
theorem lk_213_2 {d N0 : Nat} {R2 : Int32 → Int32 → yS → Prop} {a1 : Int32} {a2 : Int32} {s : yS} {P : Option Value → yS → Prop} (r2 : ∀ a1 a2 s, R2 a1 a2 s → Lb d N0 3 (none) xE_213 (xE_213.drop 2) [.ref 213, .int a1, .int a2, .null, .null] [] s P) (h : ub_213_2 (Par d) R2 a1 a2 s P) : Lb d (N0 + 1) 3 (none) xE_213 (xE_213.drop 2) [.ref 213, .int a1, .int a2, .null, .null] [] s P := by
  unfold ub_213_2 at h
  refine lb_ld rfl rfl rfl ?_
  refine Lb_w (lb_ld rfl rfl rfl ?_)
  refine Lb_w (lb_get rfl rfl ?_)
  change Lb _ _ _ _ _ _ _ [.ref 245, .int a2] _ _
  refine Lb_w (lb_ld rfl rfl rfl ?_)
  refine Lb_w (lb_ial rfl rfl (fun hk => ?_))
  change Lb _ _ _ _ _ _ _ [.int (s.2.1 245 a1.toInt.toNat), .int a2] _ _
  replace h := h (kc_in (x := a1) rfl hk)
  refine Lb_w (lb_brP rfl rfl ⟨fun hc => ?_, fun hc => ?_⟩)
  · replace h := h.1 ((i_le (x := s.2.1 245 a1.toInt.toNat) (y := a2) rfl rfl).mp hc)
    exact lk_213_23  h
  · replace h := h.2 (fun q => hc ((i_le (x := s.2.1 245 a1.toInt.toNat) (y := a2) rfl rfl).mpr q))
    refine Lb_w (lb_ld rfl rfl rfl ?_)
    refine Lb_w (lb_get rfl rfl ?_)
    change Lb _ _ _ _ _ _ _ [.int (s.1 8)] _ _
    refine Lb_w (lb_brN rfl rfl ⟨fun hc => ?_, fun hc => ?_⟩)
    · replace h := h.1 (fun q => hc ((i_eq (x := s.1 8) (y := 0) rfl (show (0 : Int32).toInt = 0 by decide)).mpr q))
      exact lk_213_23  h
    · replace h := h.2 ((i_eq (x := s.1 8) (y := 0) rfl (show (0 : Int32).toInt = 0 by decide)).mp hc)
      refine Lb_w (lb_ld rfl rfl rfl ?_)
      refine Lb_w (lb_ld rfl rfl rfl ?_)
      refine Lb_w (lb_get rfl rfl ?_)
      change Lb _ _ _ _ _ _ _ [.ref 247, .ref 213] _ _
      refine Lb_w (lb_c [.int 6, .ref 247, .ref 213] (xo_push (.int 6)) rfl rfl ?_)
      refine Lb_w (lb_ld rfl rfl rfl ?_)
      refine Lb_w (lb_ca [.int (6 * a1), .ref 247, .ref 213] xo_imul rfl rfl (fun _ hk => ?_))
      replace hk := kc_mul (x := 6) (y := a1) (show (6 : Int32).toInt = 6 by decide) rfl hk
      replace h := h hk _ (i_mul (x := 6) (y := a1) (show (6 : Int32).toInt = 6 by decide) rfl hk)
      refine Lb_w (lb_ld rfl rfl rfl ?_)
      refine Lb_w (lb_ca [.int ((6 * a1) + a2), .ref 247, .ref 213] xo_iadd rfl rfl (fun _ hk => ?_))
      replace hk := kc_add (x := (6 * a1)) (y := a2) rfl rfl hk
      replace h := h hk _ (i_add (x := (6 * a1)) (y := a2) rfl rfl hk)
      refine Lb_w (lb_ial rfl rfl (fun hk => ?_))
      change Lb _ _ _ _ _ _ _ [.int (s.2.1 247 ((6 * a1) + a2).toInt.toNat), .ref 213] _ _
      replace h := h (kc_in (x := ((6 * a1) + a2)) rfl hk)
      refine Lb_w (lb_call [.ref 213, .int (s.2.1 247 ((6 * a1) + a2).toInt.toNat)] [] rfl rfl rfl (Par.imp h (fun v4 s3 h => ?_)))
      obtain ⟨rfl, h⟩ := h
      change Lb _ _ _ _ _ _ _ [] _ _
      refine Lb_w (lb_inc [.ref 213, .int a1, .int (a2 + 1), .null, .null] rfl rfl rfl rfl (fun hk => ?_))
      replace hk := kc_inc (x := a2) (n := 1) rfl hk
      replace h := h hk _ (i_add (x := a2) (y := 1) rfl (show (1 : Int32).toInt = 1 by decide) hk)
      refine Lb_w (lb_go rfl ?_)
      exact r2 a1 (a2 + 1)  s3 h
def ubl_213_2 (T : Nat → List Value → yS → (Option Value → yS → Prop) → Prop)  (a1 : Int32) (a2 : Int32) (s : yS) (P : Option Value → yS → Prop) : Prop :=
  ∃ (I : Int32 → Int32 → yS → Prop), I a1 a2 s ∧ ∀ (a1 : Int32) (a2 : Int32) (s : yS), I a1 a2 s → ub_213_2 T I a1 a2 s P
theorem lkl_213_2 {d N0 : Nat}  {a1 : Int32} {a2 : Int32} {s : yS} {P : Option Value → yS → Prop}  (h : ubl_213_2 (Par d)  a1 a2 s P) : Lb d N0 3 (none) xE_213 (xE_213.drop 2) [.ref 213, .int a1, .int a2, .null, .null] [] s P := by
  obtain ⟨I, h0, h1⟩ := h
  have key : ∀ (m : Nat), m ≤ N0 → ∀ (a1 : Int32) (a2 : Int32) (s : yS), I a1 a2 s → Lb d m 3 (none) xE_213 (xE_213.drop 2) [.ref 213, .int a1, .int a2, .null, .null] [] s P := by
    intro m
    induction m with
    | zero => exact fun _ a1 a2 s _ => Lb_0
    | succ m ih =>
      intro hm
      replace hm : m ≤ N0 := Nat.le_of_succ_le hm
      replace ih := ih hm
      intro a1 a2 s hI
      exact lk_213_2 ih (h1 a1 a2 s hI)
  exact key N0 (Nat.le_refl _) a1 a2 s h0
def ub_213_0 (T : Nat → List Value → yS → (Option Value → yS → Prop) → Prop)  (a1 : Int32) (s : yS) (P : Option Value → yS → Prop) : Prop :=
  ubl_213_2 T  a1 0  s P
set_option maxRecDepth 20000 in
theorem lk_213_0 {d N0 : Nat}  {a1 : Int32} {s : yS} {P : Option Value → yS → Prop}  (h : ub_213_0 (Par d)  a1 s P) : Lb d N0 3 (none) xE_213 (xE_213.drop 0) [.ref 213, .int a1, .null, .null, .null] [] s P := by
  unfold ub_213_0 at h
  refine Lb_w (lb_c [.int 0] (xo_push (.int 0)) rfl rfl ?_)
  refine Lb_w (lb_st [.ref 213, .int a1, .int 0, .null, .null] rfl rfl rfl ?_)
  exact lkl_213_2  h
theorem pb_213 {d : Nat} {a1 : Int32} {s : yS} {P : Option Value → yS → Prop} (h : ub_213_0 (Par d) a1 s P) : Par (d + 1) 213 [.ref 213, .int a1] s P := par_of (E := xE_213) (ml := 3) (ret := none) rfl (fun _ => lk_213_0 h)
/-! typeBounds -/
def ub_214_70 (T : Nat → List Value → yS → (Option Value → yS → Prop) → Prop)  (a1 : Int32) (a2 : Int32) (s : yS) (P : Option Value → yS → Prop) : Prop :=
  P none s
set_option maxRecDepth 20000 in
theorem lk_214_70 {d N0 : Nat}  {a1 : Int32} {a2 : Int32} {s : yS} {P : Option Value → yS → Prop}  (h : ub_214_70 (Par d)  a1 a2 s P) : Lb d N0 3 (none) xE_214 (xE_214.drop 70) [.ref 213, .int a1, .int a2, .null, .null] [] s P := by
  unfold ub_214_70 at h
  exact Lb_w (lb_ret0 rfl h)
def ub_214_51 (T : Nat → List Value → yS → (Option Value → yS → Prop) → Prop) (R51 : Int32 → Int32 → yS → Prop) (a1 : Int32) (a2 : Int32) (s : yS) (P : Option Value → yS → Prop) : Prop :=
  ((0 ≤ a1.toInt ∧ a1.toInt < 48) → ((0 ≤ a1.toInt ∧ a1.toInt < 48) → ((-2147483648 ≤ (s.2.1 242 a1.toInt.toNat).toInt + (s.2.1 243 a1.toInt.toNat).toInt ∧ (s.2.1 242 a1.toInt.toNat).toInt + (s.2.1 243 a1.toInt.toNat).toInt ≤ 2147483647) → ∀ x1 : Int32, x1.toInt = (s.2.1 242 a1.toInt.toNat).toInt + (s.2.1 243 a1.toInt.toNat).toInt → (x1.toInt ≤ a2.toInt → ub_214_70 T  a1 a2  s P) ∧ (¬ (x1.toInt ≤ a2.toInt) → (¬ ((s.1 8).toInt = 0) → ub_214_70 T  a1 a2  s P) ∧ ((s.1 8).toInt = 0 → T 213 [.ref 213, .int a2] s (fun v3 s2 => v3 = none ∧ (((-2147483648 ≤ a2.toInt + 1 ∧ a2.toInt + 1 ≤ 2147483647) → ∀ x4 : Int32, x4.toInt = a2.toInt + 1 → R51 a1 x4  s2))))))))
set_option maxRecDepth 20000 in
theorem lk_214_51 {d N0 : Nat} {R51 : Int32 → Int32 → yS → Prop} {a1 : Int32} {a2 : Int32} {s : yS} {P : Option Value → yS → Prop} (r51 : ∀ a1 a2 s, R51 a1 a2 s → Lb d N0 3 (none) xE_214 (xE_214.drop 51) [.ref 213, .int a1, .int a2, .null, .null] [] s P) (h : ub_214_51 (Par d) R51 a1 a2 s P) : Lb d (N0 + 1) 3 (none) xE_214 (xE_214.drop 51) [.ref 213, .int a1, .int a2, .null, .null] [] s P := by
  unfold ub_214_51 at h
  refine lb_ld rfl rfl rfl ?_
  refine Lb_w (lb_ld rfl rfl rfl ?_)
  refine Lb_w (lb_get rfl rfl ?_)
  change Lb _ _ _ _ _ _ _ [.ref 242, .int a2] _ _
  refine Lb_w (lb_ld rfl rfl rfl ?_)
  refine Lb_w (lb_ial rfl rfl (fun hk => ?_))
  change Lb _ _ _ _ _ _ _ [.int (s.2.1 242 a1.toInt.toNat), .int a2] _ _
  replace h := h (kc_in (x := a1) rfl hk)
  refine Lb_w (lb_ld rfl rfl rfl ?_)
  refine Lb_w (lb_get rfl rfl ?_)
  change Lb _ _ _ _ _ _ _ [.ref 243, .int (s.2.1 242 a1.toInt.toNat), .int a2] _ _
  refine Lb_w (lb_ld rfl rfl rfl ?_)
  refine Lb_w (lb_ial rfl rfl (fun hk => ?_))
  change Lb _ _ _ _ _ _ _ [.int (s.2.1 243 a1.toInt.toNat), .int (s.2.1 242 a1.toInt.toNat), .int a2] _ _
  replace h := h (kc_in (x := a1) rfl hk)
  refine Lb_w (lb_ca [.int ((s.2.1 242 a1.toInt.toNat) + (s.2.1 243 a1.toInt.toNat)), .int a2] xo_iadd rfl rfl (fun _ hk => ?_))
  replace hk := kc_add (x := s.2.1 242 a1.toInt.toNat) (y := s.2.1 243 a1.toInt.toNat) rfl rfl hk
  replace h := h hk _ (i_add (x := s.2.1 242 a1.toInt.toNat) (y := s.2.1 243 a1.toInt.toNat) rfl rfl hk)
  refine Lb_w (lb_brP rfl rfl ⟨fun hc => ?_, fun hc => ?_⟩)
  · replace h := h.1 ((i_le (x := ((s.2.1 242 a1.toInt.toNat) + (s.2.1 243 a1.toInt.toNat))) (y := a2) rfl rfl).mp hc)
    exact lk_214_70  h
  · replace h := h.2 (fun q => hc ((i_le (x := ((s.2.1 242 a1.toInt.toNat) + (s.2.1 243 a1.toInt.toNat))) (y := a2) rfl rfl).mpr q))
    refine Lb_w (lb_ld rfl rfl rfl ?_)
    refine Lb_w (lb_get rfl rfl ?_)
    change Lb _ _ _ _ _ _ _ [.int (s.1 8)] _ _
    refine Lb_w (lb_brN rfl rfl ⟨fun hc => ?_, fun hc => ?_⟩)
    · replace h := h.1 (fun q => hc ((i_eq (x := s.1 8) (y := 0) rfl (show (0 : Int32).toInt = 0 by decide)).mpr q))
      exact lk_214_70  h
    · replace h := h.2 ((i_eq (x := s.1 8) (y := 0) rfl (show (0 : Int32).toInt = 0 by decide)).mp hc)
      refine Lb_w (lb_ld rfl rfl rfl ?_)
      refine Lb_w (lb_ld rfl rfl rfl ?_)
      refine Lb_w (lb_call [.ref 213, .int a2] [] rfl rfl rfl (Par.imp h (fun v3 s2 h => ?_)))
      obtain ⟨rfl, h⟩ := h
      change Lb _ _ _ _ _ _ _ [] _ _
      refine Lb_w (lb_inc [.ref 213, .int a1, .int (a2 + 1), .null, .null] rfl rfl rfl rfl (fun hk => ?_))
      replace hk := kc_inc (x := a2) (n := 1) rfl hk
      replace h := h hk _ (i_add (x := a2) (y := 1) rfl (show (1 : Int32).toInt = 1 by decide) hk)
      refine Lb_w (lb_go rfl ?_)
      exact r51 a1 (a2 + 1)  s2 h
def ubl_214_51 (T : Nat → List Value → yS → (Option Value → yS → Prop) → Prop)  (a1 : Int32) (a2 : Int32) (s : yS) (P : Option Value → yS → Prop) : Prop :=
  ∃ (I : Int32 → Int32 → yS → Prop), I a1 a2 s ∧ ∀ (a1 : Int32) (a2 : Int32) (s : yS), I a1 a2 s → ub_214_51 T I a1 a2 s P
theorem lkl_214_51 {d N0 : Nat}  {a1 : Int32} {a2 : Int32} {s : yS} {P : Option Value → yS → Prop}  (h : ubl_214_51 (Par d)  a1 a2 s P) : Lb d N0 3 (none) xE_214 (xE_214.drop 51) [.ref 213, .int a1, .int a2, .null, .null] [] s P := by
  obtain ⟨I, h0, h1⟩ := h
  have key : ∀ (m : Nat), m ≤ N0 → ∀ (a1 : Int32) (a2 : Int32) (s : yS), I a1 a2 s → Lb d m 3 (none) xE_214 (xE_214.drop 51) [.ref 213, .int a1, .int a2, .null, .null] [] s P := by
    intro m
    induction m with
    | zero => exact fun _ a1 a2 s _ => Lb_0
    | succ m ih =>
      intro hm
      replace hm : m ≤ N0 := Nat.le_of_succ_le hm
      replace ih := ih hm
      intro a1 a2 s hI
      exact lk_214_51 ih (h1 a1 a2 s hI)
  exact key N0 (Nat.le_refl _) a1 a2 s h0
def ub_214_46 (T : Nat → List Value → yS → (Option Value → yS → Prop) → Prop)  (a1 : Int32) (a2 : Int32) (s : yS) (P : Option Value → yS → Prop) : Prop :=
  ((0 ≤ a1.toInt ∧ a1.toInt < 48) → ubl_214_51 T  a1 (s.2.1 242 a1.toInt.toNat)  s P)
set_option maxRecDepth 20000 in
theorem lk_214_46 {d N0 : Nat}  {a1 : Int32} {a2 : Int32} {s : yS} {P : Option Value → yS → Prop}  (h : ub_214_46 (Par d)  a1 a2 s P) : Lb d N0 3 (none) xE_214 (xE_214.drop 46) [.ref 213, .int a1, .int a2, .null, .null] [] s P := by
  unfold ub_214_46 at h
  refine Lb_w (lb_ld rfl rfl rfl ?_)
  refine Lb_w (lb_get rfl rfl ?_)
  change Lb _ _ _ _ _ _ _ [.ref 242] _ _
  refine Lb_w (lb_ld rfl rfl rfl ?_)
  refine Lb_w (lb_ial rfl rfl (fun hk => ?_))
  change Lb _ _ _ _ _ _ _ [.int (s.2.1 242 a1.toInt.toNat)] _ _
  replace h := h (kc_in (x := a1) rfl hk)
  refine Lb_w (lb_st [.ref 213, .int a1, .int (s.2.1 242 a1.toInt.toNat), .null, .null] rfl rfl rfl ?_)
  exact lkl_214_51  h
def ub_214_25 (T : Nat → List Value → yS → (Option Value → yS → Prop) → Prop) (R25 : Int32 → Int32 → yS → Prop) (a1 : Int32) (a2 : Int32) (s : yS) (P : Option Value → yS → Prop) : Prop :=
  ((0 ≤ a1.toInt ∧ a1.toInt < 48) → ((s.2.1 239 a1.toInt.toNat).toInt ≤ a2.toInt → ub_214_46 T  a1 a2  s P) ∧ (¬ ((s.2.1 239 a1.toInt.toNat).toInt ≤ a2.toInt) → (¬ ((s.1 8).toInt = 0) → ub_214_46 T  a1 a2  s P) ∧ ((s.1 8).toInt = 0 → ((-2147483648 ≤ 6 * a1.toInt ∧ 6 * a1.toInt ≤ 2147483647) → ∀ x1 : Int32, x1.toInt = 6 * a1.toInt → ((-2147483648 ≤ x1.toInt + a2.toInt ∧ x1.toInt + a2.toInt ≤ 2147483647) → ∀ x2 : Int32, x2.toInt = x1.toInt + a2.toInt → ((0 ≤ x2.toInt ∧ x2.toInt < 288) → T 211 [.ref 213, .int (s.2.1 241 x2.toInt.toNat)] s (fun v4 s3 => v4 = none ∧ (((-2147483648 ≤ a2.toInt + 1 ∧ a2.toInt + 1 ≤ 2147483647) → ∀ x5 : Int32, x5.toInt = a2.toInt + 1 → R25 a1 x5  s3)))))))))
set_option maxRecDepth 20000 in
theorem lk_214_25 {d N0 : Nat} {R25 : Int32 → Int32 → yS → Prop} {a1 : Int32} {a2 : Int32} {s : yS} {P : Option Value → yS → Prop} (r25 : ∀ a1 a2 s, R25 a1 a2 s → Lb d N0 3 (none) xE_214 (xE_214.drop 25) [.ref 213, .int a1, .int a2, .null, .null] [] s P) (h : ub_214_25 (Par d) R25 a1 a2 s P) : Lb d (N0 + 1) 3 (none) xE_214 (xE_214.drop 25) [.ref 213, .int a1, .int a2, .null, .null] [] s P := by
  unfold ub_214_25 at h
  refine lb_ld rfl rfl rfl ?_
  refine Lb_w (lb_ld rfl rfl rfl ?_)
  refine Lb_w (lb_get rfl rfl ?_)
  change Lb _ _ _ _ _ _ _ [.ref 239, .int a2] _ _
  refine Lb_w (lb_ld rfl rfl rfl ?_)
  refine Lb_w (lb_ial rfl rfl (fun hk => ?_))
  change Lb _ _ _ _ _ _ _ [.int (s.2.1 239 a1.toInt.toNat), .int a2] _ _
  replace h := h (kc_in (x := a1) rfl hk)
  refine Lb_w (lb_brP rfl rfl ⟨fun hc => ?_, fun hc => ?_⟩)
  · replace h := h.1 ((i_le (x := s.2.1 239 a1.toInt.toNat) (y := a2) rfl rfl).mp hc)
    exact lk_214_46  h
  · replace h := h.2 (fun q => hc ((i_le (x := s.2.1 239 a1.toInt.toNat) (y := a2) rfl rfl).mpr q))
    refine Lb_w (lb_ld rfl rfl rfl ?_)
    refine Lb_w (lb_get rfl rfl ?_)
    change Lb _ _ _ _ _ _ _ [.int (s.1 8)] _ _
    refine Lb_w (lb_brN rfl rfl ⟨fun hc => ?_, fun hc => ?_⟩)
    · replace h := h.1 (fun q => hc ((i_eq (x := s.1 8) (y := 0) rfl (show (0 : Int32).toInt = 0 by decide)).mpr q))
      exact lk_214_46  h
    · replace h := h.2 ((i_eq (x := s.1 8) (y := 0) rfl (show (0 : Int32).toInt = 0 by decide)).mp hc)
      refine Lb_w (lb_ld rfl rfl rfl ?_)
      refine Lb_w (lb_ld rfl rfl rfl ?_)
      refine Lb_w (lb_get rfl rfl ?_)
      change Lb _ _ _ _ _ _ _ [.ref 241, .ref 213] _ _
      refine Lb_w (lb_c [.int 6, .ref 241, .ref 213] (xo_push (.int 6)) rfl rfl ?_)
      refine Lb_w (lb_ld rfl rfl rfl ?_)
      refine Lb_w (lb_ca [.int (6 * a1), .ref 241, .ref 213] xo_imul rfl rfl (fun _ hk => ?_))
      replace hk := kc_mul (x := 6) (y := a1) (show (6 : Int32).toInt = 6 by decide) rfl hk
      replace h := h hk _ (i_mul (x := 6) (y := a1) (show (6 : Int32).toInt = 6 by decide) rfl hk)
      refine Lb_w (lb_ld rfl rfl rfl ?_)
      refine Lb_w (lb_ca [.int ((6 * a1) + a2), .ref 241, .ref 213] xo_iadd rfl rfl (fun _ hk => ?_))
      replace hk := kc_add (x := (6 * a1)) (y := a2) rfl rfl hk
      replace h := h hk _ (i_add (x := (6 * a1)) (y := a2) rfl rfl hk)
      refine Lb_w (lb_ial rfl rfl (fun hk => ?_))
      change Lb _ _ _ _ _ _ _ [.int (s.2.1 241 ((6 * a1) + a2).toInt.toNat), .ref 213] _ _
      replace h := h (kc_in (x := ((6 * a1) + a2)) rfl hk)
      refine Lb_w (lb_call [.ref 213, .int (s.2.1 241 ((6 * a1) + a2).toInt.toNat)] [] rfl rfl rfl (Par.imp h (fun v4 s3 h => ?_)))
      obtain ⟨rfl, h⟩ := h
      change Lb _ _ _ _ _ _ _ [] _ _
      refine Lb_w (lb_inc [.ref 213, .int a1, .int (a2 + 1), .null, .null] rfl rfl rfl rfl (fun hk => ?_))
      replace hk := kc_inc (x := a2) (n := 1) rfl hk
      replace h := h hk _ (i_add (x := a2) (y := 1) rfl (show (1 : Int32).toInt = 1 by decide) hk)
      refine Lb_w (lb_go rfl ?_)
      exact r25 a1 (a2 + 1)  s3 h
def ubl_214_25 (T : Nat → List Value → yS → (Option Value → yS → Prop) → Prop)  (a1 : Int32) (a2 : Int32) (s : yS) (P : Option Value → yS → Prop) : Prop :=
  ∃ (I : Int32 → Int32 → yS → Prop), I a1 a2 s ∧ ∀ (a1 : Int32) (a2 : Int32) (s : yS), I a1 a2 s → ub_214_25 T I a1 a2 s P
theorem lkl_214_25 {d N0 : Nat}  {a1 : Int32} {a2 : Int32} {s : yS} {P : Option Value → yS → Prop}  (h : ubl_214_25 (Par d)  a1 a2 s P) : Lb d N0 3 (none) xE_214 (xE_214.drop 25) [.ref 213, .int a1, .int a2, .null, .null] [] s P := by
  obtain ⟨I, h0, h1⟩ := h
  have key : ∀ (m : Nat), m ≤ N0 → ∀ (a1 : Int32) (a2 : Int32) (s : yS), I a1 a2 s → Lb d m 3 (none) xE_214 (xE_214.drop 25) [.ref 213, .int a1, .int a2, .null, .null] [] s P := by
    intro m
    induction m with
    | zero => exact fun _ a1 a2 s _ => Lb_0
    | succ m ih =>
      intro hm
      replace hm : m ≤ N0 := Nat.le_of_succ_le hm
      replace ih := ih hm
      intro a1 a2 s hI
      exact lk_214_25 ih (h1 a1 a2 s hI)
  exact key N0 (Nat.le_refl _) a1 a2 s h0
def ub_214_23 (T : Nat → List Value → yS → (Option Value → yS → Prop) → Prop)  (a1 : Int32) (a2 : Int32) (s : yS) (P : Option Value → yS → Prop) : Prop :=
  ubl_214_25 T  a1 0  s P
set_option maxRecDepth 20000 in
theorem lk_214_23 {d N0 : Nat}  {a1 : Int32} {a2 : Int32} {s : yS} {P : Option Value → yS → Prop}  (h : ub_214_23 (Par d)  a1 a2 s P) : Lb d N0 3 (none) xE_214 (xE_214.drop 23) [.ref 213, .int a1, .int a2, .null, .null] [] s P := by
  unfold ub_214_23 at h
  refine Lb_w (lb_c [.int 0] (xo_push (.int 0)) rfl rfl ?_)
  refine Lb_w (lb_st [.ref 213, .int a1, .int 0, .null, .null] rfl rfl rfl ?_)
  exact lkl_214_25  h
def ub_214_2 (T : Nat → List Value → yS → (Option Value → yS → Prop) → Prop) (R2 : Int32 → Int32 → yS → Prop) (a1 : Int32) (a2 : Int32) (s : yS) (P : Option Value → yS → Prop) : Prop :=
  ((0 ≤ a1.toInt ∧ a1.toInt < 48) → ((s.2.1 236 a1.toInt.toNat).toInt ≤ a2.toInt → ub_214_23 T  a1 a2  s P) ∧ (¬ ((s.2.1 236 a1.toInt.toNat).toInt ≤ a2.toInt) → (¬ ((s.1 8).toInt = 0) → ub_214_23 T  a1 a2  s P) ∧ ((s.1 8).toInt = 0 → ((-2147483648 ≤ 6 * a1.toInt ∧ 6 * a1.toInt ≤ 2147483647) → ∀ x1 : Int32, x1.toInt = 6 * a1.toInt → ((-2147483648 ≤ x1.toInt + a2.toInt ∧ x1.toInt + a2.toInt ≤ 2147483647) → ∀ x2 : Int32, x2.toInt = x1.toInt + a2.toInt → ((0 ≤ x2.toInt ∧ x2.toInt < 288) → T 211 [.ref 213, .int (s.2.1 238 x2.toInt.toNat)] s (fun v4 s3 => v4 = none ∧ (((-2147483648 ≤ a2.toInt + 1 ∧ a2.toInt + 1 ≤ 2147483647) → ∀ x5 : Int32, x5.toInt = a2.toInt + 1 → R2 a1 x5  s3)))))))))
set_option maxRecDepth 20000 in
theorem lk_214_2 {d N0 : Nat} {R2 : Int32 → Int32 → yS → Prop} {a1 : Int32} {a2 : Int32} {s : yS} {P : Option Value → yS → Prop} (r2 : ∀ a1 a2 s, R2 a1 a2 s → Lb d N0 3 (none) xE_214 (xE_214.drop 2) [.ref 213, .int a1, .int a2, .null, .null] [] s P) (h : ub_214_2 (Par d) R2 a1 a2 s P) : Lb d (N0 + 1) 3 (none) xE_214 (xE_214.drop 2) [.ref 213, .int a1, .int a2, .null, .null] [] s P := by
  unfold ub_214_2 at h
  refine lb_ld rfl rfl rfl ?_
  refine Lb_w (lb_ld rfl rfl rfl ?_)
  refine Lb_w (lb_get rfl rfl ?_)
  change Lb _ _ _ _ _ _ _ [.ref 236, .int a2] _ _
  refine Lb_w (lb_ld rfl rfl rfl ?_)
  refine Lb_w (lb_ial rfl rfl (fun hk => ?_))
  change Lb _ _ _ _ _ _ _ [.int (s.2.1 236 a1.toInt.toNat), .int a2] _ _
  replace h := h (kc_in (x := a1) rfl hk)
  refine Lb_w (lb_brP rfl rfl ⟨fun hc => ?_, fun hc => ?_⟩)
  · replace h := h.1 ((i_le (x := s.2.1 236 a1.toInt.toNat) (y := a2) rfl rfl).mp hc)
    exact lk_214_23  h
  · replace h := h.2 (fun q => hc ((i_le (x := s.2.1 236 a1.toInt.toNat) (y := a2) rfl rfl).mpr q))
    refine Lb_w (lb_ld rfl rfl rfl ?_)
    refine Lb_w (lb_get rfl rfl ?_)
    change Lb _ _ _ _ _ _ _ [.int (s.1 8)] _ _
    refine Lb_w (lb_brN rfl rfl ⟨fun hc => ?_, fun hc => ?_⟩)
    · replace h := h.1 (fun q => hc ((i_eq (x := s.1 8) (y := 0) rfl (show (0 : Int32).toInt = 0 by decide)).mpr q))
      exact lk_214_23  h
    · replace h := h.2 ((i_eq (x := s.1 8) (y := 0) rfl (show (0 : Int32).toInt = 0 by decide)).mp hc)
      refine Lb_w (lb_ld rfl rfl rfl ?_)
      refine Lb_w (lb_ld rfl rfl rfl ?_)
      refine Lb_w (lb_get rfl rfl ?_)
      change Lb _ _ _ _ _ _ _ [.ref 238, .ref 213] _ _
      refine Lb_w (lb_c [.int 6, .ref 238, .ref 213] (xo_push (.int 6)) rfl rfl ?_)
      refine Lb_w (lb_ld rfl rfl rfl ?_)
      refine Lb_w (lb_ca [.int (6 * a1), .ref 238, .ref 213] xo_imul rfl rfl (fun _ hk => ?_))
      replace hk := kc_mul (x := 6) (y := a1) (show (6 : Int32).toInt = 6 by decide) rfl hk
      replace h := h hk _ (i_mul (x := 6) (y := a1) (show (6 : Int32).toInt = 6 by decide) rfl hk)
      refine Lb_w (lb_ld rfl rfl rfl ?_)
      refine Lb_w (lb_ca [.int ((6 * a1) + a2), .ref 238, .ref 213] xo_iadd rfl rfl (fun _ hk => ?_))
      replace hk := kc_add (x := (6 * a1)) (y := a2) rfl rfl hk
      replace h := h hk _ (i_add (x := (6 * a1)) (y := a2) rfl rfl hk)
      refine Lb_w (lb_ial rfl rfl (fun hk => ?_))
      change Lb _ _ _ _ _ _ _ [.int (s.2.1 238 ((6 * a1) + a2).toInt.toNat), .ref 213] _ _
      replace h := h (kc_in (x := ((6 * a1) + a2)) rfl hk)
      refine Lb_w (lb_call [.ref 213, .int (s.2.1 238 ((6 * a1) + a2).toInt.toNat)] [] rfl rfl rfl (Par.imp h (fun v4 s3 h => ?_)))
      obtain ⟨rfl, h⟩ := h
      change Lb _ _ _ _ _ _ _ [] _ _
      refine Lb_w (lb_inc [.ref 213, .int a1, .int (a2 + 1), .null, .null] rfl rfl rfl rfl (fun hk => ?_))
      replace hk := kc_inc (x := a2) (n := 1) rfl hk
      replace h := h hk _ (i_add (x := a2) (y := 1) rfl (show (1 : Int32).toInt = 1 by decide) hk)
      refine Lb_w (lb_go rfl ?_)
      exact r2 a1 (a2 + 1)  s3 h
def ubl_214_2 (T : Nat → List Value → yS → (Option Value → yS → Prop) → Prop)  (a1 : Int32) (a2 : Int32) (s : yS) (P : Option Value → yS → Prop) : Prop :=
  ∃ (I : Int32 → Int32 → yS → Prop), I a1 a2 s ∧ ∀ (a1 : Int32) (a2 : Int32) (s : yS), I a1 a2 s → ub_214_2 T I a1 a2 s P
theorem lkl_214_2 {d N0 : Nat}  {a1 : Int32} {a2 : Int32} {s : yS} {P : Option Value → yS → Prop}  (h : ubl_214_2 (Par d)  a1 a2 s P) : Lb d N0 3 (none) xE_214 (xE_214.drop 2) [.ref 213, .int a1, .int a2, .null, .null] [] s P := by
  obtain ⟨I, h0, h1⟩ := h
  have key : ∀ (m : Nat), m ≤ N0 → ∀ (a1 : Int32) (a2 : Int32) (s : yS), I a1 a2 s → Lb d m 3 (none) xE_214 (xE_214.drop 2) [.ref 213, .int a1, .int a2, .null, .null] [] s P := by
    intro m
    induction m with
    | zero => exact fun _ a1 a2 s _ => Lb_0
    | succ m ih =>
      intro hm
      replace hm : m ≤ N0 := Nat.le_of_succ_le hm
      replace ih := ih hm
      intro a1 a2 s hI
      exact lk_214_2 ih (h1 a1 a2 s hI)
  exact key N0 (Nat.le_refl _) a1 a2 s h0
def ub_214_0 (T : Nat → List Value → yS → (Option Value → yS → Prop) → Prop)  (a1 : Int32) (s : yS) (P : Option Value → yS → Prop) : Prop :=
  ubl_214_2 T  a1 0  s P
set_option maxRecDepth 20000 in
theorem lk_214_0 {d N0 : Nat}  {a1 : Int32} {s : yS} {P : Option Value → yS → Prop}  (h : ub_214_0 (Par d)  a1 s P) : Lb d N0 3 (none) xE_214 (xE_214.drop 0) [.ref 213, .int a1, .null, .null, .null] [] s P := by
  unfold ub_214_0 at h
  refine Lb_w (lb_c [.int 0] (xo_push (.int 0)) rfl rfl ?_)
  refine Lb_w (lb_st [.ref 213, .int a1, .int 0, .null, .null] rfl rfl rfl ?_)
  exact lkl_214_2  h
theorem pb_214 {d : Nat} {a1 : Int32} {s : yS} {P : Option Value → yS → Prop} (h : ub_214_0 (Par d) a1 s P) : Par (d + 1) 214 [.ref 213, .int a1] s P := par_of (E := xE_214) (ml := 3) (ret := none) rfl (fun _ => lk_214_0 h)
/-! selves -/
def ub_215_161 (T : Nat → List Value → yS → (Option Value → yS → Prop) → Prop) (R138 : Int32 → Int32 → yS → Prop) (a1 : Int32) (a2 : Int32) (s : yS) (P : Option Value → yS → Prop) : Prop :=
  ((-2147483648 ≤ a2.toInt + 1 ∧ a2.toInt + 1 ≤ 2147483647) → ∀ x1 : Int32, x1.toInt = a2.toInt + 1 → R138 a1 x1  s)
set_option maxRecDepth 20000 in
theorem lk_215_161 {d N0 : Nat} {R138 : Int32 → Int32 → yS → Prop} {a1 : Int32} {a2 : Int32} {s : yS} {P : Option Value → yS → Prop} (r138 : ∀ a1 a2 s, R138 a1 a2 s → Lb d N0 5 (none) xE_215 (xE_215.drop 138) [.ref 213, .int a1, .int a2, .null, .null, .null] [] s P) (h : ub_215_161 (Par d) R138 a1 a2 s P) : Lb d N0 5 (none) xE_215 (xE_215.drop 161) [.ref 213, .int a1, .int a2, .null, .null, .null] [] s P := by
  unfold ub_215_161 at h
  refine Lb_w (lb_inc [.ref 213, .int a1, .int (a2 + 1), .null, .null, .null] rfl rfl rfl rfl (fun hk => ?_))
  replace hk := kc_inc (x := a2) (n := 1) rfl hk
  replace h := h hk _ (i_add (x := a2) (y := 1) rfl (show (1 : Int32).toInt = 1 by decide) hk)
  refine Lb_w (lb_go rfl ?_)
  exact r138 a1 (a2 + 1)  s h
def ub_215_138 (T : Nat → List Value → yS → (Option Value → yS → Prop) → Prop) (R138 : Int32 → Int32 → yS → Prop) (a1 : Int32) (a2 : Int32) (s : yS) (P : Option Value → yS → Prop) : Prop :=
  ((0 ≤ (s.1 30).toInt ∧ (s.1 30).toInt < 2) → ((s.2.1 233 (s.1 30).toInt.toNat).toInt ≤ a2.toInt → P none s) ∧ (¬ ((s.2.1 233 (s.1 30).toInt.toNat).toInt ≤ a2.toInt) → ((-2147483648 ≤ 25 * a2.toInt ∧ 25 * a2.toInt ≤ 2147483647) → ∀ x1 : Int32, x1.toInt = 25 * a2.toInt → ((0 ≤ x1.toInt ∧ x1.toInt < 576) → ((s.2.1 269 x1.toInt.toNat).toInt = 0 → ub_215_161 T R138 a1 a2  s P) ∧ (¬ ((s.2.1 269 x1.toInt.toNat).toInt = 0) → ((-2147483648 ≤ a1.toInt + a2.toInt ∧ a1.toInt + a2.toInt ≤ 2147483647) → ∀ x2 : Int32, x2.toInt = a1.toInt + a2.toInt → ((0 ≤ x2.toInt ∧ x2.toInt < 48) → T 163 [.ref 213, .int 8, .int (s.2.1 234 x2.toInt.toNat)] s (fun v4 s3 => v4 = none ∧ (ub_215_161 T R138 a1 a2  s3 P)))))))))
set_option maxRecDepth 20000 in
theorem lk_215_138 {d N0 : Nat} {R138 : Int32 → Int32 → yS → Prop} {a1 : Int32} {a2 : Int32} {s : yS} {P : Option Value → yS → Prop} (r138 : ∀ a1 a2 s, R138 a1 a2 s → Lb d N0 5 (none) xE_215 (xE_215.drop 138) [.ref 213, .int a1, .int a2, .null, .null, .null] [] s P) (h : ub_215_138 (Par d) R138 a1 a2 s P) : Lb d (N0 + 1) 5 (none) xE_215 (xE_215.drop 138) [.ref 213, .int a1, .int a2, .null, .null, .null] [] s P := by
  unfold ub_215_138 at h
  refine lb_ld rfl rfl rfl ?_
  refine Lb_w (lb_ld rfl rfl rfl ?_)
  refine Lb_w (lb_get rfl rfl ?_)
  change Lb _ _ _ _ _ _ _ [.ref 233, .int a2] _ _
  refine Lb_w (lb_ld rfl rfl rfl ?_)
  refine Lb_w (lb_get rfl rfl ?_)
  change Lb _ _ _ _ _ _ _ [.int (s.1 30), .ref 233, .int a2] _ _
  refine Lb_w (lb_ial rfl rfl (fun hk => ?_))
  change Lb _ _ _ _ _ _ _ [.int (s.2.1 233 (s.1 30).toInt.toNat), .int a2] _ _
  replace h := h (kc_in (x := s.1 30) rfl hk)
  refine Lb_w (lb_brP rfl rfl ⟨fun hc => ?_, fun hc => ?_⟩)
  · replace h := h.1 ((i_le (x := s.2.1 233 (s.1 30).toInt.toNat) (y := a2) rfl rfl).mp hc)
    exact Lb_w (lb_ret0 rfl h)
  · replace h := h.2 (fun q => hc ((i_le (x := s.2.1 233 (s.1 30).toInt.toNat) (y := a2) rfl rfl).mpr q))
    refine Lb_w (lb_ld rfl rfl rfl ?_)
    refine Lb_w (lb_get rfl rfl ?_)
    change Lb _ _ _ _ _ _ _ [.ref 269] _ _
    refine Lb_w (lb_c [.int 25, .ref 269] (xo_push (.int 25)) rfl rfl ?_)
    refine Lb_w (lb_ld rfl rfl rfl ?_)
    refine Lb_w (lb_ca [.int (25 * a2), .ref 269] xo_imul rfl rfl (fun _ hk => ?_))
    replace hk := kc_mul (x := 25) (y := a2) (show (25 : Int32).toInt = 25 by decide) rfl hk
    replace h := h hk _ (i_mul (x := 25) (y := a2) (show (25 : Int32).toInt = 25 by decide) rfl hk)
    refine Lb_w (lb_zal rfl rfl (fun hk => ?_))
    change Lb _ _ _ _ _ _ _ [.int (s.2.1 269 (25 * a2).toInt.toNat)] _ _
    replace h := h (kc_in (x := (25 * a2)) rfl hk)
    refine Lb_w (lb_brP rfl rfl ⟨fun hc => ?_, fun hc => ?_⟩)
    · replace h := h.1 ((i_eq (x := s.2.1 269 (25 * a2).toInt.toNat) (y := 0) rfl (show (0 : Int32).toInt = 0 by decide)).mp hc)
      exact lk_215_161 r138 h
    · replace h := h.2 (fun q => hc ((i_eq (x := s.2.1 269 (25 * a2).toInt.toNat) (y := 0) rfl (show (0 : Int32).toInt = 0 by decide)).mpr q))
      refine Lb_w (lb_ld rfl rfl rfl ?_)
      refine Lb_w (lb_c [.int 8, .ref 213] (xo_push (.int 8)) rfl rfl ?_)
      refine Lb_w (lb_ld rfl rfl rfl ?_)
      refine Lb_w (lb_get rfl rfl ?_)
      change Lb _ _ _ _ _ _ _ [.ref 234, .int 8, .ref 213] _ _
      refine Lb_w (lb_ld rfl rfl rfl ?_)
      refine Lb_w (lb_ld rfl rfl rfl ?_)
      refine Lb_w (lb_ca [.int (a1 + a2), .ref 234, .int 8, .ref 213] xo_iadd rfl rfl (fun _ hk => ?_))
      replace hk := kc_add (x := a1) (y := a2) rfl rfl hk
      replace h := h hk _ (i_add (x := a1) (y := a2) rfl rfl hk)
      refine Lb_w (lb_ial rfl rfl (fun hk => ?_))
      change Lb _ _ _ _ _ _ _ [.int (s.2.1 234 (a1 + a2).toInt.toNat), .int 8, .ref 213] _ _
      replace h := h (kc_in (x := (a1 + a2)) rfl hk)
      refine Lb_w (lb_call [.ref 213, .int 8, .int (s.2.1 234 (a1 + a2).toInt.toNat)] [] rfl rfl rfl (Par.imp h (fun v4 s3 h => ?_)))
      obtain ⟨rfl, h⟩ := h
      change Lb _ _ _ _ _ _ _ [] _ _
      exact lk_215_161 r138 h
def ubl_215_138 (T : Nat → List Value → yS → (Option Value → yS → Prop) → Prop)  (a1 : Int32) (a2 : Int32) (s : yS) (P : Option Value → yS → Prop) : Prop :=
  ∃ (I : Int32 → Int32 → yS → Prop), I a1 a2 s ∧ ∀ (a1 : Int32) (a2 : Int32) (s : yS), I a1 a2 s → ub_215_138 T I a1 a2 s P
theorem lkl_215_138 {d N0 : Nat}  {a1 : Int32} {a2 : Int32} {s : yS} {P : Option Value → yS → Prop}  (h : ubl_215_138 (Par d)  a1 a2 s P) : Lb d N0 5 (none) xE_215 (xE_215.drop 138) [.ref 213, .int a1, .int a2, .null, .null, .null] [] s P := by
  obtain ⟨I, h0, h1⟩ := h
  have key : ∀ (m : Nat), m ≤ N0 → ∀ (a1 : Int32) (a2 : Int32) (s : yS), I a1 a2 s → Lb d m 5 (none) xE_215 (xE_215.drop 138) [.ref 213, .int a1, .int a2, .null, .null, .null] [] s P := by
    intro m
    induction m with
    | zero => exact fun _ a1 a2 s _ => Lb_0
    | succ m ih =>
      intro hm
      replace hm : m ≤ N0 := Nat.le_of_succ_le hm
      replace ih := ih hm
      intro a1 a2 s hI
      exact lk_215_138 ih (h1 a1 a2 s hI)
  exact key N0 (Nat.le_refl _) a1 a2 s h0
def ub_215_129 (T : Nat → List Value → yS → (Option Value → yS → Prop) → Prop) (R79 : Int32 → Int32 → yS → Prop) (R84 : Int32 → Int32 → Int32 → yS → Prop) (R89 : Int32 → Int32 → Int32 → Int32 → yS → Prop) (a1 : Int32) (a2 : Int32) (a3 : Int32) (a4 : Int32) (t1 : Int32) (t2 : Int32) (s : yS) (P : Option Value → yS → Prop) : Prop :=
  (((0 ≤ t1.toInt ∧ t1.toInt < 576) ∧ (t2.toInt = 0 ∨ t2.toInt = 1)) → ∀ s1, s1 = sa s 269 t1.toInt.toNat t2 → ((-2147483648 ≤ a4.toInt + 1 ∧ a4.toInt + 1 ≤ 2147483647) → ∀ x2 : Int32, x2.toInt = a4.toInt + 1 → R89 a1 a2 a3 x2  s1))
set_option maxRecDepth 20000 in
theorem lk_215_129 {d N0 : Nat} {R79 : Int32 → Int32 → yS → Prop} {R84 : Int32 → Int32 → Int32 → yS → Prop} {R89 : Int32 → Int32 → Int32 → Int32 → yS → Prop} {a1 : Int32} {a2 : Int32} {a3 : Int32} {a4 : Int32} {t1 : Int32} {t2 : Int32} {s : yS} {P : Option Value → yS → Prop} (r79 : ∀ a1 a2 s, R79 a1 a2 s → Lb d N0 5 (none) xE_215 (xE_215.drop 79) [.ref 213, .int a1, .int a2, .null, .null, .null] [] s P) (r84 : ∀ a1 a2 a3 s, R84 a1 a2 a3 s → Lb d N0 5 (none) xE_215 (xE_215.drop 84) [.ref 213, .int a1, .int a2, .int a3, .null, .null] [] s P) (r89 : ∀ a1 a2 a3 a4 s, R89 a1 a2 a3 a4 s → Lb d N0 5 (none) xE_215 (xE_215.drop 89) [.ref 213, .int a1, .int a2, .int a3, .int a4, .null] [] s P) (h : ub_215_129 (Par d) R79 R84 R89 a1 a2 a3 a4 t1 t2 s P) : Lb d N0 5 (none) xE_215 (xE_215.drop 129) [.ref 213, .int a1, .int a2, .int a3, .int a4, .null] [.int t2, .int t1, .ref 269] s P := by
  unfold ub_215_129 at h
  refine Lb_w (lb_zas rfl rfl (fun hk hk2 => ?_))
  replace h := h ⟨kc_in (x := t1) rfl hk, kc_z (x := t2) rfl hk2⟩
  replace h := h _ rfl
  refine Lb_w (lb_inc [.ref 213, .int a1, .int a2, .int a3, .int (a4 + 1), .null] rfl rfl rfl rfl (fun hk => ?_))
  replace hk := kc_inc (x := a4) (n := 1) rfl hk
  replace h := h hk _ (i_add (x := a4) (y := 1) rfl (show (1 : Int32).toInt = 1 by decide) hk)
  refine Lb_w (lb_go rfl ?_)
  exact r89 a1 a2 a3 (a4 + 1)  (sa s 269 t1.toInt.toNat t2) h
def ub_215_128 (T : Nat → List Value → yS → (Option Value → yS → Prop) → Prop) (R79 : Int32 → Int32 → yS → Prop) (R84 : Int32 → Int32 → Int32 → yS → Prop) (R89 : Int32 → Int32 → Int32 → Int32 → yS → Prop) (a1 : Int32) (a2 : Int32) (a3 : Int32) (a4 : Int32) (t1 : Int32) (s : yS) (P : Option Value → yS → Prop) : Prop :=
  ub_215_129 T R79 R84 R89 a1 a2 a3 a4 t1 0 s P
set_option maxRecDepth 20000 in
theorem lk_215_128 {d N0 : Nat} {R79 : Int32 → Int32 → yS → Prop} {R84 : Int32 → Int32 → Int32 → yS → Prop} {R89 : Int32 → Int32 → Int32 → Int32 → yS → Prop} {a1 : Int32} {a2 : Int32} {a3 : Int32} {a4 : Int32} {t1 : Int32} {s : yS} {P : Option Value → yS → Prop} (r79 : ∀ a1 a2 s, R79 a1 a2 s → Lb d N0 5 (none) xE_215 (xE_215.drop 79) [.ref 213, .int a1, .int a2, .null, .null, .null] [] s P) (r84 : ∀ a1 a2 a3 s, R84 a1 a2 a3 s → Lb d N0 5 (none) xE_215 (xE_215.drop 84) [.ref 213, .int a1, .int a2, .int a3, .null, .null] [] s P) (r89 : ∀ a1 a2 a3 a4 s, R89 a1 a2 a3 a4 s → Lb d N0 5 (none) xE_215 (xE_215.drop 89) [.ref 213, .int a1, .int a2, .int a3, .int a4, .null] [] s P) (h : ub_215_128 (Par d) R79 R84 R89 a1 a2 a3 a4 t1 s P) : Lb d N0 5 (none) xE_215 (xE_215.drop 128) [.ref 213, .int a1, .int a2, .int a3, .int a4, .null] [.int t1, .ref 269] s P := by
  unfold ub_215_128 at h
  refine Lb_w (lb_c [.int 0, .int t1, .ref 269] (xo_push (.int 0)) rfl rfl ?_)
  exact lk_215_129 r79 r84 r89 h
def ub_215_126 (T : Nat → List Value → yS → (Option Value → yS → Prop) → Prop) (R79 : Int32 → Int32 → yS → Prop) (R84 : Int32 → Int32 → Int32 → yS → Prop) (R89 : Int32 → Int32 → Int32 → Int32 → yS → Prop) (a1 : Int32) (a2 : Int32) (a3 : Int32) (a4 : Int32) (t1 : Int32) (s : yS) (P : Option Value → yS → Prop) : Prop :=
  ub_215_129 T R79 R84 R89 a1 a2 a3 a4 t1 1 s P
set_option maxRecDepth 20000 in
theorem lk_215_126 {d N0 : Nat} {R79 : Int32 → Int32 → yS → Prop} {R84 : Int32 → Int32 → Int32 → yS → Prop} {R89 : Int32 → Int32 → Int32 → Int32 → yS → Prop} {a1 : Int32} {a2 : Int32} {a3 : Int32} {a4 : Int32} {t1 : Int32} {s : yS} {P : Option Value → yS → Prop} (r79 : ∀ a1 a2 s, R79 a1 a2 s → Lb d N0 5 (none) xE_215 (xE_215.drop 79) [.ref 213, .int a1, .int a2, .null, .null, .null] [] s P) (r84 : ∀ a1 a2 a3 s, R84 a1 a2 a3 s → Lb d N0 5 (none) xE_215 (xE_215.drop 84) [.ref 213, .int a1, .int a2, .int a3, .null, .null] [] s P) (r89 : ∀ a1 a2 a3 a4 s, R89 a1 a2 a3 a4 s → Lb d N0 5 (none) xE_215 (xE_215.drop 89) [.ref 213, .int a1, .int a2, .int a3, .int a4, .null] [] s P) (h : ub_215_126 (Par d) R79 R84 R89 a1 a2 a3 a4 t1 s P) : Lb d N0 5 (none) xE_215 (xE_215.drop 126) [.ref 213, .int a1, .int a2, .int a3, .int a4, .null] [.int t1, .ref 269] s P := by
  unfold ub_215_126 at h
  refine Lb_w (lb_c [.int 1, .int t1, .ref 269] (xo_push (.int 1)) rfl rfl ?_)
  refine Lb_w (lb_go rfl ?_)
  exact lk_215_129 r79 r84 r89 h
def ub_215_89 (T : Nat → List Value → yS → (Option Value → yS → Prop) → Prop) (R79 : Int32 → Int32 → yS → Prop) (R84 : Int32 → Int32 → Int32 → yS → Prop) (R89 : Int32 → Int32 → Int32 → Int32 → yS → Prop) (a1 : Int32) (a2 : Int32) (a3 : Int32) (a4 : Int32) (s : yS) (P : Option Value → yS → Prop) : Prop :=
  (24 ≤ a4.toInt → ((-2147483648 ≤ a3.toInt + 1 ∧ a3.toInt + 1 ≤ 2147483647) → ∀ x1 : Int32, x1.toInt = a3.toInt + 1 → R84 a1 a2 x1  s)) ∧ (¬ (24 ≤ a4.toInt) → ((-2147483648 ≤ 24 * a3.toInt ∧ 24 * a3.toInt ≤ 2147483647) → ∀ x2 : Int32, x2.toInt = 24 * a3.toInt → ((-2147483648 ≤ x2.toInt + a4.toInt ∧ x2.toInt + a4.toInt ≤ 2147483647) → ∀ x3 : Int32, x3.toInt = x2.toInt + a4.toInt → ((-2147483648 ≤ 24 * a3.toInt ∧ 24 * a3.toInt ≤ 2147483647) → ∀ x4 : Int32, x4.toInt = 24 * a3.toInt → ((-2147483648 ≤ x4.toInt + a4.toInt ∧ x4.toInt + a4.toInt ≤ 2147483647) → ∀ x5 : Int32, x5.toInt = x4.toInt + a4.toInt → ((0 ≤ x5.toInt ∧ x5.toInt < 576) → (¬ ((s.2.1 269 x5.toInt.toNat).toInt = 0) → ub_215_126 T R79 R84 R89 a1 a2 a3 a4 x3 s P) ∧ ((s.2.1 269 x5.toInt.toNat).toInt = 0 → ((-2147483648 ≤ 24 * a3.toInt ∧ 24 * a3.toInt ≤ 2147483647) → ∀ x6 : Int32, x6.toInt = 24 * a3.toInt → ((-2147483648 ≤ x6.toInt + a2.toInt ∧ x6.toInt + a2.toInt ≤ 2147483647) → ∀ x7 : Int32, x7.toInt = x6.toInt + a2.toInt → ((0 ≤ x7.toInt ∧ x7.toInt < 576) → ((s.2.1 269 x7.toInt.toNat).toInt = 0 → ub_215_128 T R79 R84 R89 a1 a2 a3 a4 x3 s P) ∧ (¬ ((s.2.1 269 x7.toInt.toNat).toInt = 0) → ((-2147483648 ≤ 24 * a2.toInt ∧ 24 * a2.toInt ≤ 2147483647) → ∀ x8 : Int32, x8.toInt = 24 * a2.toInt → ((-2147483648 ≤ x8.toInt + a4.toInt ∧ x8.toInt + a4.toInt ≤ 2147483647) → ∀ x9 : Int32, x9.toInt = x8.toInt + a4.toInt → ((0 ≤ x9.toInt ∧ x9.toInt < 576) → ((s.2.1 269 x9.toInt.toNat).toInt = 0 → ub_215_128 T R79 R84 R89 a1 a2 a3 a4 x3 s P) ∧ (¬ ((s.2.1 269 x9.toInt.toNat).toInt = 0) → ub_215_126 T R79 R84 R89 a1 a2 a3 a4 x3 s P)))))))))))))))
set_option maxRecDepth 20000 in
theorem lk_215_89 {d N0 : Nat} {R79 : Int32 → Int32 → yS → Prop} {R84 : Int32 → Int32 → Int32 → yS → Prop} {R89 : Int32 → Int32 → Int32 → Int32 → yS → Prop} {a1 : Int32} {a2 : Int32} {a3 : Int32} {a4 : Int32} {s : yS} {P : Option Value → yS → Prop} (r79 : ∀ a1 a2 s, R79 a1 a2 s → Lb d N0 5 (none) xE_215 (xE_215.drop 79) [.ref 213, .int a1, .int a2, .null, .null, .null] [] s P) (r84 : ∀ a1 a2 a3 s, R84 a1 a2 a3 s → Lb d N0 5 (none) xE_215 (xE_215.drop 84) [.ref 213, .int a1, .int a2, .int a3, .null, .null] [] s P) (r89 : ∀ a1 a2 a3 a4 s, R89 a1 a2 a3 a4 s → Lb d N0 5 (none) xE_215 (xE_215.drop 89) [.ref 213, .int a1, .int a2, .int a3, .int a4, .null] [] s P) (h : ub_215_89 (Par d) R79 R84 R89 a1 a2 a3 a4 s P) : Lb d (N0 + 1) 5 (none) xE_215 (xE_215.drop 89) [.ref 213, .int a1, .int a2, .int a3, .int a4, .null] [] s P := by
  unfold ub_215_89 at h
  refine lb_ld rfl rfl rfl ?_
  refine Lb_w (lb_c [.int 24, .int a4] (xo_push (.int 24)) rfl rfl ?_)
  refine Lb_w (lb_brP rfl rfl ⟨fun hc => ?_, fun hc => ?_⟩)
  · replace h := h.1 ((i_le (x := 24) (y := a4) (show (24 : Int32).toInt = 24 by decide) rfl).mp hc)
    refine Lb_w (lb_inc [.ref 213, .int a1, .int a2, .int (a3 + 1), .int a4, .null] rfl rfl rfl rfl (fun hk => ?_))
    replace hk := kc_inc (x := a3) (n := 1) rfl hk
    replace h := h hk _ (i_add (x := a3) (y := 1) rfl (show (1 : Int32).toInt = 1 by decide) hk)
    refine Lb_w (lb_go rfl ?_)
    refine lb_fg 4 ?_
    exact r84 a1 a2 (a3 + 1)  s h
  · replace h := h.2 (fun q => hc ((i_le (x := 24) (y := a4) (show (24 : Int32).toInt = 24 by decide) rfl).mpr q))
    refine Lb_w (lb_ld rfl rfl rfl ?_)
    refine Lb_w (lb_get rfl rfl ?_)
    change Lb _ _ _ _ _ _ _ [.ref 269] _ _
    refine Lb_w (lb_c [.int 24, .ref 269] (xo_push (.int 24)) rfl rfl ?_)
    refine Lb_w (lb_ld rfl rfl rfl ?_)
    refine Lb_w (lb_ca [.int (24 * a3), .ref 269] xo_imul rfl rfl (fun _ hk => ?_))
    replace hk := kc_mul (x := 24) (y := a3) (show (24 : Int32).toInt = 24 by decide) rfl hk
    replace h := h hk _ (i_mul (x := 24) (y := a3) (show (24 : Int32).toInt = 24 by decide) rfl hk)
    refine Lb_w (lb_ld rfl rfl rfl ?_)
    refine Lb_w (lb_ca [.int ((24 * a3) + a4), .ref 269] xo_iadd rfl rfl (fun _ hk => ?_))
    replace hk := kc_add (x := (24 * a3)) (y := a4) rfl rfl hk
    replace h := h hk _ (i_add (x := (24 * a3)) (y := a4) rfl rfl hk)
    refine Lb_w (lb_ld rfl rfl rfl ?_)
    refine Lb_w (lb_get rfl rfl ?_)
    change Lb _ _ _ _ _ _ _ [.ref 269, .int ((24 * a3) + a4), .ref 269] _ _
    refine Lb_w (lb_c [.int 24, .ref 269, .int ((24 * a3) + a4), .ref 269] (xo_push (.int 24)) rfl rfl ?_)
    refine Lb_w (lb_ld rfl rfl rfl ?_)
    refine Lb_w (lb_ca [.int (24 * a3), .ref 269, .int ((24 * a3) + a4), .ref 269] xo_imul rfl rfl (fun _ hk => ?_))
    replace hk := kc_mul (x := 24) (y := a3) (show (24 : Int32).toInt = 24 by decide) rfl hk
    replace h := h hk _ (i_mul (x := 24) (y := a3) (show (24 : Int32).toInt = 24 by decide) rfl hk)
    refine Lb_w (lb_ld rfl rfl rfl ?_)
    refine Lb_w (lb_ca [.int ((24 * a3) + a4), .ref 269, .int ((24 * a3) + a4), .ref 269] xo_iadd rfl rfl (fun _ hk => ?_))
    replace hk := kc_add (x := (24 * a3)) (y := a4) rfl rfl hk
    replace h := h hk _ (i_add (x := (24 * a3)) (y := a4) rfl rfl hk)
    refine Lb_w (lb_zal rfl rfl (fun hk => ?_))
    change Lb _ _ _ _ _ _ _ [.int (s.2.1 269 ((24 * a3) + a4).toInt.toNat), .int ((24 * a3) + a4), .ref 269] _ _
    replace h := h (kc_in (x := ((24 * a3) + a4)) rfl hk)
    refine Lb_w (lb_brN rfl rfl ⟨fun hc => ?_, fun hc => ?_⟩)
    · replace h := h.1 (fun q => hc ((i_eq (x := s.2.1 269 ((24 * a3) + a4).toInt.toNat) (y := 0) rfl (show (0 : Int32).toInt = 0 by decide)).mpr q))
      exact lk_215_126 r79 r84 r89 h
    · replace h := h.2 ((i_eq (x := s.2.1 269 ((24 * a3) + a4).toInt.toNat) (y := 0) rfl (show (0 : Int32).toInt = 0 by decide)).mp hc)
      refine Lb_w (lb_ld rfl rfl rfl ?_)
      refine Lb_w (lb_get rfl rfl ?_)
      change Lb _ _ _ _ _ _ _ [.ref 269, .int ((24 * a3) + a4), .ref 269] _ _
      refine Lb_w (lb_c [.int 24, .ref 269, .int ((24 * a3) + a4), .ref 269] (xo_push (.int 24)) rfl rfl ?_)
      refine Lb_w (lb_ld rfl rfl rfl ?_)
      refine Lb_w (lb_ca [.int (24 * a3), .ref 269, .int ((24 * a3) + a4), .ref 269] xo_imul rfl rfl (fun _ hk => ?_))
      replace hk := kc_mul (x := 24) (y := a3) (show (24 : Int32).toInt = 24 by decide) rfl hk
      replace h := h hk _ (i_mul (x := 24) (y := a3) (show (24 : Int32).toInt = 24 by decide) rfl hk)
      refine Lb_w (lb_ld rfl rfl rfl ?_)
      refine Lb_w (lb_ca [.int ((24 * a3) + a2), .ref 269, .int ((24 * a3) + a4), .ref 269] xo_iadd rfl rfl (fun _ hk => ?_))
      replace hk := kc_add (x := (24 * a3)) (y := a2) rfl rfl hk
      replace h := h hk _ (i_add (x := (24 * a3)) (y := a2) rfl rfl hk)
      refine Lb_w (lb_zal rfl rfl (fun hk => ?_))
      change Lb _ _ _ _ _ _ _ [.int (s.2.1 269 ((24 * a3) + a2).toInt.toNat), .int ((24 * a3) + a4), .ref 269] _ _
      replace h := h (kc_in (x := ((24 * a3) + a2)) rfl hk)
      refine Lb_w (lb_brP rfl rfl ⟨fun hc => ?_, fun hc => ?_⟩)
      · replace h := h.1 ((i_eq (x := s.2.1 269 ((24 * a3) + a2).toInt.toNat) (y := 0) rfl (show (0 : Int32).toInt = 0 by decide)).mp hc)
        exact lk_215_128 r79 r84 r89 h
      · replace h := h.2 (fun q => hc ((i_eq (x := s.2.1 269 ((24 * a3) + a2).toInt.toNat) (y := 0) rfl (show (0 : Int32).toInt = 0 by decide)).mpr q))
        refine Lb_w (lb_ld rfl rfl rfl ?_)
        refine Lb_w (lb_get rfl rfl ?_)
        change Lb _ _ _ _ _ _ _ [.ref 269, .int ((24 * a3) + a4), .ref 269] _ _
        refine Lb_w (lb_c [.int 24, .ref 269, .int ((24 * a3) + a4), .ref 269] (xo_push (.int 24)) rfl rfl ?_)
        refine Lb_w (lb_ld rfl rfl rfl ?_)
        refine Lb_w (lb_ca [.int (24 * a2), .ref 269, .int ((24 * a3) + a4), .ref 269] xo_imul rfl rfl (fun _ hk => ?_))
        replace hk := kc_mul (x := 24) (y := a2) (show (24 : Int32).toInt = 24 by decide) rfl hk
        replace h := h hk _ (i_mul (x := 24) (y := a2) (show (24 : Int32).toInt = 24 by decide) rfl hk)
        refine Lb_w (lb_ld rfl rfl rfl ?_)
        refine Lb_w (lb_ca [.int ((24 * a2) + a4), .ref 269, .int ((24 * a3) + a4), .ref 269] xo_iadd rfl rfl (fun _ hk => ?_))
        replace hk := kc_add (x := (24 * a2)) (y := a4) rfl rfl hk
        replace h := h hk _ (i_add (x := (24 * a2)) (y := a4) rfl rfl hk)
        refine Lb_w (lb_zal rfl rfl (fun hk => ?_))
        change Lb _ _ _ _ _ _ _ [.int (s.2.1 269 ((24 * a2) + a4).toInt.toNat), .int ((24 * a3) + a4), .ref 269] _ _
        replace h := h (kc_in (x := ((24 * a2) + a4)) rfl hk)
        refine Lb_w (lb_brP rfl rfl ⟨fun hc => ?_, fun hc => ?_⟩)
        · replace h := h.1 ((i_eq (x := s.2.1 269 ((24 * a2) + a4).toInt.toNat) (y := 0) rfl (show (0 : Int32).toInt = 0 by decide)).mp hc)
          exact lk_215_128 r79 r84 r89 h
        · replace h := h.2 (fun q => hc ((i_eq (x := s.2.1 269 ((24 * a2) + a4).toInt.toNat) (y := 0) rfl (show (0 : Int32).toInt = 0 by decide)).mpr q))
          exact lk_215_126 r79 r84 r89 h
def ubl_215_89 (T : Nat → List Value → yS → (Option Value → yS → Prop) → Prop) (R79 : Int32 → Int32 → yS → Prop) (R84 : Int32 → Int32 → Int32 → yS → Prop) (a1 : Int32) (a2 : Int32) (a3 : Int32) (a4 : Int32) (s : yS) (P : Option Value → yS → Prop) : Prop :=
  ∃ (I : Int32 → Int32 → Int32 → Int32 → yS → Prop), I a1 a2 a3 a4 s ∧ ∀ (a1 : Int32) (a2 : Int32) (a3 : Int32) (a4 : Int32) (s : yS), I a1 a2 a3 a4 s → ub_215_89 T R79 R84 I a1 a2 a3 a4 s P
theorem lkl_215_89 {d N0 : Nat} {R79 : Int32 → Int32 → yS → Prop} {R84 : Int32 → Int32 → Int32 → yS → Prop} {a1 : Int32} {a2 : Int32} {a3 : Int32} {a4 : Int32} {s : yS} {P : Option Value → yS → Prop} (r79 : ∀ a1 a2 s, R79 a1 a2 s → Lb d N0 5 (none) xE_215 (xE_215.drop 79) [.ref 213, .int a1, .int a2, .null, .null, .null] [] s P) (r84 : ∀ a1 a2 a3 s, R84 a1 a2 a3 s → Lb d N0 5 (none) xE_215 (xE_215.drop 84) [.ref 213, .int a1, .int a2, .int a3, .null, .null] [] s P) (h : ubl_215_89 (Par d) R79 R84 a1 a2 a3 a4 s P) : Lb d N0 5 (none) xE_215 (xE_215.drop 89) [.ref 213, .int a1, .int a2, .int a3, .int a4, .null] [] s P := by
  obtain ⟨I, h0, h1⟩ := h
  have key : ∀ (m : Nat), m ≤ N0 → ∀ (a1 : Int32) (a2 : Int32) (a3 : Int32) (a4 : Int32) (s : yS), I a1 a2 a3 a4 s → Lb d m 5 (none) xE_215 (xE_215.drop 89) [.ref 213, .int a1, .int a2, .int a3, .int a4, .null] [] s P := by
    intro m
    induction m with
    | zero => exact fun _ a1 a2 a3 a4 s _ => Lb_0
    | succ m ih =>
      intro hm
      replace hm : m ≤ N0 := Nat.le_of_succ_le hm
      replace ih := ih hm
      intro a1 a2 a3 a4 s hI
      exact lk_215_89 (fun a1 a2 s q => Lb_le hm (r79 a1 a2 s q)) (fun a1 a2 a3 s q => Lb_le hm (r84 a1 a2 a3 s q)) ih (h1 a1 a2 a3 a4 s hI)
  exact key N0 (Nat.le_refl _) a1 a2 a3 a4 s h0
def ub_215_84 (T : Nat → List Value → yS → (Option Value → yS → Prop) → Prop) (R79 : Int32 → Int32 → yS → Prop) (R84 : Int32 → Int32 → Int32 → yS → Prop) (a1 : Int32) (a2 : Int32) (a3 : Int32) (s : yS) (P : Option Value → yS → Prop) : Prop :=
  (24 ≤ a3.toInt → ((-2147483648 ≤ a2.toInt + 1 ∧ a2.toInt + 1 ≤ 2147483647) → ∀ x1 : Int32, x1.toInt = a2.toInt + 1 → R79 a1 x1  s)) ∧ (¬ (24 ≤ a3.toInt) → ubl_215_89 T R79 R84 a1 a2 a3 0  s P)
set_option maxRecDepth 20000 in
theorem lk_215_84 {d N0 : Nat} {R79 : Int32 → Int32 → yS → Prop} {R84 : Int32 → Int32 → Int32 → yS → Prop} {a1 : Int32} {a2 : Int32} {a3 : Int32} {s : yS} {P : Option Value → yS → Prop} (r79 : ∀ a1 a2 s, R79 a1 a2 s → Lb d N0 5 (none) xE_215 (xE_215.drop 79) [.ref 213, .int a1, .int a2, .null, .null, .null] [] s P) (r84 : ∀ a1 a2 a3 s, R84 a1 a2 a3 s → Lb d N0 5 (none) xE_215 (xE_215.drop 84) [.ref 213, .int a1, .int a2, .int a3, .null, .null] [] s P) (h : ub_215_84 (Par d) R79 R84 a1 a2 a3 s P) : Lb d (N0 + 1) 5 (none) xE_215 (xE_215.drop 84) [.ref 213, .int a1, .int a2, .int a3, .null, .null] [] s P := by
  unfold ub_215_84 at h
  refine lb_ld rfl rfl rfl ?_
  refine Lb_w (lb_c [.int 24, .int a3] (xo_push (.int 24)) rfl rfl ?_)
  refine Lb_w (lb_brP rfl rfl ⟨fun hc => ?_, fun hc => ?_⟩)
  · replace h := h.1 ((i_le (x := 24) (y := a3) (show (24 : Int32).toInt = 24 by decide) rfl).mp hc)
    refine Lb_w (lb_inc [.ref 213, .int a1, .int (a2 + 1), .int a3, .null, .null] rfl rfl rfl rfl (fun hk => ?_))
    replace hk := kc_inc (x := a2) (n := 1) rfl hk
    replace h := h hk _ (i_add (x := a2) (y := 1) rfl (show (1 : Int32).toInt = 1 by decide) hk)
    refine Lb_w (lb_go rfl ?_)
    refine lb_fg 3 ?_
    exact r79 a1 (a2 + 1)  s h
  · replace h := h.2 (fun q => hc ((i_le (x := 24) (y := a3) (show (24 : Int32).toInt = 24 by decide) rfl).mpr q))
    refine Lb_w (lb_c [.int 0] (xo_push (.int 0)) rfl rfl ?_)
    refine Lb_w (lb_st [.ref 213, .int a1, .int a2, .int a3, .int 0, .null] rfl rfl rfl ?_)
    exact lkl_215_89 r79 r84 h
def ubl_215_84 (T : Nat → List Value → yS → (Option Value → yS → Prop) → Prop) (R79 : Int32 → Int32 → yS → Prop) (a1 : Int32) (a2 : Int32) (a3 : Int32) (s : yS) (P : Option Value → yS → Prop) : Prop :=
  ∃ (I : Int32 → Int32 → Int32 → yS → Prop), I a1 a2 a3 s ∧ ∀ (a1 : Int32) (a2 : Int32) (a3 : Int32) (s : yS), I a1 a2 a3 s → ub_215_84 T R79 I a1 a2 a3 s P
theorem lkl_215_84 {d N0 : Nat} {R79 : Int32 → Int32 → yS → Prop} {a1 : Int32} {a2 : Int32} {a3 : Int32} {s : yS} {P : Option Value → yS → Prop} (r79 : ∀ a1 a2 s, R79 a1 a2 s → Lb d N0 5 (none) xE_215 (xE_215.drop 79) [.ref 213, .int a1, .int a2, .null, .null, .null] [] s P) (h : ubl_215_84 (Par d) R79 a1 a2 a3 s P) : Lb d N0 5 (none) xE_215 (xE_215.drop 84) [.ref 213, .int a1, .int a2, .int a3, .null, .null] [] s P := by
  obtain ⟨I, h0, h1⟩ := h
  have key : ∀ (m : Nat), m ≤ N0 → ∀ (a1 : Int32) (a2 : Int32) (a3 : Int32) (s : yS), I a1 a2 a3 s → Lb d m 5 (none) xE_215 (xE_215.drop 84) [.ref 213, .int a1, .int a2, .int a3, .null, .null] [] s P := by
    intro m
    induction m with
    | zero => exact fun _ a1 a2 a3 s _ => Lb_0
    | succ m ih =>
      intro hm
      replace hm : m ≤ N0 := Nat.le_of_succ_le hm
      replace ih := ih hm
      intro a1 a2 a3 s hI
      exact lk_215_84 (fun a1 a2 s q => Lb_le hm (r79 a1 a2 s q)) ih (h1 a1 a2 a3 s hI)
  exact key N0 (Nat.le_refl _) a1 a2 a3 s h0
def ub_215_79 (T : Nat → List Value → yS → (Option Value → yS → Prop) → Prop) (R79 : Int32 → Int32 → yS → Prop) (a1 : Int32) (a2 : Int32) (s : yS) (P : Option Value → yS → Prop) : Prop :=
  (24 ≤ a2.toInt → ubl_215_138 T  a1 0  s P) ∧ (¬ (24 ≤ a2.toInt) → ubl_215_84 T R79 a1 a2 0  s P)
set_option maxRecDepth 20000 in
theorem lk_215_79 {d N0 : Nat} {R79 : Int32 → Int32 → yS → Prop} {a1 : Int32} {a2 : Int32} {s : yS} {P : Option Value → yS → Prop} (r79 : ∀ a1 a2 s, R79 a1 a2 s → Lb d N0 5 (none) xE_215 (xE_215.drop 79) [.ref 213, .int a1, .int a2, .null, .null, .null] [] s P) (h : ub_215_79 (Par d) R79 a1 a2 s P) : Lb d (N0 + 1) 5 (none) xE_215 (xE_215.drop 79) [.ref 213, .int a1, .int a2, .null, .null, .null] [] s P := by
  unfold ub_215_79 at h
  refine lb_ld rfl rfl rfl ?_
  refine Lb_w (lb_c [.int 24, .int a2] (xo_push (.int 24)) rfl rfl ?_)
  refine Lb_w (lb_brP rfl rfl ⟨fun hc => ?_, fun hc => ?_⟩)
  · replace h := h.1 ((i_le (x := 24) (y := a2) (show (24 : Int32).toInt = 24 by decide) rfl).mp hc)
    refine Lb_w (lb_c [.int 0] (xo_push (.int 0)) rfl rfl ?_)
    refine Lb_w (lb_st [.ref 213, .int a1, .int 0, .null, .null, .null] rfl rfl rfl ?_)
    exact lkl_215_138  h
  · replace h := h.2 (fun q => hc ((i_le (x := 24) (y := a2) (show (24 : Int32).toInt = 24 by decide) rfl).mpr q))
    refine Lb_w (lb_c [.int 0] (xo_push (.int 0)) rfl rfl ?_)
    refine Lb_w (lb_st [.ref 213, .int a1, .int a2, .int 0, .null, .null] rfl rfl rfl ?_)
    exact lkl_215_84 r79 h
def ubl_215_79 (T : Nat → List Value → yS → (Option Value → yS → Prop) → Prop)  (a1 : Int32) (a2 : Int32) (s : yS) (P : Option Value → yS → Prop) : Prop :=
  ∃ (I : Int32 → Int32 → yS → Prop), I a1 a2 s ∧ ∀ (a1 : Int32) (a2 : Int32) (s : yS), I a1 a2 s → ub_215_79 T I a1 a2 s P
theorem lkl_215_79 {d N0 : Nat}  {a1 : Int32} {a2 : Int32} {s : yS} {P : Option Value → yS → Prop}  (h : ubl_215_79 (Par d)  a1 a2 s P) : Lb d N0 5 (none) xE_215 (xE_215.drop 79) [.ref 213, .int a1, .int a2, .null, .null, .null] [] s P := by
  obtain ⟨I, h0, h1⟩ := h
  have key : ∀ (m : Nat), m ≤ N0 → ∀ (a1 : Int32) (a2 : Int32) (s : yS), I a1 a2 s → Lb d m 5 (none) xE_215 (xE_215.drop 79) [.ref 213, .int a1, .int a2, .null, .null, .null] [] s P := by
    intro m
    induction m with
    | zero => exact fun _ a1 a2 s _ => Lb_0
    | succ m ih =>
      intro hm
      replace hm : m ≤ N0 := Nat.le_of_succ_le hm
      replace ih := ih hm
      intro a1 a2 s hI
      exact lk_215_79 ih (h1 a1 a2 s hI)
  exact key N0 (Nat.le_refl _) a1 a2 s h0
def ub_215_73 (T : Nat → List Value → yS → (Option Value → yS → Prop) → Prop) (R19 : Int32 → Int32 → yS → Prop) (R28 : Int32 → Int32 → Int32 → yS → Prop) (a1 : Int32) (a2 : Int32) (a3 : Int32) (a4 : Int32) (s : yS) (P : Option Value → yS → Prop) : Prop :=
  ((-2147483648 ≤ a3.toInt + 1 ∧ a3.toInt + 1 ≤ 2147483647) → ∀ x1 : Int32, x1.toInt = a3.toInt + 1 → R28 a1 a2 x1  s)
set_option maxRecDepth 20000 in
theorem lk_215_73 {d N0 : Nat} {R19 : Int32 → Int32 → yS → Prop} {R28 : Int32 → Int32 → Int32 → yS → Prop} {a1 : Int32} {a2 : Int32} {a3 : Int32} {a4 : Int32} {s : yS} {P : Option Value → yS → Prop} (r19 : ∀ a1 a2 s, R19 a1 a2 s → Lb d N0 5 (none) xE_215 (xE_215.drop 19) [.ref 213, .int a1, .int a2, .null, .null, .null] [] s P) (r28 : ∀ a1 a2 a3 s, R28 a1 a2 a3 s → Lb d N0 5 (none) xE_215 (xE_215.drop 28) [.ref 213, .int a1, .int a2, .int a3, .null, .null] [] s P) (h : ub_215_73 (Par d) R19 R28 a1 a2 a3 a4 s P) : Lb d N0 5 (none) xE_215 (xE_215.drop 73) [.ref 213, .int a1, .int a2, .int a3, .int a4, .null] [] s P := by
  unfold ub_215_73 at h
  refine Lb_w (lb_inc [.ref 213, .int a1, .int a2, .int (a3 + 1), .int a4, .null] rfl rfl rfl rfl (fun hk => ?_))
  replace hk := kc_inc (x := a3) (n := 1) rfl hk
  replace h := h hk _ (i_add (x := a3) (y := 1) rfl (show (1 : Int32).toInt = 1 by decide) hk)
  refine Lb_w (lb_go rfl ?_)
  refine lb_fg 4 ?_
  exact r28 a1 a2 (a3 + 1)  s h
def ub_215_28 (T : Nat → List Value → yS → (Option Value → yS → Prop) → Prop) (R19 : Int32 → Int32 → yS → Prop) (R28 : Int32 → Int32 → Int32 → yS → Prop) (a1 : Int32) (a2 : Int32) (a3 : Int32) (s : yS) (P : Option Value → yS → Prop) : Prop :=
  ((-2147483648 ≤ a1.toInt + a2.toInt ∧ a1.toInt + a2.toInt ≤ 2147483647) → ∀ x1 : Int32, x1.toInt = a1.toInt + a2.toInt → ((0 ≤ x1.toInt ∧ x1.toInt < 48) → ((s.2.1 239 x1.toInt.toNat).toInt ≤ a3.toInt → ((-2147483648 ≤ a2.toInt + 1 ∧ a2.toInt + 1 ≤ 2147483647) → ∀ x2 : Int32, x2.toInt = a2.toInt + 1 → R19 a1 x2  s)) ∧ (¬ ((s.2.1 239 x1.toInt.toNat).toInt ≤ a3.toInt) → ((-2147483648 ≤ a1.toInt + a2.toInt ∧ a1.toInt + a2.toInt ≤ 2147483647) → ∀ x3 : Int32, x3.toInt = a1.toInt + a2.toInt → ((-2147483648 ≤ 6 * x3.toInt ∧ 6 * x3.toInt ≤ 2147483647) → ∀ x4 : Int32, x4.toInt = 6 * x3.toInt → ((-2147483648 ≤ x4.toInt + a3.toInt ∧ x4.toInt + a3.toInt ≤ 2147483647) → ∀ x5 : Int32, x5.toInt = x4.toInt + a3.toInt → ((0 ≤ x5.toInt ∧ x5.toInt < 288) → ((0 ≤ (s.2.1 241 x5.toInt.toNat).toInt ∧ (s.2.1 241 x5.toInt.toNat).toInt < 12006) → ((0 ≤ (s.2.1 231 (s.2.1 241 x5.toInt.toNat).toInt.toNat).toInt ∧ (s.2.1 231 (s.2.1 241 x5.toInt.toNat).toInt.toNat).toInt < 200000) → T 185 [.int (s.2.1 264 (s.2.1 231 (s.2.1 241 x5.toInt.toNat).toInt.toNat).toInt.toNat)] s (fun v7 s6 => ∃ x8, v7 = some (.int x8) ∧ ((1000 ≤ x8.toInt → ub_215_73 T R19 R28 a1 a2 a3 x8  s6 P) ∧ (¬ (1000 ≤ x8.toInt) → ((-2147483648 ≤ a1.toInt + x8.toInt ∧ a1.toInt + x8.toInt ≤ 2147483647) → ∀ x9 : Int32, x9.toInt = a1.toInt + x8.toInt → ((0 ≤ x9.toInt ∧ x9.toInt < 48) → ((s6.2.1 235 x9.toInt.toNat).toInt = 0 → ub_215_73 T R19 R28 a1 a2 a3 x8  s6 P) ∧ (¬ ((s6.2.1 235 x9.toInt.toNat).toInt = 0) → ((-2147483648 ≤ 24 * a2.toInt ∧ 24 * a2.toInt ≤ 2147483647) → ∀ x10 : Int32, x10.toInt = 24 * a2.toInt → ((-2147483648 ≤ x10.toInt + x8.toInt ∧ x10.toInt + x8.toInt ≤ 2147483647) → ∀ x11 : Int32, x11.toInt = x10.toInt + x8.toInt → ((0 ≤ x11.toInt ∧ x11.toInt < 576) → ∀ s12, s12 = sa s6 269 x11.toInt.toNat 1 → ub_215_73 T R19 R28 a1 a2 a3 x8  s12 P))))))))))))))))))
set_option maxRecDepth 20000 in
theorem lk_215_28 {d N0 : Nat} {R19 : Int32 → Int32 → yS → Prop} {R28 : Int32 → Int32 → Int32 → yS → Prop} {a1 : Int32} {a2 : Int32} {a3 : Int32} {s : yS} {P : Option Value → yS → Prop} (r19 : ∀ a1 a2 s, R19 a1 a2 s → Lb d N0 5 (none) xE_215 (xE_215.drop 19) [.ref 213, .int a1, .int a2, .null, .null, .null] [] s P) (r28 : ∀ a1 a2 a3 s, R28 a1 a2 a3 s → Lb d N0 5 (none) xE_215 (xE_215.drop 28) [.ref 213, .int a1, .int a2, .int a3, .null, .null] [] s P) (h : ub_215_28 (Par d) R19 R28 a1 a2 a3 s P) : Lb d (N0 + 1) 5 (none) xE_215 (xE_215.drop 28) [.ref 213, .int a1, .int a2, .int a3, .null, .null] [] s P := by
  unfold ub_215_28 at h
  refine lb_ld rfl rfl rfl ?_
  refine Lb_w (lb_ld rfl rfl rfl ?_)
  refine Lb_w (lb_get rfl rfl ?_)
  change Lb _ _ _ _ _ _ _ [.ref 239, .int a3] _ _
  refine Lb_w (lb_ld rfl rfl rfl ?_)
  refine Lb_w (lb_ld rfl rfl rfl ?_)
  refine Lb_w (lb_ca [.int (a1 + a2), .ref 239, .int a3] xo_iadd rfl rfl (fun _ hk => ?_))
  replace hk := kc_add (x := a1) (y := a2) rfl rfl hk
  replace h := h hk _ (i_add (x := a1) (y := a2) rfl rfl hk)
  refine Lb_w (lb_ial rfl rfl (fun hk => ?_))
  change Lb _ _ _ _ _ _ _ [.int (s.2.1 239 (a1 + a2).toInt.toNat), .int a3] _ _
  replace h := h (kc_in (x := (a1 + a2)) rfl hk)
  refine Lb_w (lb_brP rfl rfl ⟨fun hc => ?_, fun hc => ?_⟩)
  · replace h := h.1 ((i_le (x := s.2.1 239 (a1 + a2).toInt.toNat) (y := a3) rfl rfl).mp hc)
    refine Lb_w (lb_inc [.ref 213, .int a1, .int (a2 + 1), .int a3, .null, .null] rfl rfl rfl rfl (fun hk => ?_))
    replace hk := kc_inc (x := a2) (n := 1) rfl hk
    replace h := h hk _ (i_add (x := a2) (y := 1) rfl (show (1 : Int32).toInt = 1 by decide) hk)
    refine Lb_w (lb_go rfl ?_)
    refine lb_fg 3 ?_
    exact r19 a1 (a2 + 1)  s h
  · replace h := h.2 (fun q => hc ((i_le (x := s.2.1 239 (a1 + a2).toInt.toNat) (y := a3) rfl rfl).mpr q))
    refine Lb_w (lb_ld rfl rfl rfl ?_)
    refine Lb_w (lb_get rfl rfl ?_)
    change Lb _ _ _ _ _ _ _ [.ref 264] _ _
    refine Lb_w (lb_ld rfl rfl rfl ?_)
    refine Lb_w (lb_get rfl rfl ?_)
    change Lb _ _ _ _ _ _ _ [.ref 231, .ref 264] _ _
    refine Lb_w (lb_ld rfl rfl rfl ?_)
    refine Lb_w (lb_get rfl rfl ?_)
    change Lb _ _ _ _ _ _ _ [.ref 241, .ref 231, .ref 264] _ _
    refine Lb_w (lb_c [.int 6, .ref 241, .ref 231, .ref 264] (xo_push (.int 6)) rfl rfl ?_)
    refine Lb_w (lb_ld rfl rfl rfl ?_)
    refine Lb_w (lb_ld rfl rfl rfl ?_)
    refine Lb_w (lb_ca [.int (a1 + a2), .int 6, .ref 241, .ref 231, .ref 264] xo_iadd rfl rfl (fun _ hk => ?_))
    replace hk := kc_add (x := a1) (y := a2) rfl rfl hk
    replace h := h hk _ (i_add (x := a1) (y := a2) rfl rfl hk)
    refine Lb_w (lb_ca [.int (6 * (a1 + a2)), .ref 241, .ref 231, .ref 264] xo_imul rfl rfl (fun _ hk => ?_))
    replace hk := kc_mul (x := 6) (y := (a1 + a2)) (show (6 : Int32).toInt = 6 by decide) rfl hk
    replace h := h hk _ (i_mul (x := 6) (y := (a1 + a2)) (show (6 : Int32).toInt = 6 by decide) rfl hk)
    refine Lb_w (lb_ld rfl rfl rfl ?_)
    refine Lb_w (lb_ca [.int ((6 * (a1 + a2)) + a3), .ref 241, .ref 231, .ref 264] xo_iadd rfl rfl (fun _ hk => ?_))
    replace hk := kc_add (x := (6 * (a1 + a2))) (y := a3) rfl rfl hk
    replace h := h hk _ (i_add (x := (6 * (a1 + a2))) (y := a3) rfl rfl hk)
    refine Lb_w (lb_ial rfl rfl (fun hk => ?_))
    change Lb _ _ _ _ _ _ _ [.int (s.2.1 241 ((6 * (a1 + a2)) + a3).toInt.toNat), .ref 231, .ref 264] _ _
    replace h := h (kc_in (x := ((6 * (a1 + a2)) + a3)) rfl hk)
    refine Lb_w (lb_ial rfl rfl (fun hk => ?_))
    change Lb _ _ _ _ _ _ _ [.int (s.2.1 231 (s.2.1 241 ((6 * (a1 + a2)) + a3).toInt.toNat).toInt.toNat), .ref 264] _ _
    replace h := h (kc_in (x := s.2.1 241 ((6 * (a1 + a2)) + a3).toInt.toNat) rfl hk)
    refine Lb_w (lb_ial rfl rfl (fun hk => ?_))
    change Lb _ _ _ _ _ _ _ [.int (s.2.1 264 (s.2.1 231 (s.2.1 241 ((6 * (a1 + a2)) + a3).toInt.toNat).toInt.toNat).toInt.toNat)] _ _
    replace h := h (kc_in (x := s.2.1 231 (s.2.1 241 ((6 * (a1 + a2)) + a3).toInt.toNat).toInt.toNat) rfl hk)
    refine Lb_w (lb_call [.int (s.2.1 264 (s.2.1 231 (s.2.1 241 ((6 * (a1 + a2)) + a3).toInt.toNat).toInt.toNat).toInt.toNat)] [] rfl rfl rfl (Par.imp h (fun v7 s6 h => ?_)))
    obtain ⟨x8, rfl, h⟩ := h
    change Lb _ _ _ _ _ _ _ [.int x8] _ _
    refine Lb_w (lb_st [.ref 213, .int a1, .int a2, .int a3, .int x8, .null] rfl rfl rfl ?_)
    refine Lb_w (lb_ld rfl rfl rfl ?_)
    refine Lb_w (lb_c [.int 1000, .int x8] (xo_push (.int 1000)) rfl rfl ?_)
    refine Lb_w (lb_brP rfl rfl ⟨fun hc => ?_, fun hc => ?_⟩)
    · replace h := h.1 ((i_le (x := 1000) (y := x8) (show (1000 : Int32).toInt = 1000 by decide) rfl).mp hc)
      exact lk_215_73 r19 r28 h
    · replace h := h.2 (fun q => hc ((i_le (x := 1000) (y := x8) (show (1000 : Int32).toInt = 1000 by decide) rfl).mpr q))
      refine Lb_w (lb_ld rfl rfl rfl ?_)
      refine Lb_w (lb_get rfl rfl ?_)
      change Lb _ _ _ _ _ _ _ [.ref 235] _ _
      refine Lb_w (lb_ld rfl rfl rfl ?_)
      refine Lb_w (lb_ld rfl rfl rfl ?_)
      refine Lb_w (lb_ca [.int (a1 + x8), .ref 235] xo_iadd rfl rfl (fun _ hk => ?_))
      replace hk := kc_add (x := a1) (y := x8) rfl rfl hk
      replace h := h hk _ (i_add (x := a1) (y := x8) rfl rfl hk)
      refine Lb_w (lb_zal rfl rfl (fun hk => ?_))
      change Lb _ _ _ _ _ _ _ [.int (s6.2.1 235 (a1 + x8).toInt.toNat)] _ _
      replace h := h (kc_in (x := (a1 + x8)) rfl hk)
      refine Lb_w (lb_brP rfl rfl ⟨fun hc => ?_, fun hc => ?_⟩)
      · replace h := h.1 ((i_eq (x := s6.2.1 235 (a1 + x8).toInt.toNat) (y := 0) rfl (show (0 : Int32).toInt = 0 by decide)).mp hc)
        exact lk_215_73 r19 r28 h
      · replace h := h.2 (fun q => hc ((i_eq (x := s6.2.1 235 (a1 + x8).toInt.toNat) (y := 0) rfl (show (0 : Int32).toInt = 0 by decide)).mpr q))
        refine Lb_w (lb_ld rfl rfl rfl ?_)
        refine Lb_w (lb_get rfl rfl ?_)
        change Lb _ _ _ _ _ _ _ [.ref 269] _ _
        refine Lb_w (lb_c [.int 24, .ref 269] (xo_push (.int 24)) rfl rfl ?_)
        refine Lb_w (lb_ld rfl rfl rfl ?_)
        refine Lb_w (lb_ca [.int (24 * a2), .ref 269] xo_imul rfl rfl (fun _ hk => ?_))
        replace hk := kc_mul (x := 24) (y := a2) (show (24 : Int32).toInt = 24 by decide) rfl hk
        replace h := h hk _ (i_mul (x := 24) (y := a2) (show (24 : Int32).toInt = 24 by decide) rfl hk)
        refine Lb_w (lb_ld rfl rfl rfl ?_)
        refine Lb_w (lb_ca [.int ((24 * a2) + x8), .ref 269] xo_iadd rfl rfl (fun _ hk => ?_))
        replace hk := kc_add (x := (24 * a2)) (y := x8) rfl rfl hk
        replace h := h hk _ (i_add (x := (24 * a2)) (y := x8) rfl rfl hk)
        refine Lb_w (lb_c [.int 1, .int ((24 * a2) + x8), .ref 269] (xo_push (.int 1)) rfl rfl ?_)
        refine Lb_w (lb_zas rfl rfl (fun hk hk2 => ?_))
        replace h := h (kc_in (x := ((24 * a2) + x8)) rfl hk)
        replace h := h _ rfl
        exact lk_215_73 r19 r28 h
def ubl_215_28 (T : Nat → List Value → yS → (Option Value → yS → Prop) → Prop) (R19 : Int32 → Int32 → yS → Prop) (a1 : Int32) (a2 : Int32) (a3 : Int32) (s : yS) (P : Option Value → yS → Prop) : Prop :=
  ∃ (I : Int32 → Int32 → Int32 → yS → Prop), I a1 a2 a3 s ∧ ∀ (a1 : Int32) (a2 : Int32) (a3 : Int32) (s : yS), I a1 a2 a3 s → ub_215_28 T R19 I a1 a2 a3 s P
theorem lkl_215_28 {d N0 : Nat} {R19 : Int32 → Int32 → yS → Prop} {a1 : Int32} {a2 : Int32} {a3 : Int32} {s : yS} {P : Option Value → yS → Prop} (r19 : ∀ a1 a2 s, R19 a1 a2 s → Lb d N0 5 (none) xE_215 (xE_215.drop 19) [.ref 213, .int a1, .int a2, .null, .null, .null] [] s P) (h : ubl_215_28 (Par d) R19 a1 a2 a3 s P) : Lb d N0 5 (none) xE_215 (xE_215.drop 28) [.ref 213, .int a1, .int a2, .int a3, .null, .null] [] s P := by
  obtain ⟨I, h0, h1⟩ := h
  have key : ∀ (m : Nat), m ≤ N0 → ∀ (a1 : Int32) (a2 : Int32) (a3 : Int32) (s : yS), I a1 a2 a3 s → Lb d m 5 (none) xE_215 (xE_215.drop 28) [.ref 213, .int a1, .int a2, .int a3, .null, .null] [] s P := by
    intro m
    induction m with
    | zero => exact fun _ a1 a2 a3 s _ => Lb_0
    | succ m ih =>
      intro hm
      replace hm : m ≤ N0 := Nat.le_of_succ_le hm
      replace ih := ih hm
      intro a1 a2 a3 s hI
      exact lk_215_28 (fun a1 a2 s q => Lb_le hm (r19 a1 a2 s q)) ih (h1 a1 a2 a3 s hI)
  exact key N0 (Nat.le_refl _) a1 a2 a3 s h0
def ub_215_19 (T : Nat → List Value → yS → (Option Value → yS → Prop) → Prop) (R19 : Int32 → Int32 → yS → Prop) (a1 : Int32) (a2 : Int32) (s : yS) (P : Option Value → yS → Prop) : Prop :=
  ((0 ≤ (s.1 30).toInt ∧ (s.1 30).toInt < 2) → ((s.2.1 233 (s.1 30).toInt.toNat).toInt ≤ a2.toInt → ubl_215_79 T  a1 0  s P) ∧ (¬ ((s.2.1 233 (s.1 30).toInt.toNat).toInt ≤ a2.toInt) → ubl_215_28 T R19 a1 a2 0  s P))
set_option maxRecDepth 20000 in
theorem lk_215_19 {d N0 : Nat} {R19 : Int32 → Int32 → yS → Prop} {a1 : Int32} {a2 : Int32} {s : yS} {P : Option Value → yS → Prop} (r19 : ∀ a1 a2 s, R19 a1 a2 s → Lb d N0 5 (none) xE_215 (xE_215.drop 19) [.ref 213, .int a1, .int a2, .null, .null, .null] [] s P) (h : ub_215_19 (Par d) R19 a1 a2 s P) : Lb d (N0 + 1) 5 (none) xE_215 (xE_215.drop 19) [.ref 213, .int a1, .int a2, .null, .null, .null] [] s P := by
  unfold ub_215_19 at h
  refine lb_ld rfl rfl rfl ?_
  refine Lb_w (lb_ld rfl rfl rfl ?_)
  refine Lb_w (lb_get rfl rfl ?_)
  change Lb _ _ _ _ _ _ _ [.ref 233, .int a2] _ _
  refine Lb_w (lb_ld rfl rfl rfl ?_)
  refine Lb_w (lb_get rfl rfl ?_)
  change Lb _ _ _ _ _ _ _ [.int (s.1 30), .ref 233, .int a2] _ _
  refine Lb_w (lb_ial rfl rfl (fun hk => ?_))
  change Lb _ _ _ _ _ _ _ [.int (s.2.1 233 (s.1 30).toInt.toNat), .int a2] _ _
  replace h := h (kc_in (x := s.1 30) rfl hk)
  refine Lb_w (lb_brP rfl rfl ⟨fun hc => ?_, fun hc => ?_⟩)
  · replace h := h.1 ((i_le (x := s.2.1 233 (s.1 30).toInt.toNat) (y := a2) rfl rfl).mp hc)
    refine Lb_w (lb_c [.int 0] (xo_push (.int 0)) rfl rfl ?_)
    refine Lb_w (lb_st [.ref 213, .int a1, .int 0, .null, .null, .null] rfl rfl rfl ?_)
    exact lkl_215_79  h
  · replace h := h.2 (fun q => hc ((i_le (x := s.2.1 233 (s.1 30).toInt.toNat) (y := a2) rfl rfl).mpr q))
    refine Lb_w (lb_c [.int 0] (xo_push (.int 0)) rfl rfl ?_)
    refine Lb_w (lb_st [.ref 213, .int a1, .int a2, .int 0, .null, .null] rfl rfl rfl ?_)
    exact lkl_215_28 r19 h
def ubl_215_19 (T : Nat → List Value → yS → (Option Value → yS → Prop) → Prop)  (a1 : Int32) (a2 : Int32) (s : yS) (P : Option Value → yS → Prop) : Prop :=
  ∃ (I : Int32 → Int32 → yS → Prop), I a1 a2 s ∧ ∀ (a1 : Int32) (a2 : Int32) (s : yS), I a1 a2 s → ub_215_19 T I a1 a2 s P
theorem lkl_215_19 {d N0 : Nat}  {a1 : Int32} {a2 : Int32} {s : yS} {P : Option Value → yS → Prop}  (h : ubl_215_19 (Par d)  a1 a2 s P) : Lb d N0 5 (none) xE_215 (xE_215.drop 19) [.ref 213, .int a1, .int a2, .null, .null, .null] [] s P := by
  obtain ⟨I, h0, h1⟩ := h
  have key : ∀ (m : Nat), m ≤ N0 → ∀ (a1 : Int32) (a2 : Int32) (s : yS), I a1 a2 s → Lb d m 5 (none) xE_215 (xE_215.drop 19) [.ref 213, .int a1, .int a2, .null, .null, .null] [] s P := by
    intro m
    induction m with
    | zero => exact fun _ a1 a2 s _ => Lb_0
    | succ m ih =>
      intro hm
      replace hm : m ≤ N0 := Nat.le_of_succ_le hm
      replace ih := ih hm
      intro a1 a2 s hI
      exact lk_215_19 ih (h1 a1 a2 s hI)
  exact key N0 (Nat.le_refl _) a1 a2 s h0
def ub_215_7 (T : Nat → List Value → yS → (Option Value → yS → Prop) → Prop) (R7 : Int32 → Int32 → yS → Prop) (a1 : Int32) (a2 : Int32) (s : yS) (P : Option Value → yS → Prop) : Prop :=
  (576 ≤ a2.toInt → ubl_215_19 T  a1 0  s P) ∧ (¬ (576 ≤ a2.toInt) → ((0 ≤ a2.toInt ∧ a2.toInt < 576) → ∀ s1, s1 = sa s 269 a2.toInt.toNat 0 → ((-2147483648 ≤ a2.toInt + 1 ∧ a2.toInt + 1 ≤ 2147483647) → ∀ x2 : Int32, x2.toInt = a2.toInt + 1 → R7 a1 x2  s1)))
set_option maxRecDepth 20000 in
theorem lk_215_7 {d N0 : Nat} {R7 : Int32 → Int32 → yS → Prop} {a1 : Int32} {a2 : Int32} {s : yS} {P : Option Value → yS → Prop} (r7 : ∀ a1 a2 s, R7 a1 a2 s → Lb d N0 5 (none) xE_215 (xE_215.drop 7) [.ref 213, .int a1, .int a2, .null, .null, .null] [] s P) (h : ub_215_7 (Par d) R7 a1 a2 s P) : Lb d (N0 + 1) 5 (none) xE_215 (xE_215.drop 7) [.ref 213, .int a1, .int a2, .null, .null, .null] [] s P := by
  unfold ub_215_7 at h
  refine lb_ld rfl rfl rfl ?_
  refine Lb_w (lb_c [.int 576, .int a2] (xo_push (.int 576)) rfl rfl ?_)
  refine Lb_w (lb_brP rfl rfl ⟨fun hc => ?_, fun hc => ?_⟩)
  · replace h := h.1 ((i_le (x := 576) (y := a2) (show (576 : Int32).toInt = 576 by decide) rfl).mp hc)
    refine Lb_w (lb_c [.int 0] (xo_push (.int 0)) rfl rfl ?_)
    refine Lb_w (lb_st [.ref 213, .int a1, .int 0, .null, .null, .null] rfl rfl rfl ?_)
    exact lkl_215_19  h
  · replace h := h.2 (fun q => hc ((i_le (x := 576) (y := a2) (show (576 : Int32).toInt = 576 by decide) rfl).mpr q))
    refine Lb_w (lb_ld rfl rfl rfl ?_)
    refine Lb_w (lb_get rfl rfl ?_)
    change Lb _ _ _ _ _ _ _ [.ref 269] _ _
    refine Lb_w (lb_ld rfl rfl rfl ?_)
    refine Lb_w (lb_c [.int 0, .int a2, .ref 269] (xo_push (.int 0)) rfl rfl ?_)
    refine Lb_w (lb_zas rfl rfl (fun hk hk2 => ?_))
    replace h := h (kc_in (x := a2) rfl hk)
    replace h := h _ rfl
    refine Lb_w (lb_inc [.ref 213, .int a1, .int (a2 + 1), .null, .null, .null] rfl rfl rfl rfl (fun hk => ?_))
    replace hk := kc_inc (x := a2) (n := 1) rfl hk
    replace h := h hk _ (i_add (x := a2) (y := 1) rfl (show (1 : Int32).toInt = 1 by decide) hk)
    refine Lb_w (lb_go rfl ?_)
    exact r7 a1 (a2 + 1)  (sa s 269 a2.toInt.toNat 0) h
def ubl_215_7 (T : Nat → List Value → yS → (Option Value → yS → Prop) → Prop)  (a1 : Int32) (a2 : Int32) (s : yS) (P : Option Value → yS → Prop) : Prop :=
  ∃ (I : Int32 → Int32 → yS → Prop), I a1 a2 s ∧ ∀ (a1 : Int32) (a2 : Int32) (s : yS), I a1 a2 s → ub_215_7 T I a1 a2 s P
theorem lkl_215_7 {d N0 : Nat}  {a1 : Int32} {a2 : Int32} {s : yS} {P : Option Value → yS → Prop}  (h : ubl_215_7 (Par d)  a1 a2 s P) : Lb d N0 5 (none) xE_215 (xE_215.drop 7) [.ref 213, .int a1, .int a2, .null, .null, .null] [] s P := by
  obtain ⟨I, h0, h1⟩ := h
  have key : ∀ (m : Nat), m ≤ N0 → ∀ (a1 : Int32) (a2 : Int32) (s : yS), I a1 a2 s → Lb d m 5 (none) xE_215 (xE_215.drop 7) [.ref 213, .int a1, .int a2, .null, .null, .null] [] s P := by
    intro m
    induction m with
    | zero => exact fun _ a1 a2 s _ => Lb_0
    | succ m ih =>
      intro hm
      replace hm : m ≤ N0 := Nat.le_of_succ_le hm
      replace ih := ih hm
      intro a1 a2 s hI
      exact lk_215_7 ih (h1 a1 a2 s hI)
  exact key N0 (Nat.le_refl _) a1 a2 s h0
def ub_215_0 (T : Nat → List Value → yS → (Option Value → yS → Prop) → Prop)   (s : yS) (P : Option Value → yS → Prop) : Prop :=
  ((-2147483648 ≤ 24 * (s.1 30).toInt ∧ 24 * (s.1 30).toInt ≤ 2147483647) → ∀ x1 : Int32, x1.toInt = 24 * (s.1 30).toInt → ubl_215_7 T  x1 0  s P)
set_option maxRecDepth 20000 in
theorem lk_215_0 {d N0 : Nat}   {s : yS} {P : Option Value → yS → Prop}  (h : ub_215_0 (Par d)   s P) : Lb d N0 5 (none) xE_215 (xE_215.drop 0) [.ref 213, .null, .null, .null, .null, .null] [] s P := by
  unfold ub_215_0 at h
  refine Lb_w (lb_c [.int 24] (xo_push (.int 24)) rfl rfl ?_)
  refine Lb_w (lb_ld rfl rfl rfl ?_)
  refine Lb_w (lb_get rfl rfl ?_)
  change Lb _ _ _ _ _ _ _ [.int (s.1 30), .int 24] _ _
  refine Lb_w (lb_ca [.int (24 * (s.1 30))] xo_imul rfl rfl (fun _ hk => ?_))
  replace hk := kc_mul (x := 24) (y := s.1 30) (show (24 : Int32).toInt = 24 by decide) rfl hk
  replace h := h hk _ (i_mul (x := 24) (y := s.1 30) (show (24 : Int32).toInt = 24 by decide) rfl hk)
  refine Lb_w (lb_st [.ref 213, .int (24 * (s.1 30)), .null, .null, .null, .null] rfl rfl rfl ?_)
  refine Lb_w (lb_c [.int 0] (xo_push (.int 0)) rfl rfl ?_)
  refine Lb_w (lb_st [.ref 213, .int (24 * (s.1 30)), .int 0, .null, .null, .null] rfl rfl rfl ?_)
  exact lkl_215_7  h
theorem pb_215 {d : Nat}  {s : yS} {P : Option Value → yS → Prop} (h : ub_215_0 (Par d)  s P) : Par (d + 1) 215 [.ref 213] s P := par_of (E := xE_215) (ml := 5) (ret := none) rfl (fun _ => lk_215_0 h)
/-! is -/
def ub_216_0 (T : Nat → List Value → yS → (Option Value → yS → Prop) → Prop)  (a1 : Int32) (a2 : Int32) (s : yS) (P : Option Value → yS → Prop) : Prop :=
  ∀ s1, s1 = sf s 80 a1 → ∀ s2, s2 = sf s1 81 a2 → P none s2
set_option maxRecDepth 20000 in
theorem lk_216_0 {d N0 : Nat}  {a1 : Int32} {a2 : Int32} {s : yS} {P : Option Value → yS → Prop}  (h : ub_216_0 (Par d)  a1 a2 s P) : Lb d N0 3 (none) xE_216 (xE_216.drop 0) [.ref 213, .int a1, .int a2, .null, .null, .null] [] s P := by
  unfold ub_216_0 at h
  refine Lb_w (lb_ld rfl rfl rfl ?_)
  refine Lb_w (lb_ld rfl rfl rfl ?_)
  refine Lb_w (lb_put rfl rfl (fun hk => ?_))
  replace h := h _ rfl
  refine Lb_w (lb_ld rfl rfl rfl ?_)
  refine Lb_w (lb_ld rfl rfl rfl ?_)
  refine Lb_w (lb_put rfl rfl (fun hk => ?_))
  replace h := h _ rfl
  exact Lb_w (lb_ret0 rfl h)
theorem pb_216 {d : Nat} {a1 : Int32} {a2 : Int32} {s : yS} {P : Option Value → yS → Prop} (h : ub_216_0 (Par d) a1 a2 s P) : Par (d + 1) 216 [.ref 213, .int a1, .int a2] s P := par_of (E := xE_216) (ml := 3) (ret := none) rfl (fun _ => lk_216_0 h)
/-! typeE -/
def ub_217_0 (T : Nat → List Value → yS → (Option Value → yS → Prop) → Prop)  (a1 : Int32) (s : yS) (P : Option Value → yS → Prop) : Prop :=
  ((s.1 8).toInt ≤ 0 → ((0 ≤ a1.toInt ∧ a1.toInt < 12006) → (Int32.toInt (s.2.1 221 a1.toInt.toNat) < 1 ∨ 4 < Int32.toInt (s.2.1 221 a1.toInt.toNat) → T 228 [.ref 213, .int a1] s (fun v2 s1 => v2 = none ∧ (P none s1))) ∧ (Int32.toInt (s.2.1 221 a1.toInt.toNat) = 1 → T 218 [.ref 213, .int a1] s (fun v4 s3 => v4 = none ∧ (P none s3))) ∧ (Int32.toInt (s.2.1 221 a1.toInt.toNat) = 2 → T 221 [.ref 213, .int a1] s (fun v6 s5 => v6 = none ∧ (P none s5))) ∧ (Int32.toInt (s.2.1 221 a1.toInt.toNat) = 3 → T 223 [.ref 213, .int a1] s (fun v8 s7 => v8 = none ∧ (P none s7))) ∧ (Int32.toInt (s.2.1 221 a1.toInt.toNat) = 4 → T 226 [.ref 213, .int a1] s (fun v10 s9 => v10 = none ∧ (P none s9))))) ∧ (¬ ((s.1 8).toInt ≤ 0) → P none s)
set_option maxRecDepth 20000 in
theorem lk_217_0 {d N0 : Nat}  {a1 : Int32} {s : yS} {P : Option Value → yS → Prop}  (h : ub_217_0 (Par d)  a1 s P) : Lb d N0 2 (none) xE_217 (xE_217.drop 0) [.ref 213, .int a1, .null, .null] [] s P := by
  unfold ub_217_0 at h
  refine Lb_w (lb_ld rfl rfl rfl ?_)
  refine Lb_w (lb_get rfl rfl ?_)
  change Lb _ _ _ _ _ _ _ [.int (s.1 8)] _ _
  refine Lb_w (lb_brP rfl rfl ⟨fun hc => ?_, fun hc => ?_⟩)
  · replace h := h.1 ((i_le (x := s.1 8) (y := 0) rfl (show (0 : Int32).toInt = 0 by decide)).mp hc)
    refine Lb_w (lb_ld rfl rfl rfl ?_)
    refine Lb_w (lb_get rfl rfl ?_)
    change Lb _ _ _ _ _ _ _ [.ref 221] _ _
    refine Lb_w (lb_ld rfl rfl rfl ?_)
    refine Lb_w (lb_ial rfl rfl (fun hk => ?_))
    change Lb _ _ _ _ _ _ _ [.int (s.2.1 221 a1.toInt.toNat)] _ _
    replace h := h (kc_in (x := a1) rfl hk)
    by_cases hx : Int32.toInt (s.2.1 221 a1.toInt.toNat) < 1 ∨ 4 < Int32.toInt (s.2.1 221 a1.toInt.toNat)
    · refine Lb_w (lb_sw ?_)
      refine ⟨25, by rw [if_pos hx]; rfl, ?_⟩
      replace h := h.1 hx
      refine Lb_w (lb_ld rfl rfl rfl ?_)
      refine Lb_w (lb_ld rfl rfl rfl ?_)
      refine Lb_w (lb_call [.ref 213, .int a1] [] rfl rfl rfl (Par.imp h (fun v2 s1 h => ?_)))
      obtain ⟨rfl, h⟩ := h
      change Lb _ _ _ _ _ _ _ [] _ _
      exact Lb_w (lb_ret0 rfl h)
    · have hy : Int32.toInt (s.2.1 221 a1.toInt.toNat) = 1 ∨ Int32.toInt (s.2.1 221 a1.toInt.toNat) = 2 ∨ Int32.toInt (s.2.1 221 a1.toInt.toNat) = 3 ∨ Int32.toInt (s.2.1 221 a1.toInt.toNat) = 4 := by omega
      rcases hy with hy | hy | hy | hy
      · refine Lb_w (lb_sw ?_)
        refine ⟨9, by rw [if_neg hx, hy]; rfl, ?_⟩
        replace h := h.2.1 hy
        refine Lb_w (lb_ld rfl rfl rfl ?_)
        refine Lb_w (lb_ld rfl rfl rfl ?_)
        refine Lb_w (lb_call [.ref 213, .int a1] [] rfl rfl rfl (Par.imp h (fun v4 s3 h => ?_)))
        obtain ⟨rfl, h⟩ := h
        change Lb _ _ _ _ _ _ _ [] _ _
        exact Lb_w (lb_ret0 rfl h)
      · refine Lb_w (lb_sw ?_)
        refine ⟨13, by rw [if_neg hx, hy]; rfl, ?_⟩
        replace h := h.2.2.1 hy
        refine Lb_w (lb_ld rfl rfl rfl ?_)
        refine Lb_w (lb_ld rfl rfl rfl ?_)
        refine Lb_w (lb_call [.ref 213, .int a1] [] rfl rfl rfl (Par.imp h (fun v6 s5 h => ?_)))
        obtain ⟨rfl, h⟩ := h
        change Lb _ _ _ _ _ _ _ [] _ _
        exact Lb_w (lb_ret0 rfl h)
      · refine Lb_w (lb_sw ?_)
        refine ⟨17, by rw [if_neg hx, hy]; rfl, ?_⟩
        replace h := h.2.2.2.1 hy
        refine Lb_w (lb_ld rfl rfl rfl ?_)
        refine Lb_w (lb_ld rfl rfl rfl ?_)
        refine Lb_w (lb_call [.ref 213, .int a1] [] rfl rfl rfl (Par.imp h (fun v8 s7 h => ?_)))
        obtain ⟨rfl, h⟩ := h
        change Lb _ _ _ _ _ _ _ [] _ _
        exact Lb_w (lb_ret0 rfl h)
      · refine Lb_w (lb_sw ?_)
        refine ⟨21, by rw [if_neg hx, hy]; rfl, ?_⟩
        replace h := h.2.2.2.2 hy
        refine Lb_w (lb_ld rfl rfl rfl ?_)
        refine Lb_w (lb_ld rfl rfl rfl ?_)
        refine Lb_w (lb_call [.ref 213, .int a1] [] rfl rfl rfl (Par.imp h (fun v10 s9 h => ?_)))
        obtain ⟨rfl, h⟩ := h
        change Lb _ _ _ _ _ _ _ [] _ _
        exact Lb_w (lb_ret0 rfl h)
  · replace h := h.2 (fun q => hc ((i_le (x := s.1 8) (y := 0) rfl (show (0 : Int32).toInt = 0 by decide)).mpr q))
    exact Lb_w (lb_ret0 rfl h)
theorem pb_217 {d : Nat} {a1 : Int32} {s : yS} {P : Option Value → yS → Prop} (h : ub_217_0 (Par d) a1 s P) : Par (d + 1) 217 [.ref 213, .int a1] s P := par_of (E := xE_217) (ml := 2) (ret := none) rfl (fun _ => lk_217_0 h)
/-! typeVar -/
def ub_218_72 (T : Nat → List Value → yS → (Option Value → yS → Prop) → Prop)  (a1 : Int32) (a2 : Int32) (a3 : Int32) (s : yS) (P : Option Value → yS → Prop) : Prop :=
  ((0 ≤ a1.toInt ∧ a1.toInt < 12006) → (0 ≤ (s.2.1 230 a1.toInt.toNat).toInt → T 219 [.ref 213, .int a1] s (fun v2 s1 => v2 = none ∧ (P none s1))) ∧ (¬ (0 ≤ (s.2.1 230 a1.toInt.toNat).toInt) → ((0 ≤ a1.toInt ∧ a1.toInt < 12006) → T 163 [.ref 213, .int 2, .int (s.2.1 222 a1.toInt.toNat)] s (fun v4 s3 => v4 = none ∧ (P none s3)))))
set_option maxRecDepth 20000 in
theorem lk_218_72 {d N0 : Nat}  {a1 : Int32} {a2 : Int32} {a3 : Int32} {s : yS} {P : Option Value → yS → Prop}  (h : ub_218_72 (Par d)  a1 a2 a3 s P) : Lb d N0 4 (none) xE_218 (xE_218.drop 72) [.ref 213, .int a1, .int a2, .int a3, .null, .null] [] s P := by
  unfold ub_218_72 at h
  refine Lb_w (lb_ld rfl rfl rfl ?_)
  refine Lb_w (lb_get rfl rfl ?_)
  change Lb _ _ _ _ _ _ _ [.ref 230] _ _
  refine Lb_w (lb_ld rfl rfl rfl ?_)
  refine Lb_w (lb_ial rfl rfl (fun hk => ?_))
  change Lb _ _ _ _ _ _ _ [.int (s.2.1 230 a1.toInt.toNat)] _ _
  replace h := h (kc_in (x := a1) rfl hk)
  refine Lb_w (lb_brP rfl rfl ⟨fun hc => ?_, fun hc => ?_⟩)
  · replace h := h.1 ((i_le (x := 0) (y := s.2.1 230 a1.toInt.toNat) (show (0 : Int32).toInt = 0 by decide) rfl).mp hc)
    refine Lb_w (lb_ld rfl rfl rfl ?_)
    refine Lb_w (lb_ld rfl rfl rfl ?_)
    refine Lb_w (lb_call [.ref 213, .int a1] [] rfl rfl rfl (Par.imp h (fun v2 s1 h => ?_)))
    obtain ⟨rfl, h⟩ := h
    change Lb _ _ _ _ _ _ _ [] _ _
    exact Lb_w (lb_ret0 rfl h)
  · replace h := h.2 (fun q => hc ((i_le (x := 0) (y := s.2.1 230 a1.toInt.toNat) (show (0 : Int32).toInt = 0 by decide) rfl).mpr q))
    refine Lb_w (lb_ld rfl rfl rfl ?_)
    refine Lb_w (lb_c [.int 2, .ref 213] (xo_push (.int 2)) rfl rfl ?_)
    refine Lb_w (lb_ld rfl rfl rfl ?_)
    refine Lb_w (lb_get rfl rfl ?_)
    change Lb _ _ _ _ _ _ _ [.ref 222, .int 2, .ref 213] _ _
    refine Lb_w (lb_ld rfl rfl rfl ?_)
    refine Lb_w (lb_ial rfl rfl (fun hk => ?_))
    change Lb _ _ _ _ _ _ _ [.int (s.2.1 222 a1.toInt.toNat), .int 2, .ref 213] _ _
    replace h := h (kc_in (x := a1) rfl hk)
    refine Lb_w (lb_call [.ref 213, .int 2, .int (s.2.1 222 a1.toInt.toNat)] [] rfl rfl rfl (Par.imp h (fun v4 s3 h => ?_)))
    obtain ⟨rfl, h⟩ := h
    change Lb _ _ _ _ _ _ _ [] _ _
    exact Lb_w (lb_ret0 rfl h)
def ub_218_70 (T : Nat → List Value → yS → (Option Value → yS → Prop) → Prop) (R33 : Int32 → Int32 → Int32 → yS → Prop) (a1 : Int32) (a2 : Int32) (a3 : Int32) (s : yS) (P : Option Value → yS → Prop) : Prop :=
  ((-2147483648 ≤ a3.toInt + 1 ∧ a3.toInt + 1 ≤ 2147483647) → ∀ x1 : Int32, x1.toInt = a3.toInt + 1 → R33 a1 a2 x1  s)
set_option maxRecDepth 20000 in
theorem lk_218_70 {d N0 : Nat} {R33 : Int32 → Int32 → Int32 → yS → Prop} {a1 : Int32} {a2 : Int32} {a3 : Int32} {s : yS} {P : Option Value → yS → Prop} (r33 : ∀ a1 a2 a3 s, R33 a1 a2 a3 s → Lb d N0 4 (none) xE_218 (xE_218.drop 33) [.ref 213, .int a1, .int a2, .int a3, .null, .null] [] s P) (h : ub_218_70 (Par d) R33 a1 a2 a3 s P) : Lb d N0 4 (none) xE_218 (xE_218.drop 70) [.ref 213, .int a1, .int a2, .int a3, .null, .null] [] s P := by
  unfold ub_218_70 at h
  refine Lb_w (lb_inc [.ref 213, .int a1, .int a2, .int (a3 + 1), .null, .null] rfl rfl rfl rfl (fun hk => ?_))
  replace hk := kc_inc (x := a3) (n := 1) rfl hk
  replace h := h hk _ (i_add (x := a3) (y := 1) rfl (show (1 : Int32).toInt = 1 by decide) hk)
  refine Lb_w (lb_go rfl ?_)
  exact r33 a1 a2 (a3 + 1)  s h
def ub_218_33 (T : Nat → List Value → yS → (Option Value → yS → Prop) → Prop) (R33 : Int32 → Int32 → Int32 → yS → Prop) (a1 : Int32) (a2 : Int32) (a3 : Int32) (s : yS) (P : Option Value → yS → Prop) : Prop :=
  ((s.1 78).toInt < 0 → ub_218_72 T  a1 a2 a3  s P) ∧ (¬ ((s.1 78).toInt < 0) → ((0 ≤ (s.1 78).toInt ∧ (s.1 78).toInt < 120) → ((0 ≤ (s.2.1 257 (s.1 78).toInt.toNat).toInt ∧ (s.2.1 257 (s.1 78).toInt.toNat).toInt < 408) → ((s.2.1 248 (s.2.1 257 (s.1 78).toInt.toNat).toInt.toNat).toInt ≤ a3.toInt → ub_218_72 T  a1 a2 a3  s P) ∧ (¬ ((s.2.1 248 (s.2.1 257 (s.1 78).toInt.toNat).toInt.toNat).toInt ≤ a3.toInt) → ((0 ≤ (s.1 78).toInt ∧ (s.1 78).toInt < 120) → ((-2147483648 ≤ 6 * (s.2.1 257 (s.1 78).toInt.toNat).toInt ∧ 6 * (s.2.1 257 (s.1 78).toInt.toNat).toInt ≤ 2147483647) → ∀ x1 : Int32, x1.toInt = 6 * (s.2.1 257 (s.1 78).toInt.toNat).toInt → ((-2147483648 ≤ x1.toInt + a3.toInt ∧ x1.toInt + a3.toInt ≤ 2147483647) → ∀ x2 : Int32, x2.toInt = x1.toInt + a3.toInt → ((0 ≤ x2.toInt ∧ x2.toInt < 2448) → ((0 ≤ (s.2.1 249 x2.toInt.toNat).toInt ∧ (s.2.1 249 x2.toInt.toNat).toInt < 12006) → (¬ ((s.2.1 217 (s.2.1 249 x2.toInt.toNat).toInt.toNat).toInt = a2.toInt) → ub_218_70 T R33 a1 a2 a3  s P) ∧ ((s.2.1 217 (s.2.1 249 x2.toInt.toNat).toInt.toNat).toInt = a2.toInt → ((-2147483648 ≤ 1 + a3.toInt ∧ 1 + a3.toInt ≤ 2147483647) → ∀ x3 : Int32, x3.toInt = 1 + a3.toInt → ((0 ≤ a1.toInt ∧ a1.toInt < 12006) → ∀ s4, s4 = sa s 230 a1.toInt.toNat x3 → ub_218_70 T R33 a1 a2 a3  s4 P))))))))))))
set_option maxRecDepth 20000 in
theorem lk_218_33 {d N0 : Nat} {R33 : Int32 → Int32 → Int32 → yS → Prop} {a1 : Int32} {a2 : Int32} {a3 : Int32} {s : yS} {P : Option Value → yS → Prop} (r33 : ∀ a1 a2 a3 s, R33 a1 a2 a3 s → Lb d N0 4 (none) xE_218 (xE_218.drop 33) [.ref 213, .int a1, .int a2, .int a3, .null, .null] [] s P) (h : ub_218_33 (Par d) R33 a1 a2 a3 s P) : Lb d (N0 + 1) 4 (none) xE_218 (xE_218.drop 33) [.ref 213, .int a1, .int a2, .int a3, .null, .null] [] s P := by
  unfold ub_218_33 at h
  refine lb_ld rfl rfl rfl ?_
  refine Lb_w (lb_get rfl rfl ?_)
  change Lb _ _ _ _ _ _ _ [.int (s.1 78)] _ _
  refine Lb_w (lb_brP rfl rfl ⟨fun hc => ?_, fun hc => ?_⟩)
  · replace h := h.1 ((i_lt (x := s.1 78) (y := 0) rfl (show (0 : Int32).toInt = 0 by decide)).mp hc)
    exact lk_218_72  h
  · replace h := h.2 (fun q => hc ((i_lt (x := s.1 78) (y := 0) rfl (show (0 : Int32).toInt = 0 by decide)).mpr q))
    refine Lb_w (lb_ld rfl rfl rfl ?_)
    refine Lb_w (lb_ld rfl rfl rfl ?_)
    refine Lb_w (lb_get rfl rfl ?_)
    change Lb _ _ _ _ _ _ _ [.ref 248, .int a3] _ _
    refine Lb_w (lb_ld rfl rfl rfl ?_)
    refine Lb_w (lb_get rfl rfl ?_)
    change Lb _ _ _ _ _ _ _ [.ref 257, .ref 248, .int a3] _ _
    refine Lb_w (lb_ld rfl rfl rfl ?_)
    refine Lb_w (lb_get rfl rfl ?_)
    change Lb _ _ _ _ _ _ _ [.int (s.1 78), .ref 257, .ref 248, .int a3] _ _
    refine Lb_w (lb_ial rfl rfl (fun hk => ?_))
    change Lb _ _ _ _ _ _ _ [.int (s.2.1 257 (s.1 78).toInt.toNat), .ref 248, .int a3] _ _
    replace h := h (kc_in (x := s.1 78) rfl hk)
    refine Lb_w (lb_ial rfl rfl (fun hk => ?_))
    change Lb _ _ _ _ _ _ _ [.int (s.2.1 248 (s.2.1 257 (s.1 78).toInt.toNat).toInt.toNat), .int a3] _ _
    replace h := h (kc_in (x := s.2.1 257 (s.1 78).toInt.toNat) rfl hk)
    refine Lb_w (lb_brP rfl rfl ⟨fun hc => ?_, fun hc => ?_⟩)
    · replace h := h.1 ((i_le (x := s.2.1 248 (s.2.1 257 (s.1 78).toInt.toNat).toInt.toNat) (y := a3) rfl rfl).mp hc)
      exact lk_218_72  h
    · replace h := h.2 (fun q => hc ((i_le (x := s.2.1 248 (s.2.1 257 (s.1 78).toInt.toNat).toInt.toNat) (y := a3) rfl rfl).mpr q))
      refine Lb_w (lb_ld rfl rfl rfl ?_)
      refine Lb_w (lb_get rfl rfl ?_)
      change Lb _ _ _ _ _ _ _ [.ref 217] _ _
      refine Lb_w (lb_ld rfl rfl rfl ?_)
      refine Lb_w (lb_get rfl rfl ?_)
      change Lb _ _ _ _ _ _ _ [.ref 249, .ref 217] _ _
      refine Lb_w (lb_c [.int 6, .ref 249, .ref 217] (xo_push (.int 6)) rfl rfl ?_)
      refine Lb_w (lb_ld rfl rfl rfl ?_)
      refine Lb_w (lb_get rfl rfl ?_)
      change Lb _ _ _ _ _ _ _ [.ref 257, .int 6, .ref 249, .ref 217] _ _
      refine Lb_w (lb_ld rfl rfl rfl ?_)
      refine Lb_w (lb_get rfl rfl ?_)
      change Lb _ _ _ _ _ _ _ [.int (s.1 78), .ref 257, .int 6, .ref 249, .ref 217] _ _
      refine Lb_w (lb_ial rfl rfl (fun hk => ?_))
      change Lb _ _ _ _ _ _ _ [.int (s.2.1 257 (s.1 78).toInt.toNat), .int 6, .ref 249, .ref 217] _ _
      replace h := h (kc_in (x := s.1 78) rfl hk)
      refine Lb_w (lb_ca [.int (6 * (s.2.1 257 (s.1 78).toInt.toNat)), .ref 249, .ref 217] xo_imul rfl rfl (fun _ hk => ?_))
      replace hk := kc_mul (x := 6) (y := s.2.1 257 (s.1 78).toInt.toNat) (show (6 : Int32).toInt = 6 by decide) rfl hk
      replace h := h hk _ (i_mul (x := 6) (y := s.2.1 257 (s.1 78).toInt.toNat) (show (6 : Int32).toInt = 6 by decide) rfl hk)
      refine Lb_w (lb_ld rfl rfl rfl ?_)
      refine Lb_w (lb_ca [.int ((6 * (s.2.1 257 (s.1 78).toInt.toNat)) + a3), .ref 249, .ref 217] xo_iadd rfl rfl (fun _ hk => ?_))
      replace hk := kc_add (x := (6 * (s.2.1 257 (s.1 78).toInt.toNat))) (y := a3) rfl rfl hk
      replace h := h hk _ (i_add (x := (6 * (s.2.1 257 (s.1 78).toInt.toNat))) (y := a3) rfl rfl hk)
      refine Lb_w (lb_ial rfl rfl (fun hk => ?_))
      change Lb _ _ _ _ _ _ _ [.int (s.2.1 249 ((6 * (s.2.1 257 (s.1 78).toInt.toNat)) + a3).toInt.toNat), .ref 217] _ _
      replace h := h (kc_in (x := ((6 * (s.2.1 257 (s.1 78).toInt.toNat)) + a3)) rfl hk)
      refine Lb_w (lb_ial rfl rfl (fun hk => ?_))
      change Lb _ _ _ _ _ _ _ [.int (s.2.1 217 (s.2.1 249 ((6 * (s.2.1 257 (s.1 78).toInt.toNat)) + a3).toInt.toNat).toInt.toNat)] _ _
      replace h := h (kc_in (x := s.2.1 249 ((6 * (s.2.1 257 (s.1 78).toInt.toNat)) + a3).toInt.toNat) rfl hk)
      refine Lb_w (lb_ld rfl rfl rfl ?_)
      refine Lb_w (lb_brN rfl rfl ⟨fun hc => ?_, fun hc => ?_⟩)
      · replace h := h.1 (fun q => hc ((i_eq (x := s.2.1 217 (s.2.1 249 ((6 * (s.2.1 257 (s.1 78).toInt.toNat)) + a3).toInt.toNat).toInt.toNat) (y := a2) rfl rfl).mpr q))
        exact lk_218_70 r33 h
      · replace h := h.2 ((i_eq (x := s.2.1 217 (s.2.1 249 ((6 * (s.2.1 257 (s.1 78).toInt.toNat)) + a3).toInt.toNat).toInt.toNat) (y := a2) rfl rfl).mp hc)
        refine Lb_w (lb_ld rfl rfl rfl ?_)
        refine Lb_w (lb_get rfl rfl ?_)
        change Lb _ _ _ _ _ _ _ [.ref 230] _ _
        refine Lb_w (lb_ld rfl rfl rfl ?_)
        refine Lb_w (lb_c [.int 1, .int a1, .ref 230] (xo_push (.int 1)) rfl rfl ?_)
        refine Lb_w (lb_ld rfl rfl rfl ?_)
        refine Lb_w (lb_ca [.int (1 + a3), .int a1, .ref 230] xo_iadd rfl rfl (fun _ hk => ?_))
        replace hk := kc_add (x := 1) (y := a3) (show (1 : Int32).toInt = 1 by decide) rfl hk
        replace h := h hk _ (i_add (x := 1) (y := a3) (show (1 : Int32).toInt = 1 by decide) rfl hk)
        refine Lb_w (lb_ias rfl rfl (fun hk => ?_))
        replace h := h (kc_in (x := a1) rfl hk)
        replace h := h _ rfl
        exact lk_218_70 r33 h
def ubl_218_33 (T : Nat → List Value → yS → (Option Value → yS → Prop) → Prop)  (a1 : Int32) (a2 : Int32) (a3 : Int32) (s : yS) (P : Option Value → yS → Prop) : Prop :=
  ∃ (I : Int32 → Int32 → Int32 → yS → Prop), I a1 a2 a3 s ∧ ∀ (a1 : Int32) (a2 : Int32) (a3 : Int32) (s : yS), I a1 a2 a3 s → ub_218_33 T I a1 a2 a3 s P
theorem lkl_218_33 {d N0 : Nat}  {a1 : Int32} {a2 : Int32} {a3 : Int32} {s : yS} {P : Option Value → yS → Prop}  (h : ubl_218_33 (Par d)  a1 a2 a3 s P) : Lb d N0 4 (none) xE_218 (xE_218.drop 33) [.ref 213, .int a1, .int a2, .int a3, .null, .null] [] s P := by
  obtain ⟨I, h0, h1⟩ := h
  have key : ∀ (m : Nat), m ≤ N0 → ∀ (a1 : Int32) (a2 : Int32) (a3 : Int32) (s : yS), I a1 a2 a3 s → Lb d m 4 (none) xE_218 (xE_218.drop 33) [.ref 213, .int a1, .int a2, .int a3, .null, .null] [] s P := by
    intro m
    induction m with
    | zero => exact fun _ a1 a2 a3 s _ => Lb_0
    | succ m ih =>
      intro hm
      replace hm : m ≤ N0 := Nat.le_of_succ_le hm
      replace ih := ih hm
      intro a1 a2 a3 s hI
      exact lk_218_33 ih (h1 a1 a2 a3 s hI)
  exact key N0 (Nat.le_refl _) a1 a2 a3 s h0
def ub_218_31 (T : Nat → List Value → yS → (Option Value → yS → Prop) → Prop)  (a1 : Int32) (a2 : Int32) (s : yS) (P : Option Value → yS → Prop) : Prop :=
  ubl_218_33 T  a1 a2 0  s P
set_option maxRecDepth 20000 in
theorem lk_218_31 {d N0 : Nat}  {a1 : Int32} {a2 : Int32} {s : yS} {P : Option Value → yS → Prop}  (h : ub_218_31 (Par d)  a1 a2 s P) : Lb d N0 4 (none) xE_218 (xE_218.drop 31) [.ref 213, .int a1, .int a2, .null, .null, .null] [] s P := by
  unfold ub_218_31 at h
  refine Lb_w (lb_c [.int 0] (xo_push (.int 0)) rfl rfl ?_)
  refine Lb_w (lb_st [.ref 213, .int a1, .int a2, .int 0, .null, .null] rfl rfl rfl ?_)
  exact lkl_218_33  h
def ub_218_0 (T : Nat → List Value → yS → (Option Value → yS → Prop) → Prop)  (a1 : Int32) (s : yS) (P : Option Value → yS → Prop) : Prop :=
  ((0 ≤ a1.toInt ∧ a1.toInt < 12006) → ((0 ≤ (s.2.1 222 a1.toInt.toNat).toInt ∧ (s.2.1 222 a1.toInt.toNat).toInt < 12006) → ((0 ≤ a1.toInt ∧ a1.toInt < 12006) → ∀ s1, s1 = sa s 230 a1.toInt.toNat (-1) → ((s1.1 78).toInt < 0 → ub_218_31 T  a1 (s.2.1 217 (s.2.1 222 a1.toInt.toNat).toInt.toNat)  s1 P) ∧ (¬ ((s1.1 78).toInt < 0) → ((0 ≤ (s1.1 78).toInt ∧ (s1.1 78).toInt < 120) → ((0 ≤ (s1.2.1 253 (s1.1 78).toInt.toNat).toInt ∧ (s1.2.1 253 (s1.1 78).toInt.toNat).toInt < 12006) → (¬ ((s1.2.1 217 (s1.2.1 253 (s1.1 78).toInt.toNat).toInt.toNat).toInt = (s.2.1 217 (s.2.1 222 a1.toInt.toNat).toInt.toNat).toInt) → ub_218_31 T  a1 (s.2.1 217 (s.2.1 222 a1.toInt.toNat).toInt.toNat)  s1 P) ∧ ((s1.2.1 217 (s1.2.1 253 (s1.1 78).toInt.toNat).toInt.toNat).toInt = (s.2.1 217 (s.2.1 222 a1.toInt.toNat).toInt.toNat).toInt → ((0 ≤ a1.toInt ∧ a1.toInt < 12006) → ∀ s2, s2 = sa s1 230 a1.toInt.toNat 0 → ub_218_31 T  a1 (s.2.1 217 (s.2.1 222 a1.toInt.toNat).toInt.toNat)  s2 P))))))))
set_option maxRecDepth 20000 in
theorem lk_218_0 {d N0 : Nat}  {a1 : Int32} {s : yS} {P : Option Value → yS → Prop}  (h : ub_218_0 (Par d)  a1 s P) : Lb d N0 4 (none) xE_218 (xE_218.drop 0) [.ref 213, .int a1, .null, .null, .null, .null] [] s P := by
  unfold ub_218_0 at h
  refine Lb_w (lb_ld rfl rfl rfl ?_)
  refine Lb_w (lb_get rfl rfl ?_)
  change Lb _ _ _ _ _ _ _ [.ref 217] _ _
  refine Lb_w (lb_ld rfl rfl rfl ?_)
  refine Lb_w (lb_get rfl rfl ?_)
  change Lb _ _ _ _ _ _ _ [.ref 222, .ref 217] _ _
  refine Lb_w (lb_ld rfl rfl rfl ?_)
  refine Lb_w (lb_ial rfl rfl (fun hk => ?_))
  change Lb _ _ _ _ _ _ _ [.int (s.2.1 222 a1.toInt.toNat), .ref 217] _ _
  replace h := h (kc_in (x := a1) rfl hk)
  refine Lb_w (lb_ial rfl rfl (fun hk => ?_))
  change Lb _ _ _ _ _ _ _ [.int (s.2.1 217 (s.2.1 222 a1.toInt.toNat).toInt.toNat)] _ _
  replace h := h (kc_in (x := s.2.1 222 a1.toInt.toNat) rfl hk)
  refine Lb_w (lb_st [.ref 213, .int a1, .int (s.2.1 217 (s.2.1 222 a1.toInt.toNat).toInt.toNat), .null, .null, .null] rfl rfl rfl ?_)
  refine Lb_w (lb_ld rfl rfl rfl ?_)
  refine Lb_w (lb_get rfl rfl ?_)
  change Lb _ _ _ _ _ _ _ [.ref 230] _ _
  refine Lb_w (lb_ld rfl rfl rfl ?_)
  refine Lb_w (lb_c [.int (-1), .int a1, .ref 230] (xo_push (.int (-1))) rfl rfl ?_)
  refine Lb_w (lb_ias rfl rfl (fun hk => ?_))
  replace h := h (kc_in (x := a1) rfl hk)
  replace h := h _ rfl
  refine Lb_w (lb_ld rfl rfl rfl ?_)
  refine Lb_w (lb_get rfl rfl ?_)
  change Lb _ _ _ _ _ _ _ [.int ((sa s 230 a1.toInt.toNat (-1)).1 78)] _ _
  refine Lb_w (lb_brP rfl rfl ⟨fun hc => ?_, fun hc => ?_⟩)
  · replace h := h.1 ((i_lt (x := (sa s 230 a1.toInt.toNat (-1)).1 78) (y := 0) rfl (show (0 : Int32).toInt = 0 by decide)).mp hc)
    exact lk_218_31  h
  · replace h := h.2 (fun q => hc ((i_lt (x := (sa s 230 a1.toInt.toNat (-1)).1 78) (y := 0) rfl (show (0 : Int32).toInt = 0 by decide)).mpr q))
    refine Lb_w (lb_ld rfl rfl rfl ?_)
    refine Lb_w (lb_get rfl rfl ?_)
    change Lb _ _ _ _ _ _ _ [.ref 217] _ _
    refine Lb_w (lb_ld rfl rfl rfl ?_)
    refine Lb_w (lb_get rfl rfl ?_)
    change Lb _ _ _ _ _ _ _ [.ref 253, .ref 217] _ _
    refine Lb_w (lb_ld rfl rfl rfl ?_)
    refine Lb_w (lb_get rfl rfl ?_)
    change Lb _ _ _ _ _ _ _ [.int ((sa s 230 a1.toInt.toNat (-1)).1 78), .ref 253, .ref 217] _ _
    refine Lb_w (lb_ial rfl rfl (fun hk => ?_))
    change Lb _ _ _ _ _ _ _ [.int ((sa s 230 a1.toInt.toNat (-1)).2.1 253 ((sa s 230 a1.toInt.toNat (-1)).1 78).toInt.toNat), .ref 217] _ _
    replace h := h (kc_in (x := (sa s 230 a1.toInt.toNat (-1)).1 78) rfl hk)
    refine Lb_w (lb_ial rfl rfl (fun hk => ?_))
    change Lb _ _ _ _ _ _ _ [.int ((sa s 230 a1.toInt.toNat (-1)).2.1 217 ((sa s 230 a1.toInt.toNat (-1)).2.1 253 ((sa s 230 a1.toInt.toNat (-1)).1 78).toInt.toNat).toInt.toNat)] _ _
    replace h := h (kc_in (x := (sa s 230 a1.toInt.toNat (-1)).2.1 253 ((sa s 230 a1.toInt.toNat (-1)).1 78).toInt.toNat) rfl hk)
    refine Lb_w (lb_ld rfl rfl rfl ?_)
    refine Lb_w (lb_brN rfl rfl ⟨fun hc => ?_, fun hc => ?_⟩)
    · replace h := h.1 (fun q => hc ((i_eq (x := (sa s 230 a1.toInt.toNat (-1)).2.1 217 ((sa s 230 a1.toInt.toNat (-1)).2.1 253 ((sa s 230 a1.toInt.toNat (-1)).1 78).toInt.toNat).toInt.toNat) (y := s.2.1 217 (s.2.1 222 a1.toInt.toNat).toInt.toNat) rfl rfl).mpr q))
      exact lk_218_31  h
    · replace h := h.2 ((i_eq (x := (sa s 230 a1.toInt.toNat (-1)).2.1 217 ((sa s 230 a1.toInt.toNat (-1)).2.1 253 ((sa s 230 a1.toInt.toNat (-1)).1 78).toInt.toNat).toInt.toNat) (y := s.2.1 217 (s.2.1 222 a1.toInt.toNat).toInt.toNat) rfl rfl).mp hc)
      refine Lb_w (lb_ld rfl rfl rfl ?_)
      refine Lb_w (lb_get rfl rfl ?_)
      change Lb _ _ _ _ _ _ _ [.ref 230] _ _
      refine Lb_w (lb_ld rfl rfl rfl ?_)
      refine Lb_w (lb_c [.int 0, .int a1, .ref 230] (xo_push (.int 0)) rfl rfl ?_)
      refine Lb_w (lb_ias rfl rfl (fun hk => ?_))
      replace h := h (kc_in (x := a1) rfl hk)
      replace h := h _ rfl
      exact lk_218_31  h
theorem pb_218 {d : Nat} {a1 : Int32} {s : yS} {P : Option Value → yS → Prop} (h : ub_218_0 (Par d) a1 s P) : Par (d + 1) 218 [.ref 213, .int a1] s P := par_of (E := xE_218) (ml := 4) (ret := none) rfl (fun _ => lk_218_0 h)
/-! typeOfVar -/
def ub_219_68 (T : Nat → List Value → yS → (Option Value → yS → Prop) → Prop) (R68 : Int32 → Int32 → Int32 → Int32 → yS → Prop) (a1 : Int32) (a2 : Int32) (a3 : Int32) (a4 : Int32) (s : yS) (P : Option Value → yS → Prop) : Prop :=
  (a3.toInt ≤ a4.toInt → P none s) ∧ (¬ (a3.toInt ≤ a4.toInt) → ((-2147483648 ≤ 60 * (s.1 75).toInt ∧ 60 * (s.1 75).toInt ≤ 2147483647) → ∀ x1 : Int32, x1.toInt = 60 * (s.1 75).toInt → ((-2147483648 ≤ (s.1 78).toInt - x1.toInt ∧ (s.1 78).toInt - x1.toInt ≤ 2147483647) → ∀ x2 : Int32, x2.toInt = (s.1 78).toInt - x1.toInt → ((-2147483648 ≤ 6 * x2.toInt ∧ 6 * x2.toInt ≤ 2147483647) → ∀ x3 : Int32, x3.toInt = 6 * x2.toInt → ((-2147483648 ≤ 4000 + x3.toInt ∧ 4000 + x3.toInt ≤ 2147483647) → ∀ x4 : Int32, x4.toInt = 4000 + x3.toInt → ((-2147483648 ≤ x4.toInt + a4.toInt ∧ x4.toInt + a4.toInt ≤ 2147483647) → ∀ x5 : Int32, x5.toInt = x4.toInt + a4.toInt → ((-2147483648 ≤ 8 * x5.toInt ∧ 8 * x5.toInt ≤ 2147483647) → ∀ x6 : Int32, x6.toInt = 8 * x5.toInt → ((0 ≤ (s.1 64).toInt ∧ (s.1 64).toInt < 200000) → ∀ s7, s7 = sa s 264 (s.1 64).toInt.toNat x6 → ((-2147483648 ≤ (s7.1 64).toInt + 1 ∧ (s7.1 64).toInt + 1 ≤ 2147483647) → ∀ x8 : Int32, x8.toInt = (s7.1 64).toInt + 1 → ∀ s9, s9 = sf s7 64 x8 → ((-2147483648 ≤ a4.toInt + 1 ∧ a4.toInt + 1 ≤ 2147483647) → ∀ x10 : Int32, x10.toInt = a4.toInt + 1 → R68 a1 a2 a3 x10  s9))))))))))
set_option maxRecDepth 20000 in
theorem lk_219_68 {d N0 : Nat} {R68 : Int32 → Int32 → Int32 → Int32 → yS → Prop} {a1 : Int32} {a2 : Int32} {a3 : Int32} {a4 : Int32} {s : yS} {P : Option Value → yS → Prop} (r68 : ∀ a1 a2 a3 a4 s, R68 a1 a2 a3 a4 s → Lb d N0 5 (none) xE_219 (xE_219.drop 68) [.ref 213, .int a1, .int a2, .int a3, .int a4, .null, .null] [] s P) (h : ub_219_68 (Par d) R68 a1 a2 a3 a4 s P) : Lb d (N0 + 1) 5 (none) xE_219 (xE_219.drop 68) [.ref 213, .int a1, .int a2, .int a3, .int a4, .null, .null] [] s P := by
  unfold ub_219_68 at h
  refine lb_ld rfl rfl rfl ?_
  refine Lb_w (lb_ld rfl rfl rfl ?_)
  refine Lb_w (lb_brP rfl rfl ⟨fun hc => ?_, fun hc => ?_⟩)
  · replace h := h.1 ((i_le (x := a3) (y := a4) rfl rfl).mp hc)
    exact Lb_w (lb_ret0 rfl h)
  · replace h := h.2 (fun q => hc ((i_le (x := a3) (y := a4) rfl rfl).mpr q))
    refine Lb_w (lb_ld rfl rfl rfl ?_)
    refine Lb_w (lb_get rfl rfl ?_)
    change Lb _ _ _ _ _ _ _ [.ref 264] _ _
    refine Lb_w (lb_ld rfl rfl rfl ?_)
    refine Lb_w (lb_get rfl rfl ?_)
    change Lb _ _ _ _ _ _ _ [.int (s.1 64), .ref 264] _ _
    refine Lb_w (lb_c [.int 8, .int (s.1 64), .ref 264] (xo_push (.int 8)) rfl rfl ?_)
    refine Lb_w (lb_c [.int 4000, .int 8, .int (s.1 64), .ref 264] (xo_push (.int 4000)) rfl rfl ?_)
    refine Lb_w (lb_c [.int 6, .int 4000, .int 8, .int (s.1 64), .ref 264] (xo_push (.int 6)) rfl rfl ?_)
    refine Lb_w (lb_ld rfl rfl rfl ?_)
    refine Lb_w (lb_get rfl rfl ?_)
    change Lb _ _ _ _ _ _ _ [.int (s.1 78), .int 6, .int 4000, .int 8, .int (s.1 64), .ref 264] _ _
    refine Lb_w (lb_c [.int 60, .int (s.1 78), .int 6, .int 4000, .int 8, .int (s.1 64), .ref 264] (xo_push (.int 60)) rfl rfl ?_)
    refine Lb_w (lb_ld rfl rfl rfl ?_)
    refine Lb_w (lb_get rfl rfl ?_)
    change Lb _ _ _ _ _ _ _ [.int (s.1 75), .int 60, .int (s.1 78), .int 6, .int 4000, .int 8, .int (s.1 64), .ref 264] _ _
    refine Lb_w (lb_ca [.int (60 * (s.1 75)), .int (s.1 78), .int 6, .int 4000, .int 8, .int (s.1 64), .ref 264] xo_imul rfl rfl (fun _ hk => ?_))
    replace hk := kc_mul (x := 60) (y := s.1 75) (show (60 : Int32).toInt = 60 by decide) rfl hk
    replace h := h hk _ (i_mul (x := 60) (y := s.1 75) (show (60 : Int32).toInt = 60 by decide) rfl hk)
    refine Lb_w (lb_ca [.int ((s.1 78) - (60 * (s.1 75))), .int 6, .int 4000, .int 8, .int (s.1 64), .ref 264] xo_isub rfl rfl (fun _ hk => ?_))
    replace hk := kc_sub (x := s.1 78) (y := (60 * (s.1 75))) rfl rfl hk
    replace h := h hk _ (i_sub (x := s.1 78) (y := (60 * (s.1 75))) rfl rfl hk)
    refine Lb_w (lb_ca [.int (6 * ((s.1 78) - (60 * (s.1 75)))), .int 4000, .int 8, .int (s.1 64), .ref 264] xo_imul rfl rfl (fun _ hk => ?_))
    replace hk := kc_mul (x := 6) (y := ((s.1 78) - (60 * (s.1 75)))) (show (6 : Int32).toInt = 6 by decide) rfl hk
    replace h := h hk _ (i_mul (x := 6) (y := ((s.1 78) - (60 * (s.1 75)))) (show (6 : Int32).toInt = 6 by decide) rfl hk)
    refine Lb_w (lb_ca [.int (4000 + (6 * ((s.1 78) - (60 * (s.1 75))))), .int 8, .int (s.1 64), .ref 264] xo_iadd rfl rfl (fun _ hk => ?_))
    replace hk := kc_add (x := 4000) (y := (6 * ((s.1 78) - (60 * (s.1 75))))) (show (4000 : Int32).toInt = 4000 by decide) rfl hk
    replace h := h hk _ (i_add (x := 4000) (y := (6 * ((s.1 78) - (60 * (s.1 75))))) (show (4000 : Int32).toInt = 4000 by decide) rfl hk)
    refine Lb_w (lb_ld rfl rfl rfl ?_)
    refine Lb_w (lb_ca [.int ((4000 + (6 * ((s.1 78) - (60 * (s.1 75))))) + a4), .int 8, .int (s.1 64), .ref 264] xo_iadd rfl rfl (fun _ hk => ?_))
    replace hk := kc_add (x := (4000 + (6 * ((s.1 78) - (60 * (s.1 75)))))) (y := a4) rfl rfl hk
    replace h := h hk _ (i_add (x := (4000 + (6 * ((s.1 78) - (60 * (s.1 75)))))) (y := a4) rfl rfl hk)
    refine Lb_w (lb_ca [.int (8 * ((4000 + (6 * ((s.1 78) - (60 * (s.1 75))))) + a4)), .int (s.1 64), .ref 264] xo_imul rfl rfl (fun _ hk => ?_))
    replace hk := kc_mul (x := 8) (y := ((4000 + (6 * ((s.1 78) - (60 * (s.1 75))))) + a4)) (show (8 : Int32).toInt = 8 by decide) rfl hk
    replace h := h hk _ (i_mul (x := 8) (y := ((4000 + (6 * ((s.1 78) - (60 * (s.1 75))))) + a4)) (show (8 : Int32).toInt = 8 by decide) rfl hk)
    refine Lb_w (lb_ias rfl rfl (fun hk => ?_))
    replace h := h (kc_in (x := s.1 64) rfl hk)
    replace h := h _ rfl
    refine Lb_w (lb_ld rfl rfl rfl ?_)
    refine Lb_w (lb_c [.ref 213, .ref 213] xo_dup rfl rfl ?_)
    refine Lb_w (lb_get rfl rfl ?_)
    change Lb _ _ _ _ _ _ _ [.int ((sa s 264 (s.1 64).toInt.toNat (8 * ((4000 + (6 * ((s.1 78) - (60 * (s.1 75))))) + a4))).1 64), .ref 213] _ _
    refine Lb_w (lb_c [.int 1, .int ((sa s 264 (s.1 64).toInt.toNat (8 * ((4000 + (6 * ((s.1 78) - (60 * (s.1 75))))) + a4))).1 64), .ref 213] (xo_push (.int 1)) rfl rfl ?_)
    refine Lb_w (lb_ca [.int (((sa s 264 (s.1 64).toInt.toNat (8 * ((4000 + (6 * ((s.1 78) - (60 * (s.1 75))))) + a4))).1 64) + 1), .ref 213] xo_iadd rfl rfl (fun _ hk => ?_))
    replace hk := kc_add (x := (sa s 264 (s.1 64).toInt.toNat (8 * ((4000 + (6 * ((s.1 78) - (60 * (s.1 75))))) + a4))).1 64) (y := 1) rfl (show (1 : Int32).toInt = 1 by decide) hk
    replace h := h hk _ (i_add (x := (sa s 264 (s.1 64).toInt.toNat (8 * ((4000 + (6 * ((s.1 78) - (60 * (s.1 75))))) + a4))).1 64) (y := 1) rfl (show (1 : Int32).toInt = 1 by decide) hk)
    refine Lb_w (lb_put rfl rfl (fun hk => ?_))
    replace h := h _ rfl
    refine Lb_w (lb_inc [.ref 213, .int a1, .int a2, .int a3, .int (a4 + 1), .null, .null] rfl rfl rfl rfl (fun hk => ?_))
    replace hk := kc_inc (x := a4) (n := 1) rfl hk
    replace h := h hk _ (i_add (x := a4) (y := 1) rfl (show (1 : Int32).toInt = 1 by decide) hk)
    refine Lb_w (lb_go rfl ?_)
    exact r68 a1 a2 a3 (a4 + 1)  (sf (sa s 264 (s.1 64).toInt.toNat (8 * ((4000 + (6 * ((s.1 78) - (60 * (s.1 75))))) + a4))) 64 (((sa s 264 (s.1 64).toInt.toNat (8 * ((4000 + (6 * ((s.1 78) - (60 * (s.1 75))))) + a4))).1 64) + 1)) h
def ubl_219_68 (T : Nat → List Value → yS → (Option Value → yS → Prop) → Prop)  (a1 : Int32) (a2 : Int32) (a3 : Int32) (a4 : Int32) (s : yS) (P : Option Value → yS → Prop) : Prop :=
  ∃ (I : Int32 → Int32 → Int32 → Int32 → yS → Prop), I a1 a2 a3 a4 s ∧ ∀ (a1 : Int32) (a2 : Int32) (a3 : Int32) (a4 : Int32) (s : yS), I a1 a2 a3 a4 s → ub_219_68 T I a1 a2 a3 a4 s P
theorem lkl_219_68 {d N0 : Nat}  {a1 : Int32} {a2 : Int32} {a3 : Int32} {a4 : Int32} {s : yS} {P : Option Value → yS → Prop}  (h : ubl_219_68 (Par d)  a1 a2 a3 a4 s P) : Lb d N0 5 (none) xE_219 (xE_219.drop 68) [.ref 213, .int a1, .int a2, .int a3, .int a4, .null, .null] [] s P := by
  obtain ⟨I, h0, h1⟩ := h
  have key : ∀ (m : Nat), m ≤ N0 → ∀ (a1 : Int32) (a2 : Int32) (a3 : Int32) (a4 : Int32) (s : yS), I a1 a2 a3 a4 s → Lb d m 5 (none) xE_219 (xE_219.drop 68) [.ref 213, .int a1, .int a2, .int a3, .int a4, .null, .null] [] s P := by
    intro m
    induction m with
    | zero => exact fun _ a1 a2 a3 a4 s _ => Lb_0
    | succ m ih =>
      intro hm
      replace hm : m ≤ N0 := Nat.le_of_succ_le hm
      replace ih := ih hm
      intro a1 a2 a3 a4 s hI
      exact lk_219_68 ih (h1 a1 a2 a3 a4 s hI)
  exact key N0 (Nat.le_refl _) a1 a2 a3 a4 s h0
def ub_219_0 (T : Nat → List Value → yS → (Option Value → yS → Prop) → Prop)  (a1 : Int32) (s : yS) (P : Option Value → yS → Prop) : Prop :=
  ((0 ≤ a1.toInt ∧ a1.toInt < 12006) → ((s.2.1 230 a1.toInt.toNat).toInt ≤ 0 → ((0 ≤ (s.1 78).toInt ∧ (s.1 78).toInt < 120) → ((-2147483648 ≤ (s.2.1 255 (s.1 78).toInt.toNat).toInt + 1 ∧ (s.2.1 255 (s.1 78).toInt.toNat).toInt + 1 ≤ 2147483647) → ∀ x1 : Int32, x1.toInt = (s.2.1 255 (s.1 78).toInt.toNat).toInt + 1 → T 216 [.ref 213, .int (s.1 64), .int x1] s (fun v3 s2 => v3 = none ∧ (((0 ≤ (s2.1 78).toInt ∧ (s2.1 78).toInt < 120) → ((-2147483648 ≤ 8 * (s2.2.1 261 (s2.1 78).toInt.toNat).toInt ∧ 8 * (s2.2.1 261 (s2.1 78).toInt.toNat).toInt ≤ 2147483647) → ∀ x4 : Int32, x4.toInt = 8 * (s2.2.1 261 (s2.1 78).toInt.toNat).toInt → ((-2147483648 ≤ x4.toInt + (s.2.1 255 (s.1 78).toInt.toNat).toInt ∧ x4.toInt + (s.2.1 255 (s.1 78).toInt.toNat).toInt ≤ 2147483647) → ∀ x5 : Int32, x5.toInt = x4.toInt + (s.2.1 255 (s.1 78).toInt.toNat).toInt → ((0 ≤ (s2.1 64).toInt ∧ (s2.1 64).toInt < 200000) → ∀ s6, s6 = sa s2 264 (s2.1 64).toInt.toNat x5 → ((-2147483648 ≤ (s6.1 64).toInt + 1 ∧ (s6.1 64).toInt + 1 ≤ 2147483647) → ∀ x7 : Int32, x7.toInt = (s6.1 64).toInt + 1 → ∀ s8, s8 = sf s6 64 x7 → ubl_219_68 T  a1 (s.2.1 230 a1.toInt.toNat) (s.2.1 255 (s.1 78).toInt.toNat) 0  s8 P)))))))))) ∧ (¬ ((s.2.1 230 a1.toInt.toNat).toInt ≤ 0) → ((0 ≤ (s.1 78).toInt ∧ (s.1 78).toInt < 120) → ((-2147483648 ≤ 6 * (s.2.1 257 (s.1 78).toInt.toNat).toInt ∧ 6 * (s.2.1 257 (s.1 78).toInt.toNat).toInt ≤ 2147483647) → ∀ x9 : Int32, x9.toInt = 6 * (s.2.1 257 (s.1 78).toInt.toNat).toInt → ((-2147483648 ≤ x9.toInt + (s.2.1 230 a1.toInt.toNat).toInt ∧ x9.toInt + (s.2.1 230 a1.toInt.toNat).toInt ≤ 2147483647) → ∀ x10 : Int32, x10.toInt = x9.toInt + (s.2.1 230 a1.toInt.toNat).toInt → ((-2147483648 ≤ x10.toInt - 1 ∧ x10.toInt - 1 ≤ 2147483647) → ∀ x11 : Int32, x11.toInt = x10.toInt - 1 → ((0 ≤ x11.toInt ∧ x11.toInt < 2448) → ((0 ≤ (s.2.1 250 x11.toInt.toNat).toInt ∧ (s.2.1 250 x11.toInt.toNat).toInt < 12006) → ((0 ≤ (s.2.1 250 x11.toInt.toNat).toInt ∧ (s.2.1 250 x11.toInt.toNat).toInt < 12006) → T 216 [.ref 213, .int (s.2.1 231 (s.2.1 250 x11.toInt.toNat).toInt.toNat), .int (s.2.1 232 (s.2.1 250 x11.toInt.toNat).toInt.toNat)] s (fun v13 s12 => v13 = none ∧ (P none s12)))))))))))
set_option maxRecDepth 20000 in
theorem lk_219_0 {d N0 : Nat}  {a1 : Int32} {s : yS} {P : Option Value → yS → Prop}  (h : ub_219_0 (Par d)  a1 s P) : Lb d N0 5 (none) xE_219 (xE_219.drop 0) [.ref 213, .int a1, .null, .null, .null, .null, .null] [] s P := by
  unfold ub_219_0 at h
  refine Lb_w (lb_ld rfl rfl rfl ?_)
  refine Lb_w (lb_get rfl rfl ?_)
  change Lb _ _ _ _ _ _ _ [.ref 230] _ _
  refine Lb_w (lb_ld rfl rfl rfl ?_)
  refine Lb_w (lb_ial rfl rfl (fun hk => ?_))
  change Lb _ _ _ _ _ _ _ [.int (s.2.1 230 a1.toInt.toNat)] _ _
  replace h := h (kc_in (x := a1) rfl hk)
  refine Lb_w (lb_st [.ref 213, .int a1, .int (s.2.1 230 a1.toInt.toNat), .null, .null, .null, .null] rfl rfl rfl ?_)
  refine Lb_w (lb_ld rfl rfl rfl ?_)
  refine Lb_w (lb_brP rfl rfl ⟨fun hc => ?_, fun hc => ?_⟩)
  · replace h := h.1 ((i_le (x := s.2.1 230 a1.toInt.toNat) (y := 0) rfl (show (0 : Int32).toInt = 0 by decide)).mp hc)
    refine Lb_w (lb_ld rfl rfl rfl ?_)
    refine Lb_w (lb_get rfl rfl ?_)
    change Lb _ _ _ _ _ _ _ [.ref 255] _ _
    refine Lb_w (lb_ld rfl rfl rfl ?_)
    refine Lb_w (lb_get rfl rfl ?_)
    change Lb _ _ _ _ _ _ _ [.int (s.1 78), .ref 255] _ _
    refine Lb_w (lb_ial rfl rfl (fun hk => ?_))
    change Lb _ _ _ _ _ _ _ [.int (s.2.1 255 (s.1 78).toInt.toNat)] _ _
    replace h := h (kc_in (x := s.1 78) rfl hk)
    refine Lb_w (lb_st [.ref 213, .int a1, .int (s.2.1 230 a1.toInt.toNat), .int (s.2.1 255 (s.1 78).toInt.toNat), .null, .null, .null] rfl rfl rfl ?_)
    refine Lb_w (lb_ld rfl rfl rfl ?_)
    refine Lb_w (lb_ld rfl rfl rfl ?_)
    refine Lb_w (lb_get rfl rfl ?_)
    change Lb _ _ _ _ _ _ _ [.int (s.1 64), .ref 213] _ _
    refine Lb_w (lb_ld rfl rfl rfl ?_)
    refine Lb_w (lb_c [.int 1, .int (s.2.1 255 (s.1 78).toInt.toNat), .int (s.1 64), .ref 213] (xo_push (.int 1)) rfl rfl ?_)
    refine Lb_w (lb_ca [.int ((s.2.1 255 (s.1 78).toInt.toNat) + 1), .int (s.1 64), .ref 213] xo_iadd rfl rfl (fun _ hk => ?_))
    replace hk := kc_add (x := s.2.1 255 (s.1 78).toInt.toNat) (y := 1) rfl (show (1 : Int32).toInt = 1 by decide) hk
    replace h := h hk _ (i_add (x := s.2.1 255 (s.1 78).toInt.toNat) (y := 1) rfl (show (1 : Int32).toInt = 1 by decide) hk)
    refine Lb_w (lb_call [.ref 213, .int (s.1 64), .int ((s.2.1 255 (s.1 78).toInt.toNat) + 1)] [] rfl rfl rfl (Par.imp h (fun v3 s2 h => ?_)))
    obtain ⟨rfl, h⟩ := h
    change Lb _ _ _ _ _ _ _ [] _ _
    refine Lb_w (lb_ld rfl rfl rfl ?_)
    refine Lb_w (lb_get rfl rfl ?_)
    change Lb _ _ _ _ _ _ _ [.ref 264] _ _
    refine Lb_w (lb_ld rfl rfl rfl ?_)
    refine Lb_w (lb_get rfl rfl ?_)
    change Lb _ _ _ _ _ _ _ [.int (s2.1 64), .ref 264] _ _
    refine Lb_w (lb_c [.int 8, .int (s2.1 64), .ref 264] (xo_push (.int 8)) rfl rfl ?_)
    refine Lb_w (lb_ld rfl rfl rfl ?_)
    refine Lb_w (lb_get rfl rfl ?_)
    change Lb _ _ _ _ _ _ _ [.ref 261, .int 8, .int (s2.1 64), .ref 264] _ _
    refine Lb_w (lb_ld rfl rfl rfl ?_)
    refine Lb_w (lb_get rfl rfl ?_)
    change Lb _ _ _ _ _ _ _ [.int (s2.1 78), .ref 261, .int 8, .int (s2.1 64), .ref 264] _ _
    refine Lb_w (lb_ial rfl rfl (fun hk => ?_))
    change Lb _ _ _ _ _ _ _ [.int (s2.2.1 261 (s2.1 78).toInt.toNat), .int 8, .int (s2.1 64), .ref 264] _ _
    replace h := h (kc_in (x := s2.1 78) rfl hk)
    refine Lb_w (lb_ca [.int (8 * (s2.2.1 261 (s2.1 78).toInt.toNat)), .int (s2.1 64), .ref 264] xo_imul rfl rfl (fun _ hk => ?_))
    replace hk := kc_mul (x := 8) (y := s2.2.1 261 (s2.1 78).toInt.toNat) (show (8 : Int32).toInt = 8 by decide) rfl hk
    replace h := h hk _ (i_mul (x := 8) (y := s2.2.1 261 (s2.1 78).toInt.toNat) (show (8 : Int32).toInt = 8 by decide) rfl hk)
    refine Lb_w (lb_ld rfl rfl rfl ?_)
    refine Lb_w (lb_ca [.int ((8 * (s2.2.1 261 (s2.1 78).toInt.toNat)) + (s.2.1 255 (s.1 78).toInt.toNat)), .int (s2.1 64), .ref 264] xo_iadd rfl rfl (fun _ hk => ?_))
    replace hk := kc_add (x := (8 * (s2.2.1 261 (s2.1 78).toInt.toNat))) (y := s.2.1 255 (s.1 78).toInt.toNat) rfl rfl hk
    replace h := h hk _ (i_add (x := (8 * (s2.2.1 261 (s2.1 78).toInt.toNat))) (y := s.2.1 255 (s.1 78).toInt.toNat) rfl rfl hk)
    refine Lb_w (lb_ias rfl rfl (fun hk => ?_))
    replace h := h (kc_in (x := s2.1 64) rfl hk)
    replace h := h _ rfl
    refine Lb_w (lb_ld rfl rfl rfl ?_)
    refine Lb_w (lb_c [.ref 213, .ref 213] xo_dup rfl rfl ?_)
    refine Lb_w (lb_get rfl rfl ?_)
    change Lb _ _ _ _ _ _ _ [.int ((sa s2 264 (s2.1 64).toInt.toNat ((8 * (s2.2.1 261 (s2.1 78).toInt.toNat)) + (s.2.1 255 (s.1 78).toInt.toNat))).1 64), .ref 213] _ _
    refine Lb_w (lb_c [.int 1, .int ((sa s2 264 (s2.1 64).toInt.toNat ((8 * (s2.2.1 261 (s2.1 78).toInt.toNat)) + (s.2.1 255 (s.1 78).toInt.toNat))).1 64), .ref 213] (xo_push (.int 1)) rfl rfl ?_)
    refine Lb_w (lb_ca [.int (((sa s2 264 (s2.1 64).toInt.toNat ((8 * (s2.2.1 261 (s2.1 78).toInt.toNat)) + (s.2.1 255 (s.1 78).toInt.toNat))).1 64) + 1), .ref 213] xo_iadd rfl rfl (fun _ hk => ?_))
    replace hk := kc_add (x := (sa s2 264 (s2.1 64).toInt.toNat ((8 * (s2.2.1 261 (s2.1 78).toInt.toNat)) + (s.2.1 255 (s.1 78).toInt.toNat))).1 64) (y := 1) rfl (show (1 : Int32).toInt = 1 by decide) hk
    replace h := h hk _ (i_add (x := (sa s2 264 (s2.1 64).toInt.toNat ((8 * (s2.2.1 261 (s2.1 78).toInt.toNat)) + (s.2.1 255 (s.1 78).toInt.toNat))).1 64) (y := 1) rfl (show (1 : Int32).toInt = 1 by decide) hk)
    refine Lb_w (lb_put rfl rfl (fun hk => ?_))
    replace h := h _ rfl
    refine Lb_w (lb_c [.int 0] (xo_push (.int 0)) rfl rfl ?_)
    refine Lb_w (lb_st [.ref 213, .int a1, .int (s.2.1 230 a1.toInt.toNat), .int (s.2.1 255 (s.1 78).toInt.toNat), .int 0, .null, .null] rfl rfl rfl ?_)
    exact lkl_219_68  h
  · replace h := h.2 (fun q => hc ((i_le (x := s.2.1 230 a1.toInt.toNat) (y := 0) rfl (show (0 : Int32).toInt = 0 by decide)).mpr q))
    refine Lb_w (lb_ld rfl rfl rfl ?_)
    refine Lb_w (lb_get rfl rfl ?_)
    change Lb _ _ _ _ _ _ _ [.ref 250] _ _
    refine Lb_w (lb_c [.int 6, .ref 250] (xo_push (.int 6)) rfl rfl ?_)
    refine Lb_w (lb_ld rfl rfl rfl ?_)
    refine Lb_w (lb_get rfl rfl ?_)
    change Lb _ _ _ _ _ _ _ [.ref 257, .int 6, .ref 250] _ _
    refine Lb_w (lb_ld rfl rfl rfl ?_)
    refine Lb_w (lb_get rfl rfl ?_)
    change Lb _ _ _ _ _ _ _ [.int (s.1 78), .ref 257, .int 6, .ref 250] _ _
    refine Lb_w (lb_ial rfl rfl (fun hk => ?_))
    change Lb _ _ _ _ _ _ _ [.int (s.2.1 257 (s.1 78).toInt.toNat), .int 6, .ref 250] _ _
    replace h := h (kc_in (x := s.1 78) rfl hk)
    refine Lb_w (lb_ca [.int (6 * (s.2.1 257 (s.1 78).toInt.toNat)), .ref 250] xo_imul rfl rfl (fun _ hk => ?_))
    replace hk := kc_mul (x := 6) (y := s.2.1 257 (s.1 78).toInt.toNat) (show (6 : Int32).toInt = 6 by decide) rfl hk
    replace h := h hk _ (i_mul (x := 6) (y := s.2.1 257 (s.1 78).toInt.toNat) (show (6 : Int32).toInt = 6 by decide) rfl hk)
    refine Lb_w (lb_ld rfl rfl rfl ?_)
    refine Lb_w (lb_ca [.int ((6 * (s.2.1 257 (s.1 78).toInt.toNat)) + (s.2.1 230 a1.toInt.toNat)), .ref 250] xo_iadd rfl rfl (fun _ hk => ?_))
    replace hk := kc_add (x := (6 * (s.2.1 257 (s.1 78).toInt.toNat))) (y := s.2.1 230 a1.toInt.toNat) rfl rfl hk
    replace h := h hk _ (i_add (x := (6 * (s.2.1 257 (s.1 78).toInt.toNat))) (y := s.2.1 230 a1.toInt.toNat) rfl rfl hk)
    refine Lb_w (lb_c [.int 1, .int ((6 * (s.2.1 257 (s.1 78).toInt.toNat)) + (s.2.1 230 a1.toInt.toNat)), .ref 250] (xo_push (.int 1)) rfl rfl ?_)
    refine Lb_w (lb_ca [.int (((6 * (s.2.1 257 (s.1 78).toInt.toNat)) + (s.2.1 230 a1.toInt.toNat)) - 1), .ref 250] xo_isub rfl rfl (fun _ hk => ?_))
    replace hk := kc_sub (x := ((6 * (s.2.1 257 (s.1 78).toInt.toNat)) + (s.2.1 230 a1.toInt.toNat))) (y := 1) rfl (show (1 : Int32).toInt = 1 by decide) hk
    replace h := h hk _ (i_sub (x := ((6 * (s.2.1 257 (s.1 78).toInt.toNat)) + (s.2.1 230 a1.toInt.toNat))) (y := 1) rfl (show (1 : Int32).toInt = 1 by decide) hk)
    refine Lb_w (lb_ial rfl rfl (fun hk => ?_))
    change Lb _ _ _ _ _ _ _ [.int (s.2.1 250 (((6 * (s.2.1 257 (s.1 78).toInt.toNat)) + (s.2.1 230 a1.toInt.toNat)) - 1).toInt.toNat)] _ _
    replace h := h (kc_in (x := (((6 * (s.2.1 257 (s.1 78).toInt.toNat)) + (s.2.1 230 a1.toInt.toNat)) - 1)) rfl hk)
    refine Lb_w (lb_st [.ref 213, .int a1, .int (s.2.1 230 a1.toInt.toNat), .int (s.2.1 250 (((6 * (s.2.1 257 (s.1 78).toInt.toNat)) + (s.2.1 230 a1.toInt.toNat)) - 1).toInt.toNat), .null, .null, .null] rfl rfl rfl ?_)
    refine Lb_w (lb_ld rfl rfl rfl ?_)
    refine Lb_w (lb_ld rfl rfl rfl ?_)
    refine Lb_w (lb_get rfl rfl ?_)
    change Lb _ _ _ _ _ _ _ [.ref 231, .ref 213] _ _
    refine Lb_w (lb_ld rfl rfl rfl ?_)
    refine Lb_w (lb_ial rfl rfl (fun hk => ?_))
    change Lb _ _ _ _ _ _ _ [.int (s.2.1 231 (s.2.1 250 (((6 * (s.2.1 257 (s.1 78).toInt.toNat)) + (s.2.1 230 a1.toInt.toNat)) - 1).toInt.toNat).toInt.toNat), .ref 213] _ _
    replace h := h (kc_in (x := s.2.1 250 (((6 * (s.2.1 257 (s.1 78).toInt.toNat)) + (s.2.1 230 a1.toInt.toNat)) - 1).toInt.toNat) rfl hk)
    refine Lb_w (lb_ld rfl rfl rfl ?_)
    refine Lb_w (lb_get rfl rfl ?_)
    change Lb _ _ _ _ _ _ _ [.ref 232, .int (s.2.1 231 (s.2.1 250 (((6 * (s.2.1 257 (s.1 78).toInt.toNat)) + (s.2.1 230 a1.toInt.toNat)) - 1).toInt.toNat).toInt.toNat), .ref 213] _ _
    refine Lb_w (lb_ld rfl rfl rfl ?_)
    refine Lb_w (lb_ial rfl rfl (fun hk => ?_))
    change Lb _ _ _ _ _ _ _ [.int (s.2.1 232 (s.2.1 250 (((6 * (s.2.1 257 (s.1 78).toInt.toNat)) + (s.2.1 230 a1.toInt.toNat)) - 1).toInt.toNat).toInt.toNat), .int (s.2.1 231 (s.2.1 250 (((6 * (s.2.1 257 (s.1 78).toInt.toNat)) + (s.2.1 230 a1.toInt.toNat)) - 1).toInt.toNat).toInt.toNat), .ref 213] _ _
    replace h := h (kc_in (x := s.2.1 250 (((6 * (s.2.1 257 (s.1 78).toInt.toNat)) + (s.2.1 230 a1.toInt.toNat)) - 1).toInt.toNat) rfl hk)
    refine Lb_w (lb_call [.ref 213, .int (s.2.1 231 (s.2.1 250 (((6 * (s.2.1 257 (s.1 78).toInt.toNat)) + (s.2.1 230 a1.toInt.toNat)) - 1).toInt.toNat).toInt.toNat), .int (s.2.1 232 (s.2.1 250 (((6 * (s.2.1 257 (s.1 78).toInt.toNat)) + (s.2.1 230 a1.toInt.toNat)) - 1).toInt.toNat).toInt.toNat)] [] rfl rfl rfl (Par.imp h (fun v13 s12 h => ?_)))
    obtain ⟨rfl, h⟩ := h
    change Lb _ _ _ _ _ _ _ [] _ _
    exact Lb_w (lb_ret0 rfl h)
theorem pb_219 {d : Nat} {a1 : Int32} {s : yS} {P : Option Value → yS → Prop} (h : ub_219_0 (Par d) a1 s P) : Par (d + 1) 219 [.ref 213, .int a1] s P := par_of (E := xE_219) (ml := 5) (ret := none) rfl (fun _ => lk_219_0 h)
/-! isOfStruct -/
def ub_220_24 (T : Nat → List Value → yS → (Option Value → yS → Prop) → Prop)  (a1 : Int32) (t0 : Int32) (s : yS) (P : Option Value → yS → Prop) : Prop :=
  ((t0.toInt = 0 ∨ t0.toInt = 1) → P (some (.int t0)) s)
set_option maxRecDepth 20000 in
theorem lk_220_24 {d N0 : Nat}  {a1 : Int32} {t0 : Int32} {s : yS} {P : Option Value → yS → Prop}  (h : ub_220_24 (Par d)  a1 t0 s P) : Lb d N0 2 (some .boolean) xE_220 (xE_220.drop 24) [.ref 213, .int a1, .null, .null] [.int t0] s P := by
  unfold ub_220_24 at h
  exact Lb_w (lb_retZ rfl (fun hk => h (kc_z (x := t0) rfl hk)))
def ub_220_23 (T : Nat → List Value → yS → (Option Value → yS → Prop) → Prop)  (a1 : Int32) (s : yS) (P : Option Value → yS → Prop) : Prop :=
  ub_220_24 T  a1 0 s P
set_option maxRecDepth 20000 in
theorem lk_220_23 {d N0 : Nat}  {a1 : Int32} {s : yS} {P : Option Value → yS → Prop}  (h : ub_220_23 (Par d)  a1 s P) : Lb d N0 2 (some .boolean) xE_220 (xE_220.drop 23) [.ref 213, .int a1, .null, .null] [] s P := by
  unfold ub_220_23 at h
  refine Lb_w (lb_c [.int 0] (xo_push (.int 0)) rfl rfl ?_)
  exact lk_220_24  h
def ub_220_0 (T : Nat → List Value → yS → (Option Value → yS → Prop) → Prop)  (a1 : Int32) (s : yS) (P : Option Value → yS → Prop) : Prop :=
  ((0 ≤ a1.toInt ∧ a1.toInt < 200000) → T 185 [.int (s.2.1 264 a1.toInt.toNat)] s (fun v2 s1 => ∃ x3, v2 = some (.int x3) ∧ ((1000 ≤ x3.toInt → ub_220_23 T  a1  s1 P) ∧ (¬ (1000 ≤ x3.toInt) → ((-2147483648 ≤ 24 * (s1.1 75).toInt ∧ 24 * (s1.1 75).toInt ≤ 2147483647) → ∀ x4 : Int32, x4.toInt = 24 * (s1.1 75).toInt → ((0 ≤ a1.toInt ∧ a1.toInt < 200000) → T 185 [.int (s1.2.1 264 a1.toInt.toNat)] s1 (fun v6 s5 => ∃ x7, v6 = some (.int x7) ∧ (((-2147483648 ≤ x4.toInt + x7.toInt ∧ x4.toInt + x7.toInt ≤ 2147483647) → ∀ x8 : Int32, x8.toInt = x4.toInt + x7.toInt → ((0 ≤ x8.toInt ∧ x8.toInt < 48) → ((s5.2.1 235 x8.toInt.toNat).toInt = 0 → ub_220_23 T  a1  s5 P) ∧ (¬ ((s5.2.1 235 x8.toInt.toNat).toInt = 0) → ub_220_24 T  a1 1 s5 P)))))))))))
set_option maxRecDepth 20000 in
theorem lk_220_0 {d N0 : Nat}  {a1 : Int32} {s : yS} {P : Option Value → yS → Prop}  (h : ub_220_0 (Par d)  a1 s P) : Lb d N0 2 (some .boolean) xE_220 (xE_220.drop 0) [.ref 213, .int a1, .null, .null] [] s P := by
  unfold ub_220_0 at h
  refine Lb_w (lb_ld rfl rfl rfl ?_)
  refine Lb_w (lb_get rfl rfl ?_)
  change Lb _ _ _ _ _ _ _ [.ref 264] _ _
  refine Lb_w (lb_ld rfl rfl rfl ?_)
  refine Lb_w (lb_ial rfl rfl (fun hk => ?_))
  change Lb _ _ _ _ _ _ _ [.int (s.2.1 264 a1.toInt.toNat)] _ _
  replace h := h (kc_in (x := a1) rfl hk)
  refine Lb_w (lb_call [.int (s.2.1 264 a1.toInt.toNat)] [] rfl rfl rfl (Par.imp h (fun v2 s1 h => ?_)))
  obtain ⟨x3, rfl, h⟩ := h
  change Lb _ _ _ _ _ _ _ [.int x3] _ _
  refine Lb_w (lb_c [.int 1000, .int x3] (xo_push (.int 1000)) rfl rfl ?_)
  refine Lb_w (lb_brP rfl rfl ⟨fun hc => ?_, fun hc => ?_⟩)
  · replace h := h.1 ((i_le (x := 1000) (y := x3) (show (1000 : Int32).toInt = 1000 by decide) rfl).mp hc)
    exact lk_220_23  h
  · replace h := h.2 (fun q => hc ((i_le (x := 1000) (y := x3) (show (1000 : Int32).toInt = 1000 by decide) rfl).mpr q))
    refine Lb_w (lb_ld rfl rfl rfl ?_)
    refine Lb_w (lb_get rfl rfl ?_)
    change Lb _ _ _ _ _ _ _ [.ref 235] _ _
    refine Lb_w (lb_c [.int 24, .ref 235] (xo_push (.int 24)) rfl rfl ?_)
    refine Lb_w (lb_ld rfl rfl rfl ?_)
    refine Lb_w (lb_get rfl rfl ?_)
    change Lb _ _ _ _ _ _ _ [.int (s1.1 75), .int 24, .ref 235] _ _
    refine Lb_w (lb_ca [.int (24 * (s1.1 75)), .ref 235] xo_imul rfl rfl (fun _ hk => ?_))
    replace hk := kc_mul (x := 24) (y := s1.1 75) (show (24 : Int32).toInt = 24 by decide) rfl hk
    replace h := h hk _ (i_mul (x := 24) (y := s1.1 75) (show (24 : Int32).toInt = 24 by decide) rfl hk)
    refine Lb_w (lb_ld rfl rfl rfl ?_)
    refine Lb_w (lb_get rfl rfl ?_)
    change Lb _ _ _ _ _ _ _ [.ref 264, .int (24 * (s1.1 75)), .ref 235] _ _
    refine Lb_w (lb_ld rfl rfl rfl ?_)
    refine Lb_w (lb_ial rfl rfl (fun hk => ?_))
    change Lb _ _ _ _ _ _ _ [.int (s1.2.1 264 a1.toInt.toNat), .int (24 * (s1.1 75)), .ref 235] _ _
    replace h := h (kc_in (x := a1) rfl hk)
    refine Lb_w (lb_call [.int (s1.2.1 264 a1.toInt.toNat)] [.int (24 * (s1.1 75)), .ref 235] rfl rfl rfl (Par.imp h (fun v6 s5 h => ?_)))
    obtain ⟨x7, rfl, h⟩ := h
    change Lb _ _ _ _ _ _ _ [.int x7, .int (24 * (s1.1 75)), .ref 235] _ _
    refine Lb_w (lb_ca [.int ((24 * (s1.1 75)) + x7), .ref 235] xo_iadd rfl rfl (fun _ hk => ?_))
    replace hk := kc_add (x := (24 * (s1.1 75))) (y := x7) rfl rfl hk
    replace h := h hk _ (i_add (x := (24 * (s1.1 75))) (y := x7) rfl rfl hk)
    refine Lb_w (lb_zal rfl rfl (fun hk => ?_))
    change Lb _ _ _ _ _ _ _ [.int (s5.2.1 235 ((24 * (s1.1 75)) + x7).toInt.toNat)] _ _
    replace h := h (kc_in (x := ((24 * (s1.1 75)) + x7)) rfl hk)
    refine Lb_w (lb_brP rfl rfl ⟨fun hc => ?_, fun hc => ?_⟩)
    · replace h := h.1 ((i_eq (x := s5.2.1 235 ((24 * (s1.1 75)) + x7).toInt.toNat) (y := 0) rfl (show (0 : Int32).toInt = 0 by decide)).mp hc)
      exact lk_220_23  h
    · replace h := h.2 (fun q => hc ((i_eq (x := s5.2.1 235 ((24 * (s1.1 75)) + x7).toInt.toNat) (y := 0) rfl (show (0 : Int32).toInt = 0 by decide)).mpr q))
      refine Lb_w (lb_c [.int 1] (xo_push (.int 1)) rfl rfl ?_)
      refine Lb_w (lb_go rfl ?_)
      exact lk_220_24  h
theorem pb_220 {d : Nat} {a1 : Int32} {s : yS} {P : Option Value → yS → Prop} (h : ub_220_0 (Par d) a1 s P) : Par (d + 1) 220 [.ref 213, .int a1] s P := par_of (E := xE_220) (ml := 2) (ret := some .boolean) rfl (fun _ => lk_220_0 h)
/-! typeStruct -/
def ub_221_118 (T : Nat → List Value → yS → (Option Value → yS → Prop) → Prop)  (a1 : Int32) (a2 : Int32) (a3 : Int32) (a4 : Int32) (a5 : Int32) (a6 : Int32) (s : yS) (P : Option Value → yS → Prop) : Prop :=
  ((-2147483648 ≤ (s.1 70).toInt - 1 ∧ (s.1 70).toInt - 1 ≤ 2147483647) → ∀ x1 : Int32, x1.toInt = (s.1 70).toInt - 1 → ∀ s2, s2 = sf s 70 x1 → ((0 ≤ a2.toInt ∧ a2.toInt < 12006) → ((0 ≤ a2.toInt ∧ a2.toInt < 12006) → T 216 [.ref 213, .int (s2.2.1 231 a2.toInt.toNat), .int (s2.2.1 232 a2.toInt.toNat)] s2 (fun v4 s3 => v4 = none ∧ (P none s3)))))
set_option maxRecDepth 20000 in
theorem lk_221_118 {d N0 : Nat}  {a1 : Int32} {a2 : Int32} {a3 : Int32} {a4 : Int32} {a5 : Int32} {a6 : Int32} {s : yS} {P : Option Value → yS → Prop}  (h : ub_221_118 (Par d)  a1 a2 a3 a4 a5 a6 s P) : Lb d N0 7 (none) xE_221 (xE_221.drop 118) [.ref 213, .int a1, .int a2, .int a3, .int a4, .int a5, .int a6, .null, .null] [] s P := by
  unfold ub_221_118 at h
  refine Lb_w (lb_ld rfl rfl rfl ?_)
  refine Lb_w (lb_c [.ref 213, .ref 213] xo_dup rfl rfl ?_)
  refine Lb_w (lb_get rfl rfl ?_)
  change Lb _ _ _ _ _ _ _ [.int (s.1 70), .ref 213] _ _
  refine Lb_w (lb_c [.int 1, .int (s.1 70), .ref 213] (xo_push (.int 1)) rfl rfl ?_)
  refine Lb_w (lb_ca [.int ((s.1 70) - 1), .ref 213] xo_isub rfl rfl (fun _ hk => ?_))
  replace hk := kc_sub (x := s.1 70) (y := 1) rfl (show (1 : Int32).toInt = 1 by decide) hk
  replace h := h hk _ (i_sub (x := s.1 70) (y := 1) rfl (show (1 : Int32).toInt = 1 by decide) hk)
  refine Lb_w (lb_put rfl rfl (fun hk => ?_))
  replace h := h _ rfl
  refine Lb_w (lb_ld rfl rfl rfl ?_)
  refine Lb_w (lb_ld rfl rfl rfl ?_)
  refine Lb_w (lb_get rfl rfl ?_)
  change Lb _ _ _ _ _ _ _ [.ref 231, .ref 213] _ _
  refine Lb_w (lb_ld rfl rfl rfl ?_)
  refine Lb_w (lb_ial rfl rfl (fun hk => ?_))
  change Lb _ _ _ _ _ _ _ [.int ((sf s 70 ((s.1 70) - 1)).2.1 231 a2.toInt.toNat), .ref 213] _ _
  replace h := h (kc_in (x := a2) rfl hk)
  refine Lb_w (lb_ld rfl rfl rfl ?_)
  refine Lb_w (lb_get rfl rfl ?_)
  change Lb _ _ _ _ _ _ _ [.ref 232, .int ((sf s 70 ((s.1 70) - 1)).2.1 231 a2.toInt.toNat), .ref 213] _ _
  refine Lb_w (lb_ld rfl rfl rfl ?_)
  refine Lb_w (lb_ial rfl rfl (fun hk => ?_))
  change Lb _ _ _ _ _ _ _ [.int ((sf s 70 ((s.1 70) - 1)).2.1 232 a2.toInt.toNat), .int ((sf s 70 ((s.1 70) - 1)).2.1 231 a2.toInt.toNat), .ref 213] _ _
  replace h := h (kc_in (x := a2) rfl hk)
  refine Lb_w (lb_call [.ref 213, .int ((sf s 70 ((s.1 70) - 1)).2.1 231 a2.toInt.toNat), .int ((sf s 70 ((s.1 70) - 1)).2.1 232 a2.toInt.toNat)] [] rfl rfl rfl (Par.imp h (fun v4 s3 h => ?_)))
  obtain ⟨rfl, h⟩ := h
  change Lb _ _ _ _ _ _ _ [] _ _
  exact Lb_w (lb_ret0 rfl h)
def ub_221_94 (T : Nat → List Value → yS → (Option Value → yS → Prop) → Prop) (R94 : Int32 → Int32 → Int32 → Int32 → Int32 → Int32 → yS → Prop) (a1 : Int32) (a2 : Int32) (a3 : Int32) (a4 : Int32) (a5 : Int32) (a6 : Int32) (s : yS) (P : Option Value → yS → Prop) : Prop :=
  (a6.toInt < 0 → ub_221_118 T  a1 a2 a3 a4 a5 a6  s P) ∧ (¬ (a6.toInt < 0) → (¬ ((s.1 8).toInt = 0) → ub_221_118 T  a1 a2 a3 a4 a5 a6  s P) ∧ ((s.1 8).toInt = 0 → ((-2147483648 ≤ 6 * a3.toInt ∧ 6 * a3.toInt ≤ 2147483647) → ∀ x1 : Int32, x1.toInt = 6 * a3.toInt → ((-2147483648 ≤ x1.toInt + a5.toInt ∧ x1.toInt + a5.toInt ≤ 2147483647) → ∀ x2 : Int32, x2.toInt = x1.toInt + a5.toInt → ((0 ≤ x2.toInt ∧ x2.toInt < 288) → T 222 [.ref 213, .int a6, .int (s.2.1 241 x2.toInt.toNat), .int a4] s (fun v4 s3 => v4 = none ∧ (((-2147483648 ≤ a5.toInt + 1 ∧ a5.toInt + 1 ≤ 2147483647) → ∀ x5 : Int32, x5.toInt = a5.toInt + 1 → ((0 ≤ a6.toInt ∧ a6.toInt < 12006) → R94 a1 a2 a3 a4 x5 (s3.2.1 225 a6.toInt.toNat)  s3)))))))))
set_option maxRecDepth 20000 in
theorem lk_221_94 {d N0 : Nat} {R94 : Int32 → Int32 → Int32 → Int32 → Int32 → Int32 → yS → Prop} {a1 : Int32} {a2 : Int32} {a3 : Int32} {a4 : Int32} {a5 : Int32} {a6 : Int32} {s : yS} {P : Option Value → yS → Prop} (r94 : ∀ a1 a2 a3 a4 a5 a6 s, R94 a1 a2 a3 a4 a5 a6 s → Lb d N0 7 (none) xE_221 (xE_221.drop 94) [.ref 213, .int a1, .int a2, .int a3, .int a4, .int a5, .int a6, .null, .null] [] s P) (h : ub_221_94 (Par d) R94 a1 a2 a3 a4 a5 a6 s P) : Lb d (N0 + 1) 7 (none) xE_221 (xE_221.drop 94) [.ref 213, .int a1, .int a2, .int a3, .int a4, .int a5, .int a6, .null, .null] [] s P := by
  unfold ub_221_94 at h
  refine lb_ld rfl rfl rfl ?_
  refine Lb_w (lb_brP rfl rfl ⟨fun hc => ?_, fun hc => ?_⟩)
  · replace h := h.1 ((i_lt (x := a6) (y := 0) rfl (show (0 : Int32).toInt = 0 by decide)).mp hc)
    exact lk_221_118  h
  · replace h := h.2 (fun q => hc ((i_lt (x := a6) (y := 0) rfl (show (0 : Int32).toInt = 0 by decide)).mpr q))
    refine Lb_w (lb_ld rfl rfl rfl ?_)
    refine Lb_w (lb_get rfl rfl ?_)
    change Lb _ _ _ _ _ _ _ [.int (s.1 8)] _ _
    refine Lb_w (lb_brN rfl rfl ⟨fun hc => ?_, fun hc => ?_⟩)
    · replace h := h.1 (fun q => hc ((i_eq (x := s.1 8) (y := 0) rfl (show (0 : Int32).toInt = 0 by decide)).mpr q))
      exact lk_221_118  h
    · replace h := h.2 ((i_eq (x := s.1 8) (y := 0) rfl (show (0 : Int32).toInt = 0 by decide)).mp hc)
      refine Lb_w (lb_ld rfl rfl rfl ?_)
      refine Lb_w (lb_ld rfl rfl rfl ?_)
      refine Lb_w (lb_ld rfl rfl rfl ?_)
      refine Lb_w (lb_get rfl rfl ?_)
      change Lb _ _ _ _ _ _ _ [.ref 241, .int a6, .ref 213] _ _
      refine Lb_w (lb_c [.int 6, .ref 241, .int a6, .ref 213] (xo_push (.int 6)) rfl rfl ?_)
      refine Lb_w (lb_ld rfl rfl rfl ?_)
      refine Lb_w (lb_ca [.int (6 * a3), .ref 241, .int a6, .ref 213] xo_imul rfl rfl (fun _ hk => ?_))
      replace hk := kc_mul (x := 6) (y := a3) (show (6 : Int32).toInt = 6 by decide) rfl hk
      replace h := h hk _ (i_mul (x := 6) (y := a3) (show (6 : Int32).toInt = 6 by decide) rfl hk)
      refine Lb_w (lb_ld rfl rfl rfl ?_)
      refine Lb_w (lb_ca [.int ((6 * a3) + a5), .ref 241, .int a6, .ref 213] xo_iadd rfl rfl (fun _ hk => ?_))
      replace hk := kc_add (x := (6 * a3)) (y := a5) rfl rfl hk
      replace h := h hk _ (i_add (x := (6 * a3)) (y := a5) rfl rfl hk)
      refine Lb_w (lb_ial rfl rfl (fun hk => ?_))
      change Lb _ _ _ _ _ _ _ [.int (s.2.1 241 ((6 * a3) + a5).toInt.toNat), .int a6, .ref 213] _ _
      replace h := h (kc_in (x := ((6 * a3) + a5)) rfl hk)
      refine Lb_w (lb_ld rfl rfl rfl ?_)
      refine Lb_w (lb_call [.ref 213, .int a6, .int (s.2.1 241 ((6 * a3) + a5).toInt.toNat), .int a4] [] rfl rfl rfl (Par.imp h (fun v4 s3 h => ?_)))
      obtain ⟨rfl, h⟩ := h
      change Lb _ _ _ _ _ _ _ [] _ _
      refine Lb_w (lb_inc [.ref 213, .int a1, .int a2, .int a3, .int a4, .int (a5 + 1), .int a6, .null, .null] rfl rfl rfl rfl (fun hk => ?_))
      replace hk := kc_inc (x := a5) (n := 1) rfl hk
      replace h := h hk _ (i_add (x := a5) (y := 1) rfl (show (1 : Int32).toInt = 1 by decide) hk)
      refine Lb_w (lb_ld rfl rfl rfl ?_)
      refine Lb_w (lb_get rfl rfl ?_)
      change Lb _ _ _ _ _ _ _ [.ref 225] _ _
      refine Lb_w (lb_ld rfl rfl rfl ?_)
      refine Lb_w (lb_ial rfl rfl (fun hk => ?_))
      change Lb _ _ _ _ _ _ _ [.int (s3.2.1 225 a6.toInt.toNat)] _ _
      replace h := h (kc_in (x := a6) rfl hk)
      refine Lb_w (lb_st [.ref 213, .int a1, .int a2, .int a3, .int a4, .int (a5 + 1), .int (s3.2.1 225 a6.toInt.toNat), .null, .null] rfl rfl rfl ?_)
      refine Lb_w (lb_go rfl ?_)
      exact r94 a1 a2 a3 a4 (a5 + 1) (s3.2.1 225 a6.toInt.toNat)  s3 h
def ubl_221_94 (T : Nat → List Value → yS → (Option Value → yS → Prop) → Prop)  (a1 : Int32) (a2 : Int32) (a3 : Int32) (a4 : Int32) (a5 : Int32) (a6 : Int32) (s : yS) (P : Option Value → yS → Prop) : Prop :=
  ∃ (I : Int32 → Int32 → Int32 → Int32 → Int32 → Int32 → yS → Prop), I a1 a2 a3 a4 a5 a6 s ∧ ∀ (a1 : Int32) (a2 : Int32) (a3 : Int32) (a4 : Int32) (a5 : Int32) (a6 : Int32) (s : yS), I a1 a2 a3 a4 a5 a6 s → ub_221_94 T I a1 a2 a3 a4 a5 a6 s P
theorem lkl_221_94 {d N0 : Nat}  {a1 : Int32} {a2 : Int32} {a3 : Int32} {a4 : Int32} {a5 : Int32} {a6 : Int32} {s : yS} {P : Option Value → yS → Prop}  (h : ubl_221_94 (Par d)  a1 a2 a3 a4 a5 a6 s P) : Lb d N0 7 (none) xE_221 (xE_221.drop 94) [.ref 213, .int a1, .int a2, .int a3, .int a4, .int a5, .int a6, .null, .null] [] s P := by
  obtain ⟨I, h0, h1⟩ := h
  have key : ∀ (m : Nat), m ≤ N0 → ∀ (a1 : Int32) (a2 : Int32) (a3 : Int32) (a4 : Int32) (a5 : Int32) (a6 : Int32) (s : yS), I a1 a2 a3 a4 a5 a6 s → Lb d m 7 (none) xE_221 (xE_221.drop 94) [.ref 213, .int a1, .int a2, .int a3, .int a4, .int a5, .int a6, .null, .null] [] s P := by
    intro m
    induction m with
    | zero => exact fun _ a1 a2 a3 a4 a5 a6 s _ => Lb_0
    | succ m ih =>
      intro hm
      replace hm : m ≤ N0 := Nat.le_of_succ_le hm
      replace ih := ih hm
      intro a1 a2 a3 a4 a5 a6 s hI
      exact lk_221_94 ih (h1 a1 a2 a3 a4 a5 a6 s hI)
  exact key N0 (Nat.le_refl _) a1 a2 a3 a4 a5 a6 s h0
def ub_221_64 (T : Nat → List Value → yS → (Option Value → yS → Prop) → Prop)  (a1 : Int32) (a2 : Int32) (a3 : Int32) (s : yS) (P : Option Value → yS → Prop) : Prop :=
  T 188 [.ref 213] s (fun v2 s1 => ∃ x3, v2 = some (.int x3) ∧ (((0 ≤ a2.toInt ∧ a2.toInt < 12006) → ((0 ≤ (s1.2.1 231 a2.toInt.toNat).toInt ∧ (s1.2.1 231 a2.toInt.toNat).toInt < 200000) → T 185 [.int (s1.2.1 264 (s1.2.1 231 a2.toInt.toNat).toInt.toNat)] s1 (fun v5 s4 => ∃ x6, v5 = some (.int x6) ∧ (((-2147483648 ≤ 6 * x6.toInt ∧ 6 * x6.toInt ≤ 2147483647) → ∀ x7 : Int32, x7.toInt = 6 * x6.toInt → ((-2147483648 ≤ 1000 + x7.toInt ∧ 1000 + x7.toInt ≤ 2147483647) → ∀ x8 : Int32, x8.toInt = 1000 + x7.toInt → ((0 ≤ a2.toInt ∧ a2.toInt < 12006) → T 189 [.ref 213, .int x3, .int 0, .int x8, .int (s4.2.1 231 a2.toInt.toNat)] s4 (fun v10 s9 => v10 = none ∧ (((0 ≤ a1.toInt ∧ a1.toInt < 12006) → ubl_221_94 T  a1 a2 a3 x3 0 (s9.2.1 224 a1.toInt.toNat)  s9 P))))))))))))
set_option maxRecDepth 20000 in
theorem lk_221_64 {d N0 : Nat}  {a1 : Int32} {a2 : Int32} {a3 : Int32} {s : yS} {P : Option Value → yS → Prop}  (h : ub_221_64 (Par d)  a1 a2 a3 s P) : Lb d N0 7 (none) xE_221 (xE_221.drop 64) [.ref 213, .int a1, .int a2, .int a3, .null, .null, .null, .null, .null] [] s P := by
  unfold ub_221_64 at h
  refine Lb_w (lb_ld rfl rfl rfl ?_)
  refine Lb_w (lb_call [.ref 213] [] rfl rfl rfl (Par.imp h (fun v2 s1 h => ?_)))
  obtain ⟨x3, rfl, h⟩ := h
  change Lb _ _ _ _ _ _ _ [.int x3] _ _
  refine Lb_w (lb_st [.ref 213, .int a1, .int a2, .int a3, .int x3, .null, .null, .null, .null] rfl rfl rfl ?_)
  refine Lb_w (lb_ld rfl rfl rfl ?_)
  refine Lb_w (lb_ld rfl rfl rfl ?_)
  refine Lb_w (lb_c [.int 0, .int x3, .ref 213] (xo_push (.int 0)) rfl rfl ?_)
  refine Lb_w (lb_c [.int 1000, .int 0, .int x3, .ref 213] (xo_push (.int 1000)) rfl rfl ?_)
  refine Lb_w (lb_c [.int 6, .int 1000, .int 0, .int x3, .ref 213] (xo_push (.int 6)) rfl rfl ?_)
  refine Lb_w (lb_ld rfl rfl rfl ?_)
  refine Lb_w (lb_get rfl rfl ?_)
  change Lb _ _ _ _ _ _ _ [.ref 264, .int 6, .int 1000, .int 0, .int x3, .ref 213] _ _
  refine Lb_w (lb_ld rfl rfl rfl ?_)
  refine Lb_w (lb_get rfl rfl ?_)
  change Lb _ _ _ _ _ _ _ [.ref 231, .ref 264, .int 6, .int 1000, .int 0, .int x3, .ref 213] _ _
  refine Lb_w (lb_ld rfl rfl rfl ?_)
  refine Lb_w (lb_ial rfl rfl (fun hk => ?_))
  change Lb _ _ _ _ _ _ _ [.int (s1.2.1 231 a2.toInt.toNat), .ref 264, .int 6, .int 1000, .int 0, .int x3, .ref 213] _ _
  replace h := h (kc_in (x := a2) rfl hk)
  refine Lb_w (lb_ial rfl rfl (fun hk => ?_))
  change Lb _ _ _ _ _ _ _ [.int (s1.2.1 264 (s1.2.1 231 a2.toInt.toNat).toInt.toNat), .int 6, .int 1000, .int 0, .int x3, .ref 213] _ _
  replace h := h (kc_in (x := s1.2.1 231 a2.toInt.toNat) rfl hk)
  refine Lb_w (lb_call [.int (s1.2.1 264 (s1.2.1 231 a2.toInt.toNat).toInt.toNat)] [.int 6, .int 1000, .int 0, .int x3, .ref 213] rfl rfl rfl (Par.imp h (fun v5 s4 h => ?_)))
  obtain ⟨x6, rfl, h⟩ := h
  change Lb _ _ _ _ _ _ _ [.int x6, .int 6, .int 1000, .int 0, .int x3, .ref 213] _ _
  refine Lb_w (lb_ca [.int (6 * x6), .int 1000, .int 0, .int x3, .ref 213] xo_imul rfl rfl (fun _ hk => ?_))
  replace hk := kc_mul (x := 6) (y := x6) (show (6 : Int32).toInt = 6 by decide) rfl hk
  replace h := h hk _ (i_mul (x := 6) (y := x6) (show (6 : Int32).toInt = 6 by decide) rfl hk)
  refine Lb_w (lb_ca [.int (1000 + (6 * x6)), .int 0, .int x3, .ref 213] xo_iadd rfl rfl (fun _ hk => ?_))
  replace hk := kc_add (x := 1000) (y := (6 * x6)) (show (1000 : Int32).toInt = 1000 by decide) rfl hk
  replace h := h hk _ (i_add (x := 1000) (y := (6 * x6)) (show (1000 : Int32).toInt = 1000 by decide) rfl hk)
  refine Lb_w (lb_ld rfl rfl rfl ?_)
  refine Lb_w (lb_get rfl rfl ?_)
  change Lb _ _ _ _ _ _ _ [.ref 231, .int (1000 + (6 * x6)), .int 0, .int x3, .ref 213] _ _
  refine Lb_w (lb_ld rfl rfl rfl ?_)
  refine Lb_w (lb_ial rfl rfl (fun hk => ?_))
  change Lb _ _ _ _ _ _ _ [.int (s4.2.1 231 a2.toInt.toNat), .int (1000 + (6 * x6)), .int 0, .int x3, .ref 213] _ _
  replace h := h (kc_in (x := a2) rfl hk)
  refine Lb_w (lb_call [.ref 213, .int x3, .int 0, .int (1000 + (6 * x6)), .int (s4.2.1 231 a2.toInt.toNat)] [] rfl rfl rfl (Par.imp h (fun v10 s9 h => ?_)))
  obtain ⟨rfl, h⟩ := h
  change Lb _ _ _ _ _ _ _ [] _ _
  refine Lb_w (lb_c [.int 0] (xo_push (.int 0)) rfl rfl ?_)
  refine Lb_w (lb_st [.ref 213, .int a1, .int a2, .int a3, .int x3, .int 0, .null, .null, .null] rfl rfl rfl ?_)
  refine Lb_w (lb_ld rfl rfl rfl ?_)
  refine Lb_w (lb_get rfl rfl ?_)
  change Lb _ _ _ _ _ _ _ [.ref 224] _ _
  refine Lb_w (lb_ld rfl rfl rfl ?_)
  refine Lb_w (lb_ial rfl rfl (fun hk => ?_))
  change Lb _ _ _ _ _ _ _ [.int (s9.2.1 224 a1.toInt.toNat)] _ _
  replace h := h (kc_in (x := a1) rfl hk)
  refine Lb_w (lb_st [.ref 213, .int a1, .int a2, .int a3, .int x3, .int 0, .int (s9.2.1 224 a1.toInt.toNat), .null, .null] rfl rfl rfl ?_)
  exact lkl_221_94  h
def ub_221_15 (T : Nat → List Value → yS → (Option Value → yS → Prop) → Prop)  (a1 : Int32) (a2 : Int32) (s : yS) (P : Option Value → yS → Prop) : Prop :=
  ((s.1 8).toInt ≤ 0 → ((-2147483648 ≤ 24 * (s.1 75).toInt ∧ 24 * (s.1 75).toInt ≤ 2147483647) → ∀ x1 : Int32, x1.toInt = 24 * (s.1 75).toInt → ((0 ≤ a2.toInt ∧ a2.toInt < 12006) → ((0 ≤ (s.2.1 231 a2.toInt.toNat).toInt ∧ (s.2.1 231 a2.toInt.toNat).toInt < 200000) → T 185 [.int (s.2.1 264 (s.2.1 231 a2.toInt.toNat).toInt.toNat)] s (fun v3 s2 => ∃ x4, v3 = some (.int x4) ∧ (((-2147483648 ≤ x1.toInt + x4.toInt ∧ x1.toInt + x4.toInt ≤ 2147483647) → ∀ x5 : Int32, x5.toInt = x1.toInt + x4.toInt → ((0 ≤ a2.toInt ∧ a2.toInt < 12006) → T 220 [.ref 213, .int (s2.2.1 231 a2.toInt.toNat)] s2 (fun v7 s6 => ∃ x8, v7 = some (.int x8) ∧ ((¬ (x8.toInt = 0) → ((0 ≤ a1.toInt ∧ a1.toInt < 12006) → ((0 ≤ x5.toInt ∧ x5.toInt < 48) → ((s6.2.1 226 a1.toInt.toNat).toInt = (s6.2.1 239 x5.toInt.toNat).toInt → ub_221_64 T  a1 a2 x5  s6 P) ∧ (¬ ((s6.2.1 226 a1.toInt.toNat).toInt = (s6.2.1 239 x5.toInt.toNat).toInt) → ((0 ≤ a2.toInt ∧ a2.toInt < 12006) → T 163 [.ref 213, .int 4, .int (s6.2.1 222 a2.toInt.toNat)] s6 (fun v10 s9 => v10 = none ∧ (ub_221_64 T  a1 a2 x5  s9 P))))))) ∧ (x8.toInt = 0 → ((0 ≤ a2.toInt ∧ a2.toInt < 12006) → T 163 [.ref 213, .int 6, .int (s6.2.1 222 a2.toInt.toNat)] s6 (fun v12 s11 => v12 = none ∧ (P none s11)))))))))))))) ∧ (¬ ((s.1 8).toInt ≤ 0) → P none s)
set_option maxRecDepth 20000 in
theorem lk_221_15 {d N0 : Nat}  {a1 : Int32} {a2 : Int32} {s : yS} {P : Option Value → yS → Prop}  (h : ub_221_15 (Par d)  a1 a2 s P) : Lb d N0 7 (none) xE_221 (xE_221.drop 15) [.ref 213, .int a1, .int a2, .null, .null, .null, .null, .null, .null] [] s P := by
  unfold ub_221_15 at h
  refine Lb_w (lb_ld rfl rfl rfl ?_)
  refine Lb_w (lb_get rfl rfl ?_)
  change Lb _ _ _ _ _ _ _ [.int (s.1 8)] _ _
  refine Lb_w (lb_brP rfl rfl ⟨fun hc => ?_, fun hc => ?_⟩)
  · replace h := h.1 ((i_le (x := s.1 8) (y := 0) rfl (show (0 : Int32).toInt = 0 by decide)).mp hc)
    refine Lb_w (lb_c [.int 24] (xo_push (.int 24)) rfl rfl ?_)
    refine Lb_w (lb_ld rfl rfl rfl ?_)
    refine Lb_w (lb_get rfl rfl ?_)
    change Lb _ _ _ _ _ _ _ [.int (s.1 75), .int 24] _ _
    refine Lb_w (lb_ca [.int (24 * (s.1 75))] xo_imul rfl rfl (fun _ hk => ?_))
    replace hk := kc_mul (x := 24) (y := s.1 75) (show (24 : Int32).toInt = 24 by decide) rfl hk
    replace h := h hk _ (i_mul (x := 24) (y := s.1 75) (show (24 : Int32).toInt = 24 by decide) rfl hk)
    refine Lb_w (lb_ld rfl rfl rfl ?_)
    refine Lb_w (lb_get rfl rfl ?_)
    change Lb _ _ _ _ _ _ _ [.ref 264, .int (24 * (s.1 75))] _ _
    refine Lb_w (lb_ld rfl rfl rfl ?_)
    refine Lb_w (lb_get rfl rfl ?_)
    change Lb _ _ _ _ _ _ _ [.ref 231, .ref 264, .int (24 * (s.1 75))] _ _
    refine Lb_w (lb_ld rfl rfl rfl ?_)
    refine Lb_w (lb_ial rfl rfl (fun hk => ?_))
    change Lb _ _ _ _ _ _ _ [.int (s.2.1 231 a2.toInt.toNat), .ref 264, .int (24 * (s.1 75))] _ _
    replace h := h (kc_in (x := a2) rfl hk)
    refine Lb_w (lb_ial rfl rfl (fun hk => ?_))
    change Lb _ _ _ _ _ _ _ [.int (s.2.1 264 (s.2.1 231 a2.toInt.toNat).toInt.toNat), .int (24 * (s.1 75))] _ _
    replace h := h (kc_in (x := s.2.1 231 a2.toInt.toNat) rfl hk)
    refine Lb_w (lb_call [.int (s.2.1 264 (s.2.1 231 a2.toInt.toNat).toInt.toNat)] [.int (24 * (s.1 75))] rfl rfl rfl (Par.imp h (fun v3 s2 h => ?_)))
    obtain ⟨x4, rfl, h⟩ := h
    change Lb _ _ _ _ _ _ _ [.int x4, .int (24 * (s.1 75))] _ _
    refine Lb_w (lb_ca [.int ((24 * (s.1 75)) + x4)] xo_iadd rfl rfl (fun _ hk => ?_))
    replace hk := kc_add (x := (24 * (s.1 75))) (y := x4) rfl rfl hk
    replace h := h hk _ (i_add (x := (24 * (s.1 75))) (y := x4) rfl rfl hk)
    refine Lb_w (lb_st [.ref 213, .int a1, .int a2, .int ((24 * (s.1 75)) + x4), .null, .null, .null, .null, .null] rfl rfl rfl ?_)
    refine Lb_w (lb_ld rfl rfl rfl ?_)
    refine Lb_w (lb_ld rfl rfl rfl ?_)
    refine Lb_w (lb_get rfl rfl ?_)
    change Lb _ _ _ _ _ _ _ [.ref 231, .ref 213] _ _
    refine Lb_w (lb_ld rfl rfl rfl ?_)
    refine Lb_w (lb_ial rfl rfl (fun hk => ?_))
    change Lb _ _ _ _ _ _ _ [.int (s2.2.1 231 a2.toInt.toNat), .ref 213] _ _
    replace h := h (kc_in (x := a2) rfl hk)
    refine Lb_w (lb_call [.ref 213, .int (s2.2.1 231 a2.toInt.toNat)] [] rfl rfl rfl (Par.imp h (fun v7 s6 h => ?_)))
    obtain ⟨x8, rfl, h⟩ := h
    change Lb _ _ _ _ _ _ _ [.int x8] _ _
    refine Lb_w (lb_brN rfl rfl ⟨fun hc => ?_, fun hc => ?_⟩)
    · replace h := h.1 (fun q => hc ((i_eq (x := x8) (y := 0) rfl (show (0 : Int32).toInt = 0 by decide)).mpr q))
      refine Lb_w (lb_ld rfl rfl rfl ?_)
      refine Lb_w (lb_get rfl rfl ?_)
      change Lb _ _ _ _ _ _ _ [.ref 226] _ _
      refine Lb_w (lb_ld rfl rfl rfl ?_)
      refine Lb_w (lb_ial rfl rfl (fun hk => ?_))
      change Lb _ _ _ _ _ _ _ [.int (s6.2.1 226 a1.toInt.toNat)] _ _
      replace h := h (kc_in (x := a1) rfl hk)
      refine Lb_w (lb_ld rfl rfl rfl ?_)
      refine Lb_w (lb_get rfl rfl ?_)
      change Lb _ _ _ _ _ _ _ [.ref 239, .int (s6.2.1 226 a1.toInt.toNat)] _ _
      refine Lb_w (lb_ld rfl rfl rfl ?_)
      refine Lb_w (lb_ial rfl rfl (fun hk => ?_))
      change Lb _ _ _ _ _ _ _ [.int (s6.2.1 239 ((24 * (s.1 75)) + x4).toInt.toNat), .int (s6.2.1 226 a1.toInt.toNat)] _ _
      replace h := h (kc_in (x := ((24 * (s.1 75)) + x4)) rfl hk)
      refine Lb_w (lb_brP rfl rfl ⟨fun hc => ?_, fun hc => ?_⟩)
      · replace h := h.1 ((i_eq (x := s6.2.1 226 a1.toInt.toNat) (y := s6.2.1 239 ((24 * (s.1 75)) + x4).toInt.toNat) rfl rfl).mp hc)
        exact lk_221_64  h
      · replace h := h.2 (fun q => hc ((i_eq (x := s6.2.1 226 a1.toInt.toNat) (y := s6.2.1 239 ((24 * (s.1 75)) + x4).toInt.toNat) rfl rfl).mpr q))
        refine Lb_w (lb_ld rfl rfl rfl ?_)
        refine Lb_w (lb_c [.int 4, .ref 213] (xo_push (.int 4)) rfl rfl ?_)
        refine Lb_w (lb_ld rfl rfl rfl ?_)
        refine Lb_w (lb_get rfl rfl ?_)
        change Lb _ _ _ _ _ _ _ [.ref 222, .int 4, .ref 213] _ _
        refine Lb_w (lb_ld rfl rfl rfl ?_)
        refine Lb_w (lb_ial rfl rfl (fun hk => ?_))
        change Lb _ _ _ _ _ _ _ [.int (s6.2.1 222 a2.toInt.toNat), .int 4, .ref 213] _ _
        replace h := h (kc_in (x := a2) rfl hk)
        refine Lb_w (lb_call [.ref 213, .int 4, .int (s6.2.1 222 a2.toInt.toNat)] [] rfl rfl rfl (Par.imp h (fun v10 s9 h => ?_)))
        obtain ⟨rfl, h⟩ := h
        change Lb _ _ _ _ _ _ _ [] _ _
        exact lk_221_64  h
    · replace h := h.2 ((i_eq (x := x8) (y := 0) rfl (show (0 : Int32).toInt = 0 by decide)).mp hc)
      refine Lb_w (lb_ld rfl rfl rfl ?_)
      refine Lb_w (lb_c [.int 6, .ref 213] (xo_push (.int 6)) rfl rfl ?_)
      refine Lb_w (lb_ld rfl rfl rfl ?_)
      refine Lb_w (lb_get rfl rfl ?_)
      change Lb _ _ _ _ _ _ _ [.ref 222, .int 6, .ref 213] _ _
      refine Lb_w (lb_ld rfl rfl rfl ?_)
      refine Lb_w (lb_ial rfl rfl (fun hk => ?_))
      change Lb _ _ _ _ _ _ _ [.int (s6.2.1 222 a2.toInt.toNat), .int 6, .ref 213] _ _
      replace h := h (kc_in (x := a2) rfl hk)
      refine Lb_w (lb_call [.ref 213, .int 6, .int (s6.2.1 222 a2.toInt.toNat)] [] rfl rfl rfl (Par.imp h (fun v12 s11 h => ?_)))
      obtain ⟨rfl, h⟩ := h
      change Lb _ _ _ _ _ _ _ [] _ _
      exact Lb_w (lb_ret0 rfl h)
  · replace h := h.2 (fun q => hc ((i_le (x := s.1 8) (y := 0) rfl (show (0 : Int32).toInt = 0 by decide)).mpr q))
    exact Lb_w (lb_ret0 rfl h)
def ub_221_0 (T : Nat → List Value → yS → (Option Value → yS → Prop) → Prop)  (a1 : Int32) (s : yS) (P : Option Value → yS → Prop) : Prop :=
  ((0 ≤ a1.toInt ∧ a1.toInt < 12006) → T 204 [.ref 213, .int (s.2.1 229 a1.toInt.toNat), .int 0] s (fun v2 s1 => v2 = none ∧ ((¬ ((s1.1 8).toInt = 0) → ub_221_15 T  a1 (s.2.1 229 a1.toInt.toNat)  s1 P) ∧ ((s1.1 8).toInt = 0 → T 211 [.ref 213, .int (s.2.1 229 a1.toInt.toNat)] s1 (fun v4 s3 => v4 = none ∧ (ub_221_15 T  a1 (s.2.1 229 a1.toInt.toNat)  s3 P))))))
set_option maxRecDepth 20000 in
theorem lk_221_0 {d N0 : Nat}  {a1 : Int32} {s : yS} {P : Option Value → yS → Prop}  (h : ub_221_0 (Par d)  a1 s P) : Lb d N0 7 (none) xE_221 (xE_221.drop 0) [.ref 213, .int a1, .null, .null, .null, .null, .null, .null, .null] [] s P := by
  unfold ub_221_0 at h
  refine Lb_w (lb_ld rfl rfl rfl ?_)
  refine Lb_w (lb_get rfl rfl ?_)
  change Lb _ _ _ _ _ _ _ [.ref 229] _ _
  refine Lb_w (lb_ld rfl rfl rfl ?_)
  refine Lb_w (lb_ial rfl rfl (fun hk => ?_))
  change Lb _ _ _ _ _ _ _ [.int (s.2.1 229 a1.toInt.toNat)] _ _
  replace h := h (kc_in (x := a1) rfl hk)
  refine Lb_w (lb_st [.ref 213, .int a1, .int (s.2.1 229 a1.toInt.toNat), .null, .null, .null, .null, .null, .null] rfl rfl rfl ?_)
  refine Lb_w (lb_ld rfl rfl rfl ?_)
  refine Lb_w (lb_ld rfl rfl rfl ?_)
  refine Lb_w (lb_c [.int 0, .int (s.2.1 229 a1.toInt.toNat), .ref 213] (xo_push (.int 0)) rfl rfl ?_)
  refine Lb_w (lb_call [.ref 213, .int (s.2.1 229 a1.toInt.toNat), .int 0] [] rfl rfl rfl (Par.imp h (fun v2 s1 h => ?_)))
  obtain ⟨rfl, h⟩ := h
  change Lb _ _ _ _ _ _ _ [] _ _
  refine Lb_w (lb_ld rfl rfl rfl ?_)
  refine Lb_w (lb_get rfl rfl ?_)
  change Lb _ _ _ _ _ _ _ [.int (s1.1 8)] _ _
  refine Lb_w (lb_brN rfl rfl ⟨fun hc => ?_, fun hc => ?_⟩)
  · replace h := h.1 (fun q => hc ((i_eq (x := s1.1 8) (y := 0) rfl (show (0 : Int32).toInt = 0 by decide)).mpr q))
    exact lk_221_15  h
  · replace h := h.2 ((i_eq (x := s1.1 8) (y := 0) rfl (show (0 : Int32).toInt = 0 by decide)).mp hc)
    refine Lb_w (lb_ld rfl rfl rfl ?_)
    refine Lb_w (lb_ld rfl rfl rfl ?_)
    refine Lb_w (lb_call [.ref 213, .int (s.2.1 229 a1.toInt.toNat)] [] rfl rfl rfl (Par.imp h (fun v4 s3 h => ?_)))
    obtain ⟨rfl, h⟩ := h
    change Lb _ _ _ _ _ _ _ [] _ _
    exact lk_221_15  h
theorem pb_221 {d : Nat} {a1 : Int32} {s : yS} {P : Option Value → yS → Prop} (h : ub_221_0 (Par d) a1 s P) : Par (d + 1) 221 [.ref 213, .int a1] s P := par_of (E := xE_221) (ml := 7) (ret := none) rfl (fun _ => lk_221_0 h)
/-! takes -/
def ub_222_20 (T : Nat → List Value → yS → (Option Value → yS → Prop) → Prop)  (a1 : Int32) (a2 : Int32) (a3 : Int32) (a4 : Int32) (s : yS) (P : Option Value → yS → Prop) : Prop :=
  ∀ s1, s1 = sf s 64 a4 → P none s1
set_option maxRecDepth 20000 in
theorem lk_222_20 {d N0 : Nat}  {a1 : Int32} {a2 : Int32} {a3 : Int32} {a4 : Int32} {s : yS} {P : Option Value → yS → Prop}  (h : ub_222_20 (Par d)  a1 a2 a3 a4 s P) : Lb d N0 5 (none) xE_222 (xE_222.drop 20) [.ref 213, .int a1, .int a2, .int a3, .int a4, .null, .null, .null, .null] [] s P := by
  unfold ub_222_20 at h
  refine Lb_w (lb_ld rfl rfl rfl ?_)
  refine Lb_w (lb_ld rfl rfl rfl ?_)
  refine Lb_w (lb_put rfl rfl (fun hk => ?_))
  replace h := h _ rfl
  exact Lb_w (lb_ret0 rfl h)
def ub_222_0 (T : Nat → List Value → yS → (Option Value → yS → Prop) → Prop)  (a1 : Int32) (a2 : Int32) (a3 : Int32) (s : yS) (P : Option Value → yS → Prop) : Prop :=
  T 217 [.ref 213, .int a1] s (fun v2 s1 => v2 = none ∧ ((¬ ((s1.1 8).toInt = 0) → ub_222_20 T  a1 a2 a3 (s.1 64)  s1 P) ∧ ((s1.1 8).toInt = 0 → T 178 [.ref 213, .int a1] s1 (fun v4 s3 => ∃ x5, v4 = some (.int x5) ∧ (T 212 [.ref 213, .int (s1.1 80), .int (s1.1 81), .int a2, .int a3, .int x5] s3 (fun v7 s6 => v7 = none ∧ (ub_222_20 T  a1 a2 a3 (s.1 64)  s6 P)))))))
set_option maxRecDepth 20000 in
theorem lk_222_0 {d N0 : Nat}  {a1 : Int32} {a2 : Int32} {a3 : Int32} {s : yS} {P : Option Value → yS → Prop}  (h : ub_222_0 (Par d)  a1 a2 a3 s P) : Lb d N0 5 (none) xE_222 (xE_222.drop 0) [.ref 213, .int a1, .int a2, .int a3, .null, .null, .null, .null, .null] [] s P := by
  unfold ub_222_0 at h
  refine Lb_w (lb_ld rfl rfl rfl ?_)
  refine Lb_w (lb_get rfl rfl ?_)
  change Lb _ _ _ _ _ _ _ [.int (s.1 64)] _ _
  refine Lb_w (lb_st [.ref 213, .int a1, .int a2, .int a3, .int (s.1 64), .null, .null, .null, .null] rfl rfl rfl ?_)
  refine Lb_w (lb_ld rfl rfl rfl ?_)
  refine Lb_w (lb_ld rfl rfl rfl ?_)
  refine Lb_w (lb_call [.ref 213, .int a1] [] rfl rfl rfl (Par.imp h (fun v2 s1 h => ?_)))
  obtain ⟨rfl, h⟩ := h
  change Lb _ _ _ _ _ _ _ [] _ _
  refine Lb_w (lb_ld rfl rfl rfl ?_)
  refine Lb_w (lb_get rfl rfl ?_)
  change Lb _ _ _ _ _ _ _ [.int (s1.1 8)] _ _
  refine Lb_w (lb_brN rfl rfl ⟨fun hc => ?_, fun hc => ?_⟩)
  · replace h := h.1 (fun q => hc ((i_eq (x := s1.1 8) (y := 0) rfl (show (0 : Int32).toInt = 0 by decide)).mpr q))
    exact lk_222_20  h
  · replace h := h.2 ((i_eq (x := s1.1 8) (y := 0) rfl (show (0 : Int32).toInt = 0 by decide)).mp hc)
    refine Lb_w (lb_ld rfl rfl rfl ?_)
    refine Lb_w (lb_ld rfl rfl rfl ?_)
    refine Lb_w (lb_get rfl rfl ?_)
    change Lb _ _ _ _ _ _ _ [.int (s1.1 80), .ref 213] _ _
    refine Lb_w (lb_ld rfl rfl rfl ?_)
    refine Lb_w (lb_get rfl rfl ?_)
    change Lb _ _ _ _ _ _ _ [.int (s1.1 81), .int (s1.1 80), .ref 213] _ _
    refine Lb_w (lb_ld rfl rfl rfl ?_)
    refine Lb_w (lb_ld rfl rfl rfl ?_)
    refine Lb_w (lb_ld rfl rfl rfl ?_)
    refine Lb_w (lb_ld rfl rfl rfl ?_)
    refine Lb_w (lb_call [.ref 213, .int a1] [.int a3, .int a2, .int (s1.1 81), .int (s1.1 80), .ref 213] rfl rfl rfl (Par.imp h (fun v4 s3 h => ?_)))
    obtain ⟨x5, rfl, h⟩ := h
    change Lb _ _ _ _ _ _ _ [.int x5, .int a3, .int a2, .int (s1.1 81), .int (s1.1 80), .ref 213] _ _
    refine Lb_w (lb_call [.ref 213, .int (s1.1 80), .int (s1.1 81), .int a2, .int a3, .int x5] [] rfl rfl rfl (Par.imp h (fun v7 s6 h => ?_)))
    obtain ⟨rfl, h⟩ := h
    change Lb _ _ _ _ _ _ _ [] _ _
    exact lk_222_20  h
theorem pb_222 {d : Nat} {a1 : Int32} {a2 : Int32} {a3 : Int32} {s : yS} {P : Option Value → yS → Prop} (h : ub_222_0 (Par d) a1 a2 a3 s P) : Par (d + 1) 222 [.ref 213, .int a1, .int a2, .int a3] s P := par_of (E := xE_222) (ml := 5) (ret := none) rfl (fun _ => lk_222_0 h)
/-! typeField -/
def ub_223_98 (T : Nat → List Value → yS → (Option Value → yS → Prop) → Prop)  (a1 : Int32) (a2 : Int32) (a3 : Int32) (a4 : Int32) (s : yS) (P : Option Value → yS → Prop) : Prop :=
  P none s
set_option maxRecDepth 20000 in
theorem lk_223_98 {d N0 : Nat}  {a1 : Int32} {a2 : Int32} {a3 : Int32} {a4 : Int32} {s : yS} {P : Option Value → yS → Prop}  (h : ub_223_98 (Par d)  a1 a2 a3 a4 s P) : Lb d N0 5 (none) xE_223 (xE_223.drop 98) [.ref 213, .int a1, .int a2, .int a3, .int a4, .null, .null] [] s P := by
  unfold ub_223_98 at h
  exact Lb_w (lb_ret0 rfl h)
def ub_223_67 (T : Nat → List Value → yS → (Option Value → yS → Prop) → Prop) (R39 : Int32 → Int32 → Int32 → Int32 → yS → Prop) (a1 : Int32) (a2 : Int32) (a3 : Int32) (a4 : Int32) (t0 : Int32) (s : yS) (P : Option Value → yS → Prop) : Prop :=
  ((-2147483648 ≤ a4.toInt + 1 ∧ a4.toInt + 1 ≤ 2147483647) → ∀ x1 : Int32, x1.toInt = a4.toInt + 1 → R39 a1 a2 t0 x1  s)
set_option maxRecDepth 20000 in
theorem lk_223_67 {d N0 : Nat} {R39 : Int32 → Int32 → Int32 → Int32 → yS → Prop} {a1 : Int32} {a2 : Int32} {a3 : Int32} {a4 : Int32} {t0 : Int32} {s : yS} {P : Option Value → yS → Prop} (r39 : ∀ a1 a2 a3 a4 s, R39 a1 a2 a3 a4 s → Lb d N0 5 (none) xE_223 (xE_223.drop 39) [.ref 213, .int a1, .int a2, .int a3, .int a4, .null, .null] [] s P) (h : ub_223_67 (Par d) R39 a1 a2 a3 a4 t0 s P) : Lb d N0 5 (none) xE_223 (xE_223.drop 67) [.ref 213, .int a1, .int a2, .int a3, .int a4, .null, .null] [.int t0] s P := by
  unfold ub_223_67 at h
  refine Lb_w (lb_st [.ref 213, .int a1, .int a2, .int t0, .int a4, .null, .null] rfl rfl rfl ?_)
  refine Lb_w (lb_inc [.ref 213, .int a1, .int a2, .int t0, .int (a4 + 1), .null, .null] rfl rfl rfl rfl (fun hk => ?_))
  replace hk := kc_inc (x := a4) (n := 1) rfl hk
  replace h := h hk _ (i_add (x := a4) (y := 1) rfl (show (1 : Int32).toInt = 1 by decide) hk)
  refine Lb_w (lb_go rfl ?_)
  exact r39 a1 a2 t0 (a4 + 1)  s h
def ub_223_39 (T : Nat → List Value → yS → (Option Value → yS → Prop) → Prop) (R39 : Int32 → Int32 → Int32 → Int32 → yS → Prop) (a1 : Int32) (a2 : Int32) (a3 : Int32) (a4 : Int32) (s : yS) (P : Option Value → yS → Prop) : Prop :=
  ((0 ≤ a2.toInt ∧ a2.toInt < 48) → ((s.2.1 239 a2.toInt.toNat).toInt ≤ a4.toInt → (0 ≤ a3.toInt → ((0 ≤ a1.toInt ∧ a1.toInt < 12006) → ∀ s1, s1 = sa s 226 a1.toInt.toNat a3 → T 224 [.ref 213, .int (s1.1 80), .int a3] s1 (fun v3 s2 => ∃ x4, v3 = some (.int x4) ∧ ((¬ (x4.toInt = 0) → ub_223_98 T  a1 a2 a3 a4  s2 P) ∧ (x4.toInt = 0 → ((0 ≤ a1.toInt ∧ a1.toInt < 12006) → T 163 [.ref 213, .int 9, .int (s2.2.1 222 a1.toInt.toNat)] s2 (fun v6 s5 => v6 = none ∧ (ub_223_98 T  a1 a2 a3 a4  s5 P)))))))) ∧ (¬ (0 ≤ a3.toInt) → ((0 ≤ a1.toInt ∧ a1.toInt < 12006) → T 163 [.ref 213, .int 2, .int (s.2.1 222 a1.toInt.toNat)] s (fun v8 s7 => v8 = none ∧ (P none s7))))) ∧ (¬ ((s.2.1 239 a2.toInt.toNat).toInt ≤ a4.toInt) → ((-2147483648 ≤ 6 * a2.toInt ∧ 6 * a2.toInt ≤ 2147483647) → ∀ x9 : Int32, x9.toInt = 6 * a2.toInt → ((-2147483648 ≤ x9.toInt + a4.toInt ∧ x9.toInt + a4.toInt ≤ 2147483647) → ∀ x10 : Int32, x10.toInt = x9.toInt + a4.toInt → ((0 ≤ x10.toInt ∧ x10.toInt < 288) → ((0 ≤ (s.2.1 240 x10.toInt.toNat).toInt ∧ (s.2.1 240 x10.toInt.toNat).toInt < 12006) → ((0 ≤ a1.toInt ∧ a1.toInt < 12006) → ((0 ≤ (s.2.1 222 a1.toInt.toNat).toInt ∧ (s.2.1 222 a1.toInt.toNat).toInt < 12006) → (¬ ((s.2.1 217 (s.2.1 240 x10.toInt.toNat).toInt.toNat).toInt = (s.2.1 217 (s.2.1 222 a1.toInt.toNat).toInt.toNat).toInt) → ub_223_67 T R39 a1 a2 a3 a4 a3 s P) ∧ ((s.2.1 217 (s.2.1 240 x10.toInt.toNat).toInt.toNat).toInt = (s.2.1 217 (s.2.1 222 a1.toInt.toNat).toInt.toNat).toInt → ub_223_67 T R39 a1 a2 a3 a4 a4 s P)))))))))
set_option maxRecDepth 20000 in
theorem lk_223_39 {d N0 : Nat} {R39 : Int32 → Int32 → Int32 → Int32 → yS → Prop} {a1 : Int32} {a2 : Int32} {a3 : Int32} {a4 : Int32} {s : yS} {P : Option Value → yS → Prop} (r39 : ∀ a1 a2 a3 a4 s, R39 a1 a2 a3 a4 s → Lb d N0 5 (none) xE_223 (xE_223.drop 39) [.ref 213, .int a1, .int a2, .int a3, .int a4, .null, .null] [] s P) (h : ub_223_39 (Par d) R39 a1 a2 a3 a4 s P) : Lb d (N0 + 1) 5 (none) xE_223 (xE_223.drop 39) [.ref 213, .int a1, .int a2, .int a3, .int a4, .null, .null] [] s P := by
  unfold ub_223_39 at h
  refine lb_ld rfl rfl rfl ?_
  refine Lb_w (lb_ld rfl rfl rfl ?_)
  refine Lb_w (lb_get rfl rfl ?_)
  change Lb _ _ _ _ _ _ _ [.ref 239, .int a4] _ _
  refine Lb_w (lb_ld rfl rfl rfl ?_)
  refine Lb_w (lb_ial rfl rfl (fun hk => ?_))
  change Lb _ _ _ _ _ _ _ [.int (s.2.1 239 a2.toInt.toNat), .int a4] _ _
  replace h := h (kc_in (x := a2) rfl hk)
  refine Lb_w (lb_brP rfl rfl ⟨fun hc => ?_, fun hc => ?_⟩)
  · replace h := h.1 ((i_le (x := s.2.1 239 a2.toInt.toNat) (y := a4) rfl rfl).mp hc)
    refine Lb_w (lb_ld rfl rfl rfl ?_)
    refine Lb_w (lb_brP rfl rfl ⟨fun hc => ?_, fun hc => ?_⟩)
    · replace h := h.1 ((i_le (x := 0) (y := a3) (show (0 : Int32).toInt = 0 by decide) rfl).mp hc)
      refine Lb_w (lb_ld rfl rfl rfl ?_)
      refine Lb_w (lb_get rfl rfl ?_)
      change Lb _ _ _ _ _ _ _ [.ref 226] _ _
      refine Lb_w (lb_ld rfl rfl rfl ?_)
      refine Lb_w (lb_ld rfl rfl rfl ?_)
      refine Lb_w (lb_ias rfl rfl (fun hk => ?_))
      replace h := h (kc_in (x := a1) rfl hk)
      replace h := h _ rfl
      refine Lb_w (lb_ld rfl rfl rfl ?_)
      refine Lb_w (lb_ld rfl rfl rfl ?_)
      refine Lb_w (lb_get rfl rfl ?_)
      change Lb _ _ _ _ _ _ _ [.int ((sa s 226 a1.toInt.toNat a3).1 80), .ref 213] _ _
      refine Lb_w (lb_ld rfl rfl rfl ?_)
      refine Lb_w (lb_call [.ref 213, .int ((sa s 226 a1.toInt.toNat a3).1 80), .int a3] [] rfl rfl rfl (Par.imp h (fun v3 s2 h => ?_)))
      obtain ⟨x4, rfl, h⟩ := h
      change Lb _ _ _ _ _ _ _ [.int x4] _ _
      refine Lb_w (lb_brN rfl rfl ⟨fun hc => ?_, fun hc => ?_⟩)
      · replace h := h.1 (fun q => hc ((i_eq (x := x4) (y := 0) rfl (show (0 : Int32).toInt = 0 by decide)).mpr q))
        exact lk_223_98  h
      · replace h := h.2 ((i_eq (x := x4) (y := 0) rfl (show (0 : Int32).toInt = 0 by decide)).mp hc)
        refine Lb_w (lb_ld rfl rfl rfl ?_)
        refine Lb_w (lb_c [.int 9, .ref 213] (xo_push (.int 9)) rfl rfl ?_)
        refine Lb_w (lb_ld rfl rfl rfl ?_)
        refine Lb_w (lb_get rfl rfl ?_)
        change Lb _ _ _ _ _ _ _ [.ref 222, .int 9, .ref 213] _ _
        refine Lb_w (lb_ld rfl rfl rfl ?_)
        refine Lb_w (lb_ial rfl rfl (fun hk => ?_))
        change Lb _ _ _ _ _ _ _ [.int (s2.2.1 222 a1.toInt.toNat), .int 9, .ref 213] _ _
        replace h := h (kc_in (x := a1) rfl hk)
        refine Lb_w (lb_call [.ref 213, .int 9, .int (s2.2.1 222 a1.toInt.toNat)] [] rfl rfl rfl (Par.imp h (fun v6 s5 h => ?_)))
        obtain ⟨rfl, h⟩ := h
        change Lb _ _ _ _ _ _ _ [] _ _
        exact lk_223_98  h
    · replace h := h.2 (fun q => hc ((i_le (x := 0) (y := a3) (show (0 : Int32).toInt = 0 by decide) rfl).mpr q))
      refine Lb_w (lb_ld rfl rfl rfl ?_)
      refine Lb_w (lb_c [.int 2, .ref 213] (xo_push (.int 2)) rfl rfl ?_)
      refine Lb_w (lb_ld rfl rfl rfl ?_)
      refine Lb_w (lb_get rfl rfl ?_)
      change Lb _ _ _ _ _ _ _ [.ref 222, .int 2, .ref 213] _ _
      refine Lb_w (lb_ld rfl rfl rfl ?_)
      refine Lb_w (lb_ial rfl rfl (fun hk => ?_))
      change Lb _ _ _ _ _ _ _ [.int (s.2.1 222 a1.toInt.toNat), .int 2, .ref 213] _ _
      replace h := h (kc_in (x := a1) rfl hk)
      refine Lb_w (lb_call [.ref 213, .int 2, .int (s.2.1 222 a1.toInt.toNat)] [] rfl rfl rfl (Par.imp h (fun v8 s7 h => ?_)))
      obtain ⟨rfl, h⟩ := h
      change Lb _ _ _ _ _ _ _ [] _ _
      exact Lb_w (lb_ret0 rfl h)
  · replace h := h.2 (fun q => hc ((i_le (x := s.2.1 239 a2.toInt.toNat) (y := a4) rfl rfl).mpr q))
    refine Lb_w (lb_ld rfl rfl rfl ?_)
    refine Lb_w (lb_get rfl rfl ?_)
    change Lb _ _ _ _ _ _ _ [.ref 217] _ _
    refine Lb_w (lb_ld rfl rfl rfl ?_)
    refine Lb_w (lb_get rfl rfl ?_)
    change Lb _ _ _ _ _ _ _ [.ref 240, .ref 217] _ _
    refine Lb_w (lb_c [.int 6, .ref 240, .ref 217] (xo_push (.int 6)) rfl rfl ?_)
    refine Lb_w (lb_ld rfl rfl rfl ?_)
    refine Lb_w (lb_ca [.int (6 * a2), .ref 240, .ref 217] xo_imul rfl rfl (fun _ hk => ?_))
    replace hk := kc_mul (x := 6) (y := a2) (show (6 : Int32).toInt = 6 by decide) rfl hk
    replace h := h hk _ (i_mul (x := 6) (y := a2) (show (6 : Int32).toInt = 6 by decide) rfl hk)
    refine Lb_w (lb_ld rfl rfl rfl ?_)
    refine Lb_w (lb_ca [.int ((6 * a2) + a4), .ref 240, .ref 217] xo_iadd rfl rfl (fun _ hk => ?_))
    replace hk := kc_add (x := (6 * a2)) (y := a4) rfl rfl hk
    replace h := h hk _ (i_add (x := (6 * a2)) (y := a4) rfl rfl hk)
    refine Lb_w (lb_ial rfl rfl (fun hk => ?_))
    change Lb _ _ _ _ _ _ _ [.int (s.2.1 240 ((6 * a2) + a4).toInt.toNat), .ref 217] _ _
    replace h := h (kc_in (x := ((6 * a2) + a4)) rfl hk)
    refine Lb_w (lb_ial rfl rfl (fun hk => ?_))
    change Lb _ _ _ _ _ _ _ [.int (s.2.1 217 (s.2.1 240 ((6 * a2) + a4).toInt.toNat).toInt.toNat)] _ _
    replace h := h (kc_in (x := s.2.1 240 ((6 * a2) + a4).toInt.toNat) rfl hk)
    refine Lb_w (lb_ld rfl rfl rfl ?_)
    refine Lb_w (lb_get rfl rfl ?_)
    change Lb _ _ _ _ _ _ _ [.ref 217, .int (s.2.1 217 (s.2.1 240 ((6 * a2) + a4).toInt.toNat).toInt.toNat)] _ _
    refine Lb_w (lb_ld rfl rfl rfl ?_)
    refine Lb_w (lb_get rfl rfl ?_)
    change Lb _ _ _ _ _ _ _ [.ref 222, .ref 217, .int (s.2.1 217 (s.2.1 240 ((6 * a2) + a4).toInt.toNat).toInt.toNat)] _ _
    refine Lb_w (lb_ld rfl rfl rfl ?_)
    refine Lb_w (lb_ial rfl rfl (fun hk => ?_))
    change Lb _ _ _ _ _ _ _ [.int (s.2.1 222 a1.toInt.toNat), .ref 217, .int (s.2.1 217 (s.2.1 240 ((6 * a2) + a4).toInt.toNat).toInt.toNat)] _ _
    replace h := h (kc_in (x := a1) rfl hk)
    refine Lb_w (lb_ial rfl rfl (fun hk => ?_))
    change Lb _ _ _ _ _ _ _ [.int (s.2.1 217 (s.2.1 222 a1.toInt.toNat).toInt.toNat), .int (s.2.1 217 (s.2.1 240 ((6 * a2) + a4).toInt.toNat).toInt.toNat)] _ _
    replace h := h (kc_in (x := s.2.1 222 a1.toInt.toNat) rfl hk)
    refine Lb_w (lb_brN rfl rfl ⟨fun hc => ?_, fun hc => ?_⟩)
    · replace h := h.1 (fun q => hc ((i_eq (x := s.2.1 217 (s.2.1 240 ((6 * a2) + a4).toInt.toNat).toInt.toNat) (y := s.2.1 217 (s.2.1 222 a1.toInt.toNat).toInt.toNat) rfl rfl).mpr q))
      refine Lb_w (lb_ld rfl rfl rfl ?_)
      exact lk_223_67 r39 h
    · replace h := h.2 ((i_eq (x := s.2.1 217 (s.2.1 240 ((6 * a2) + a4).toInt.toNat).toInt.toNat) (y := s.2.1 217 (s.2.1 222 a1.toInt.toNat).toInt.toNat) rfl rfl).mp hc)
      refine Lb_w (lb_ld rfl rfl rfl ?_)
      refine Lb_w (lb_go rfl ?_)
      exact lk_223_67 r39 h
def ubl_223_39 (T : Nat → List Value → yS → (Option Value → yS → Prop) → Prop)  (a1 : Int32) (a2 : Int32) (a3 : Int32) (a4 : Int32) (s : yS) (P : Option Value → yS → Prop) : Prop :=
  ∃ (I : Int32 → Int32 → Int32 → Int32 → yS → Prop), I a1 a2 a3 a4 s ∧ ∀ (a1 : Int32) (a2 : Int32) (a3 : Int32) (a4 : Int32) (s : yS), I a1 a2 a3 a4 s → ub_223_39 T I a1 a2 a3 a4 s P
theorem lkl_223_39 {d N0 : Nat}  {a1 : Int32} {a2 : Int32} {a3 : Int32} {a4 : Int32} {s : yS} {P : Option Value → yS → Prop}  (h : ubl_223_39 (Par d)  a1 a2 a3 a4 s P) : Lb d N0 5 (none) xE_223 (xE_223.drop 39) [.ref 213, .int a1, .int a2, .int a3, .int a4, .null, .null] [] s P := by
  obtain ⟨I, h0, h1⟩ := h
  have key : ∀ (m : Nat), m ≤ N0 → ∀ (a1 : Int32) (a2 : Int32) (a3 : Int32) (a4 : Int32) (s : yS), I a1 a2 a3 a4 s → Lb d m 5 (none) xE_223 (xE_223.drop 39) [.ref 213, .int a1, .int a2, .int a3, .int a4, .null, .null] [] s P := by
    intro m
    induction m with
    | zero => exact fun _ a1 a2 a3 a4 s _ => Lb_0
    | succ m ih =>
      intro hm
      replace hm : m ≤ N0 := Nat.le_of_succ_le hm
      replace ih := ih hm
      intro a1 a2 a3 a4 s hI
      exact lk_223_39 ih (h1 a1 a2 a3 a4 s hI)
  exact key N0 (Nat.le_refl _) a1 a2 a3 a4 s h0
def ub_223_0 (T : Nat → List Value → yS → (Option Value → yS → Prop) → Prop)  (a1 : Int32) (s : yS) (P : Option Value → yS → Prop) : Prop :=
  ((0 ≤ a1.toInt ∧ a1.toInt < 12006) → T 217 [.ref 213, .int (s.2.1 227 a1.toInt.toNat)] s (fun v2 s1 => v2 = none ∧ (((s1.1 8).toInt ≤ 0 → T 220 [.ref 213, .int (s1.1 80)] s1 (fun v4 s3 => ∃ x5, v4 = some (.int x5) ∧ ((¬ (x5.toInt = 0) → ((-2147483648 ≤ 24 * (s3.1 75).toInt ∧ 24 * (s3.1 75).toInt ≤ 2147483647) → ∀ x6 : Int32, x6.toInt = 24 * (s3.1 75).toInt → ((0 ≤ (s3.1 80).toInt ∧ (s3.1 80).toInt < 200000) → T 185 [.int (s3.2.1 264 (s3.1 80).toInt.toNat)] s3 (fun v8 s7 => ∃ x9, v8 = some (.int x9) ∧ (((-2147483648 ≤ x6.toInt + x9.toInt ∧ x6.toInt + x9.toInt ≤ 2147483647) → ∀ x10 : Int32, x10.toInt = x6.toInt + x9.toInt → ubl_223_39 T  a1 x10 (-1) 0  s7 P)))))) ∧ (x5.toInt = 0 → ((0 ≤ a1.toInt ∧ a1.toInt < 12006) → T 163 [.ref 213, .int 6, .int (s3.2.1 223 a1.toInt.toNat)] s3 (fun v12 s11 => v12 = none ∧ (P none s11))))))) ∧ (¬ ((s1.1 8).toInt ≤ 0) → P none s1))))
set_option maxRecDepth 20000 in
theorem lk_223_0 {d N0 : Nat}  {a1 : Int32} {s : yS} {P : Option Value → yS → Prop}  (h : ub_223_0 (Par d)  a1 s P) : Lb d N0 5 (none) xE_223 (xE_223.drop 0) [.ref 213, .int a1, .null, .null, .null, .null, .null] [] s P := by
  unfold ub_223_0 at h
  refine Lb_w (lb_ld rfl rfl rfl ?_)
  refine Lb_w (lb_ld rfl rfl rfl ?_)
  refine Lb_w (lb_get rfl rfl ?_)
  change Lb _ _ _ _ _ _ _ [.ref 227, .ref 213] _ _
  refine Lb_w (lb_ld rfl rfl rfl ?_)
  refine Lb_w (lb_ial rfl rfl (fun hk => ?_))
  change Lb _ _ _ _ _ _ _ [.int (s.2.1 227 a1.toInt.toNat), .ref 213] _ _
  replace h := h (kc_in (x := a1) rfl hk)
  refine Lb_w (lb_call [.ref 213, .int (s.2.1 227 a1.toInt.toNat)] [] rfl rfl rfl (Par.imp h (fun v2 s1 h => ?_)))
  obtain ⟨rfl, h⟩ := h
  change Lb _ _ _ _ _ _ _ [] _ _
  refine Lb_w (lb_ld rfl rfl rfl ?_)
  refine Lb_w (lb_get rfl rfl ?_)
  change Lb _ _ _ _ _ _ _ [.int (s1.1 8)] _ _
  refine Lb_w (lb_brP rfl rfl ⟨fun hc => ?_, fun hc => ?_⟩)
  · replace h := h.1 ((i_le (x := s1.1 8) (y := 0) rfl (show (0 : Int32).toInt = 0 by decide)).mp hc)
    refine Lb_w (lb_ld rfl rfl rfl ?_)
    refine Lb_w (lb_ld rfl rfl rfl ?_)
    refine Lb_w (lb_get rfl rfl ?_)
    change Lb _ _ _ _ _ _ _ [.int (s1.1 80), .ref 213] _ _
    refine Lb_w (lb_call [.ref 213, .int (s1.1 80)] [] rfl rfl rfl (Par.imp h (fun v4 s3 h => ?_)))
    obtain ⟨x5, rfl, h⟩ := h
    change Lb _ _ _ _ _ _ _ [.int x5] _ _
    refine Lb_w (lb_brN rfl rfl ⟨fun hc => ?_, fun hc => ?_⟩)
    · replace h := h.1 (fun q => hc ((i_eq (x := x5) (y := 0) rfl (show (0 : Int32).toInt = 0 by decide)).mpr q))
      refine Lb_w (lb_c [.int 24] (xo_push (.int 24)) rfl rfl ?_)
      refine Lb_w (lb_ld rfl rfl rfl ?_)
      refine Lb_w (lb_get rfl rfl ?_)
      change Lb _ _ _ _ _ _ _ [.int (s3.1 75), .int 24] _ _
      refine Lb_w (lb_ca [.int (24 * (s3.1 75))] xo_imul rfl rfl (fun _ hk => ?_))
      replace hk := kc_mul (x := 24) (y := s3.1 75) (show (24 : Int32).toInt = 24 by decide) rfl hk
      replace h := h hk _ (i_mul (x := 24) (y := s3.1 75) (show (24 : Int32).toInt = 24 by decide) rfl hk)
      refine Lb_w (lb_ld rfl rfl rfl ?_)
      refine Lb_w (lb_get rfl rfl ?_)
      change Lb _ _ _ _ _ _ _ [.ref 264, .int (24 * (s3.1 75))] _ _
      refine Lb_w (lb_ld rfl rfl rfl ?_)
      refine Lb_w (lb_get rfl rfl ?_)
      change Lb _ _ _ _ _ _ _ [.int (s3.1 80), .ref 264, .int (24 * (s3.1 75))] _ _
      refine Lb_w (lb_ial rfl rfl (fun hk => ?_))
      change Lb _ _ _ _ _ _ _ [.int (s3.2.1 264 (s3.1 80).toInt.toNat), .int (24 * (s3.1 75))] _ _
      replace h := h (kc_in (x := s3.1 80) rfl hk)
      refine Lb_w (lb_call [.int (s3.2.1 264 (s3.1 80).toInt.toNat)] [.int (24 * (s3.1 75))] rfl rfl rfl (Par.imp h (fun v8 s7 h => ?_)))
      obtain ⟨x9, rfl, h⟩ := h
      change Lb _ _ _ _ _ _ _ [.int x9, .int (24 * (s3.1 75))] _ _
      refine Lb_w (lb_ca [.int ((24 * (s3.1 75)) + x9)] xo_iadd rfl rfl (fun _ hk => ?_))
      replace hk := kc_add (x := (24 * (s3.1 75))) (y := x9) rfl rfl hk
      replace h := h hk _ (i_add (x := (24 * (s3.1 75))) (y := x9) rfl rfl hk)
      refine Lb_w (lb_st [.ref 213, .int a1, .int ((24 * (s3.1 75)) + x9), .null, .null, .null, .null] rfl rfl rfl ?_)
      refine Lb_w (lb_c [.int (-1)] (xo_push (.int (-1))) rfl rfl ?_)
      refine Lb_w (lb_st [.ref 213, .int a1, .int ((24 * (s3.1 75)) + x9), .int (-1), .null, .null, .null] rfl rfl rfl ?_)
      refine Lb_w (lb_c [.int 0] (xo_push (.int 0)) rfl rfl ?_)
      refine Lb_w (lb_st [.ref 213, .int a1, .int ((24 * (s3.1 75)) + x9), .int (-1), .int 0, .null, .null] rfl rfl rfl ?_)
      exact lkl_223_39  h
    · replace h := h.2 ((i_eq (x := x5) (y := 0) rfl (show (0 : Int32).toInt = 0 by decide)).mp hc)
      refine Lb_w (lb_ld rfl rfl rfl ?_)
      refine Lb_w (lb_c [.int 6, .ref 213] (xo_push (.int 6)) rfl rfl ?_)
      refine Lb_w (lb_ld rfl rfl rfl ?_)
      refine Lb_w (lb_get rfl rfl ?_)
      change Lb _ _ _ _ _ _ _ [.ref 223, .int 6, .ref 213] _ _
      refine Lb_w (lb_ld rfl rfl rfl ?_)
      refine Lb_w (lb_ial rfl rfl (fun hk => ?_))
      change Lb _ _ _ _ _ _ _ [.int (s3.2.1 223 a1.toInt.toNat), .int 6, .ref 213] _ _
      replace h := h (kc_in (x := a1) rfl hk)
      refine Lb_w (lb_call [.ref 213, .int 6, .int (s3.2.1 223 a1.toInt.toNat)] [] rfl rfl rfl (Par.imp h (fun v12 s11 h => ?_)))
      obtain ⟨rfl, h⟩ := h
      change Lb _ _ _ _ _ _ _ [] _ _
      exact Lb_w (lb_ret0 rfl h)
  · replace h := h.2 (fun q => hc ((i_le (x := s1.1 8) (y := 0) rfl (show (0 : Int32).toInt = 0 by decide)).mpr q))
    exact Lb_w (lb_ret0 rfl h)
theorem pb_223 {d : Nat} {a1 : Int32} {s : yS} {P : Option Value → yS → Prop} (h : ub_223_0 (Par d) a1 s P) : Par (d + 1) 223 [.ref 213, .int a1] s P := par_of (E := xE_223) (ml := 5) (ret := none) rfl (fun _ => lk_223_0 h)
