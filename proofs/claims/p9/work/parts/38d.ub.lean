/-! isToldAhead -/
def ub_198_25 (T : Nat → List Value → yS → (Option Value → yS → Prop) → Prop) (R4 : Int32 → Nat → Int32 → Int32 → Int32 → Int32 → yS → Prop) (a1 : Int32) (a2 : Nat) (a3 : Int32) (a4 : Int32) (a5 : Int32) (a6 : Int32) (t0 : Int32) (s : yS) (P : Option Value → yS → Prop) : Prop :=
  ((-2147483648 ≤ a6.toInt + 1 ∧ a6.toInt + 1 ≤ 2147483647) → ∀ x1 : Int32, x1.toInt = a6.toInt + 1 → R4 a1 a2 a3 a4 t0 x1  s)
set_option maxRecDepth 20000 in
theorem lk_198_25 {d N0 : Nat} {R4 : Int32 → Nat → Int32 → Int32 → Int32 → Int32 → yS → Prop} {a1 : Int32} {a2 : Nat} {a3 : Int32} {a4 : Int32} {a5 : Int32} {a6 : Int32} {t0 : Int32} {s : yS} {P : Option Value → yS → Prop} (r4 : ∀ a1 a2 a3 a4 a5 a6 s, R4 a1 a2 a3 a4 a5 a6 s → Lb d N0 7 (some .boolean) xE_198 (xE_198.drop 4) [.ref 213, .int a1, .ref a2, .int a3, .int a4, .int a5, .int a6, .null, .null, .null, .null, .null] [] s P) (h : ub_198_25 (Par d) R4 a1 a2 a3 a4 a5 a6 t0 s P) : Lb d N0 7 (some .boolean) xE_198 (xE_198.drop 25) [.ref 213, .int a1, .ref a2, .int a3, .int a4, .int a5, .int a6, .null, .null, .null, .null, .null] [.int t0] s P := by
  unfold ub_198_25 at h
  refine Lb_w (lb_st [.ref 213, .int a1, .ref a2, .int a3, .int a4, .int t0, .int a6, .null, .null, .null, .null, .null] rfl rfl rfl ?_)
  refine Lb_w (lb_inc [.ref 213, .int a1, .ref a2, .int a3, .int a4, .int t0, .int (a6 + 1), .null, .null, .null, .null, .null] rfl rfl rfl rfl (fun hk => ?_))
  replace hk := kc_inc (x := a6) (n := 1) rfl hk
  replace h := h hk _ (i_add (x := a6) (y := 1) rfl (show (1 : Int32).toInt = 1 by decide) hk)
  refine Lb_w (lb_go rfl ?_)
  exact r4 a1 a2 a3 a4 t0 (a6 + 1)  s h
def ub_198_22 (T : Nat → List Value → yS → (Option Value → yS → Prop) → Prop) (R4 : Int32 → Nat → Int32 → Int32 → Int32 → Int32 → yS → Prop) (a1 : Int32) (a2 : Nat) (a3 : Int32) (a4 : Int32) (a5 : Int32) (a6 : Int32) (s : yS) (P : Option Value → yS → Prop) : Prop :=
  ub_198_25 T R4 a1 a2 a3 a4 a5 a6 1 s P
set_option maxRecDepth 20000 in
theorem lk_198_22 {d N0 : Nat} {R4 : Int32 → Nat → Int32 → Int32 → Int32 → Int32 → yS → Prop} {a1 : Int32} {a2 : Nat} {a3 : Int32} {a4 : Int32} {a5 : Int32} {a6 : Int32} {s : yS} {P : Option Value → yS → Prop} (r4 : ∀ a1 a2 a3 a4 a5 a6 s, R4 a1 a2 a3 a4 a5 a6 s → Lb d N0 7 (some .boolean) xE_198 (xE_198.drop 4) [.ref 213, .int a1, .ref a2, .int a3, .int a4, .int a5, .int a6, .null, .null, .null, .null, .null] [] s P) (h : ub_198_22 (Par d) R4 a1 a2 a3 a4 a5 a6 s P) : Lb d N0 7 (some .boolean) xE_198 (xE_198.drop 22) [.ref 213, .int a1, .ref a2, .int a3, .int a4, .int a5, .int a6, .null, .null, .null, .null, .null] [] s P := by
  unfold ub_198_22 at h
  refine Lb_w (lb_c [.int 1] (xo_push (.int 1)) rfl rfl ?_)
  refine Lb_w (lb_go rfl ?_)
  exact lk_198_25 r4 h
def ub_198_4 (T : Nat → List Value → yS → (Option Value → yS → Prop) → Prop) (R4 : Int32 → Nat → Int32 → Int32 → Int32 → Int32 → yS → Prop) (a1 : Int32) (a2 : Nat) (a3 : Int32) (a4 : Int32) (a5 : Int32) (a6 : Int32) (s : yS) (P : Option Value → yS → Prop) : Prop :=
  (a4.toInt ≤ a6.toInt → ((a5.toInt = 0 ∨ a5.toInt = 1) → P (some (.int a5)) s)) ∧ (¬ (a4.toInt ≤ a6.toInt) → (¬ (a5.toInt = 0) → ub_198_22 T R4 a1 a2 a3 a4 a5 a6  s P) ∧ (a5.toInt = 0 → ((-2147483648 ≤ a3.toInt + a6.toInt ∧ a3.toInt + a6.toInt ≤ 2147483647) → ∀ x1 : Int32, x1.toInt = a3.toInt + a6.toInt → ∃ n, ytab a2 = some (0, n) ∧ ((0 ≤ x1.toInt ∧ x1.toInt < (n : Int)) → ((0 ≤ (s.2.1 a2 x1.toInt.toNat).toInt ∧ (s.2.1 a2 x1.toInt.toNat).toInt < 12006) → ((0 ≤ a1.toInt ∧ a1.toInt < 12006) → (¬ ((s.2.1 217 (s.2.1 a2 x1.toInt.toNat).toInt.toNat).toInt = (s.2.1 217 a1.toInt.toNat).toInt) → ub_198_25 T R4 a1 a2 a3 a4 a5 a6 0 s P) ∧ ((s.2.1 217 (s.2.1 a2 x1.toInt.toNat).toInt.toNat).toInt = (s.2.1 217 a1.toInt.toNat).toInt → ub_198_22 T R4 a1 a2 a3 a4 a5 a6  s P)))))))
set_option maxRecDepth 20000 in
theorem lk_198_4 {d N0 : Nat} {R4 : Int32 → Nat → Int32 → Int32 → Int32 → Int32 → yS → Prop} {a1 : Int32} {a2 : Nat} {a3 : Int32} {a4 : Int32} {a5 : Int32} {a6 : Int32} {s : yS} {P : Option Value → yS → Prop} (r4 : ∀ a1 a2 a3 a4 a5 a6 s, R4 a1 a2 a3 a4 a5 a6 s → Lb d N0 7 (some .boolean) xE_198 (xE_198.drop 4) [.ref 213, .int a1, .ref a2, .int a3, .int a4, .int a5, .int a6, .null, .null, .null, .null, .null] [] s P) (h : ub_198_4 (Par d) R4 a1 a2 a3 a4 a5 a6 s P) : Lb d (N0 + 1) 7 (some .boolean) xE_198 (xE_198.drop 4) [.ref 213, .int a1, .ref a2, .int a3, .int a4, .int a5, .int a6, .null, .null, .null, .null, .null] [] s P := by
  unfold ub_198_4 at h
  refine lb_ld rfl rfl rfl ?_
  refine Lb_w (lb_ld rfl rfl rfl ?_)
  refine Lb_w (lb_brP rfl rfl ⟨fun hc => ?_, fun hc => ?_⟩)
  · replace h := h.1 ((i_le (x := a4) (y := a6) rfl rfl).mp hc)
    refine Lb_w (lb_ld rfl rfl rfl ?_)
    exact Lb_w (lb_retZ rfl (fun hk => h (kc_z (x := a5) rfl hk)))
  · replace h := h.2 (fun q => hc ((i_le (x := a4) (y := a6) rfl rfl).mpr q))
    refine Lb_w (lb_ld rfl rfl rfl ?_)
    refine Lb_w (lb_brN rfl rfl ⟨fun hc => ?_, fun hc => ?_⟩)
    · replace h := h.1 (fun q => hc ((i_eq (x := a5) (y := 0) rfl (show (0 : Int32).toInt = 0 by decide)).mpr q))
      exact lk_198_22 r4 h
    · replace h := h.2 ((i_eq (x := a5) (y := 0) rfl (show (0 : Int32).toInt = 0 by decide)).mp hc)
      refine Lb_w (lb_ld rfl rfl rfl ?_)
      refine Lb_w (lb_get rfl rfl ?_)
      change Lb _ _ _ _ _ _ _ [.ref 217] _ _
      refine Lb_w (lb_ld rfl rfl rfl ?_)
      refine Lb_w (lb_ld rfl rfl rfl ?_)
      refine Lb_w (lb_ld rfl rfl rfl ?_)
      refine Lb_w (lb_ca [.int (a3 + a6), .ref a2, .ref 217] xo_iadd rfl rfl (fun _ hk => ?_))
      replace hk := kc_add (x := a3) (y := a6) rfl rfl hk
      replace h := h hk _ (i_add (x := a3) (y := a6) rfl rfl hk)
      obtain ⟨n, hn, h⟩ := h
      refine Lb_w (lb_ial rfl hn (fun hk => ?_))
      change Lb _ _ _ _ _ _ _ [.int (s.2.1 a2 (a3 + a6).toInt.toNat), .ref 217] _ _
      replace h := h (kc_in (x := (a3 + a6)) rfl hk)
      refine Lb_w (lb_ial rfl rfl (fun hk => ?_))
      change Lb _ _ _ _ _ _ _ [.int (s.2.1 217 (s.2.1 a2 (a3 + a6).toInt.toNat).toInt.toNat)] _ _
      replace h := h (kc_in (x := s.2.1 a2 (a3 + a6).toInt.toNat) rfl hk)
      refine Lb_w (lb_ld rfl rfl rfl ?_)
      refine Lb_w (lb_get rfl rfl ?_)
      change Lb _ _ _ _ _ _ _ [.ref 217, .int (s.2.1 217 (s.2.1 a2 (a3 + a6).toInt.toNat).toInt.toNat)] _ _
      refine Lb_w (lb_ld rfl rfl rfl ?_)
      refine Lb_w (lb_ial rfl rfl (fun hk => ?_))
      change Lb _ _ _ _ _ _ _ [.int (s.2.1 217 a1.toInt.toNat), .int (s.2.1 217 (s.2.1 a2 (a3 + a6).toInt.toNat).toInt.toNat)] _ _
      replace h := h (kc_in (x := a1) rfl hk)
      refine Lb_w (lb_brN rfl rfl ⟨fun hc => ?_, fun hc => ?_⟩)
      · replace h := h.1 (fun q => hc ((i_eq (x := s.2.1 217 (s.2.1 a2 (a3 + a6).toInt.toNat).toInt.toNat) (y := s.2.1 217 a1.toInt.toNat) rfl rfl).mpr q))
        refine Lb_w (lb_c [.int 0] (xo_push (.int 0)) rfl rfl ?_)
        exact lk_198_25 r4 h
      · replace h := h.2 ((i_eq (x := s.2.1 217 (s.2.1 a2 (a3 + a6).toInt.toNat).toInt.toNat) (y := s.2.1 217 a1.toInt.toNat) rfl rfl).mp hc)
        exact lk_198_22 r4 h
def ubl_198_4 (T : Nat → List Value → yS → (Option Value → yS → Prop) → Prop)  (a1 : Int32) (a2 : Nat) (a3 : Int32) (a4 : Int32) (a5 : Int32) (a6 : Int32) (s : yS) (P : Option Value → yS → Prop) : Prop :=
  ∃ (I : Int32 → Nat → Int32 → Int32 → Int32 → Int32 → yS → Prop), I a1 a2 a3 a4 a5 a6 s ∧ ∀ (a1 : Int32) (a2 : Nat) (a3 : Int32) (a4 : Int32) (a5 : Int32) (a6 : Int32) (s : yS), I a1 a2 a3 a4 a5 a6 s → ub_198_4 T I a1 a2 a3 a4 a5 a6 s P
theorem lkl_198_4 {d N0 : Nat}  {a1 : Int32} {a2 : Nat} {a3 : Int32} {a4 : Int32} {a5 : Int32} {a6 : Int32} {s : yS} {P : Option Value → yS → Prop}  (h : ubl_198_4 (Par d)  a1 a2 a3 a4 a5 a6 s P) : Lb d N0 7 (some .boolean) xE_198 (xE_198.drop 4) [.ref 213, .int a1, .ref a2, .int a3, .int a4, .int a5, .int a6, .null, .null, .null, .null, .null] [] s P := by
  obtain ⟨I, h0, h1⟩ := h
  have key : ∀ (m : Nat), m ≤ N0 → ∀ (a1 : Int32) (a2 : Nat) (a3 : Int32) (a4 : Int32) (a5 : Int32) (a6 : Int32) (s : yS), I a1 a2 a3 a4 a5 a6 s → Lb d m 7 (some .boolean) xE_198 (xE_198.drop 4) [.ref 213, .int a1, .ref a2, .int a3, .int a4, .int a5, .int a6, .null, .null, .null, .null, .null] [] s P := by
    intro m
    induction m with
    | zero => exact fun _ a1 a2 a3 a4 a5 a6 s _ => Lb_0
    | succ m ih =>
      intro hm
      replace hm : m ≤ N0 := Nat.le_of_succ_le hm
      replace ih := ih hm
      intro a1 a2 a3 a4 a5 a6 s hI
      exact lk_198_4 ih (h1 a1 a2 a3 a4 a5 a6 s hI)
  exact key N0 (Nat.le_refl _) a1 a2 a3 a4 a5 a6 s h0
def ub_198_0 (T : Nat → List Value → yS → (Option Value → yS → Prop) → Prop)  (a1 : Int32) (a2 : Nat) (a3 : Int32) (a4 : Int32) (s : yS) (P : Option Value → yS → Prop) : Prop :=
  ubl_198_4 T  a1 a2 a3 a4 0 0  s P
set_option maxRecDepth 20000 in
theorem lk_198_0 {d N0 : Nat}  {a1 : Int32} {a2 : Nat} {a3 : Int32} {a4 : Int32} {s : yS} {P : Option Value → yS → Prop}  (h : ub_198_0 (Par d)  a1 a2 a3 a4 s P) : Lb d N0 7 (some .boolean) xE_198 (xE_198.drop 0) [.ref 213, .int a1, .ref a2, .int a3, .int a4, .null, .null, .null, .null, .null, .null, .null] [] s P := by
  unfold ub_198_0 at h
  refine Lb_w (lb_c [.int 0] (xo_push (.int 0)) rfl rfl ?_)
  refine Lb_w (lb_st [.ref 213, .int a1, .ref a2, .int a3, .int a4, .int 0, .null, .null, .null, .null, .null, .null] rfl rfl rfl ?_)
  refine Lb_w (lb_c [.int 0] (xo_push (.int 0)) rfl rfl ?_)
  refine Lb_w (lb_st [.ref 213, .int a1, .ref a2, .int a3, .int a4, .int 0, .int 0, .null, .null, .null, .null, .null] rfl rfl rfl ?_)
  exact lkl_198_4  h
theorem pb_198 {d : Nat} {a1 : Int32} {a2 : Nat} {a3 : Int32} {a4 : Int32} {s : yS} {P : Option Value → yS → Prop} (h : ub_198_0 (Par d) a1 a2 a3 a4 s P) : Par (d + 1) 198 [.ref 213, .int a1, .ref a2, .int a3, .int a4] s P := par_of (E := xE_198) (ml := 7) (ret := some .boolean) rfl (fun _ => lk_198_0 h)
/-! twice -/
def ub_199_38 (T : Nat → List Value → yS → (Option Value → yS → Prop) → Prop) (R2 : Nat → Int32 → Int32 → Int32 → Int32 → yS → Prop) (a1 : Nat) (a2 : Int32) (a3 : Int32) (a4 : Int32) (a5 : Int32) (s : yS) (P : Option Value → yS → Prop) : Prop :=
  ((-2147483648 ≤ a5.toInt + 1 ∧ a5.toInt + 1 ≤ 2147483647) → ∀ x1 : Int32, x1.toInt = a5.toInt + 1 → R2 a1 a2 a3 a4 x1  s)
set_option maxRecDepth 20000 in
theorem lk_199_38 {d N0 : Nat} {R2 : Nat → Int32 → Int32 → Int32 → Int32 → yS → Prop} {a1 : Nat} {a2 : Int32} {a3 : Int32} {a4 : Int32} {a5 : Int32} {s : yS} {P : Option Value → yS → Prop} (r2 : ∀ a1 a2 a3 a4 a5 s, R2 a1 a2 a3 a4 a5 s → Lb d N0 6 (none) xE_199 (xE_199.drop 2) [.ref 213, .ref a1, .int a2, .int a3, .int a4, .int a5, .null, .null, .null, .null, .null] [] s P) (h : ub_199_38 (Par d) R2 a1 a2 a3 a4 a5 s P) : Lb d N0 6 (none) xE_199 (xE_199.drop 38) [.ref 213, .ref a1, .int a2, .int a3, .int a4, .int a5, .null, .null, .null, .null, .null] [] s P := by
  unfold ub_199_38 at h
  refine Lb_w (lb_inc [.ref 213, .ref a1, .int a2, .int a3, .int a4, .int (a5 + 1), .null, .null, .null, .null, .null] rfl rfl rfl rfl (fun hk => ?_))
  replace hk := kc_inc (x := a5) (n := 1) rfl hk
  replace h := h hk _ (i_add (x := a5) (y := 1) rfl (show (1 : Int32).toInt = 1 by decide) hk)
  refine Lb_w (lb_go rfl ?_)
  exact r2 a1 a2 a3 a4 (a5 + 1)  s h
def ub_199_30 (T : Nat → List Value → yS → (Option Value → yS → Prop) → Prop) (R2 : Nat → Int32 → Int32 → Int32 → Int32 → yS → Prop) (a1 : Nat) (a2 : Int32) (a3 : Int32) (a4 : Int32) (a5 : Int32) (s : yS) (P : Option Value → yS → Prop) : Prop :=
  ((-2147483648 ≤ a2.toInt + a5.toInt ∧ a2.toInt + a5.toInt ≤ 2147483647) → ∀ x1 : Int32, x1.toInt = a2.toInt + a5.toInt → ∃ n, ytab a1 = some (0, n) ∧ ((0 ≤ x1.toInt ∧ x1.toInt < (n : Int)) → T 163 [.ref 213, .int 3, .int (s.2.1 a1 x1.toInt.toNat)] s (fun v3 s2 => v3 = none ∧ (ub_199_38 T R2 a1 a2 a3 a4 a5  s2 P))))
set_option maxRecDepth 20000 in
theorem lk_199_30 {d N0 : Nat} {R2 : Nat → Int32 → Int32 → Int32 → Int32 → yS → Prop} {a1 : Nat} {a2 : Int32} {a3 : Int32} {a4 : Int32} {a5 : Int32} {s : yS} {P : Option Value → yS → Prop} (r2 : ∀ a1 a2 a3 a4 a5 s, R2 a1 a2 a3 a4 a5 s → Lb d N0 6 (none) xE_199 (xE_199.drop 2) [.ref 213, .ref a1, .int a2, .int a3, .int a4, .int a5, .null, .null, .null, .null, .null] [] s P) (h : ub_199_30 (Par d) R2 a1 a2 a3 a4 a5 s P) : Lb d N0 6 (none) xE_199 (xE_199.drop 30) [.ref 213, .ref a1, .int a2, .int a3, .int a4, .int a5, .null, .null, .null, .null, .null] [] s P := by
  unfold ub_199_30 at h
  refine Lb_w (lb_ld rfl rfl rfl ?_)
  refine Lb_w (lb_c [.int 3, .ref 213] (xo_push (.int 3)) rfl rfl ?_)
  refine Lb_w (lb_ld rfl rfl rfl ?_)
  refine Lb_w (lb_ld rfl rfl rfl ?_)
  refine Lb_w (lb_ld rfl rfl rfl ?_)
  refine Lb_w (lb_ca [.int (a2 + a5), .ref a1, .int 3, .ref 213] xo_iadd rfl rfl (fun _ hk => ?_))
  replace hk := kc_add (x := a2) (y := a5) rfl rfl hk
  replace h := h hk _ (i_add (x := a2) (y := a5) rfl rfl hk)
  obtain ⟨n, hn, h⟩ := h
  refine Lb_w (lb_ial rfl hn (fun hk => ?_))
  change Lb _ _ _ _ _ _ _ [.int (s.2.1 a1 (a2 + a5).toInt.toNat), .int 3, .ref 213] _ _
  replace h := h (kc_in (x := (a2 + a5)) rfl hk)
  refine Lb_w (lb_call [.ref 213, .int 3, .int (s.2.1 a1 (a2 + a5).toInt.toNat)] [] rfl rfl rfl (Par.imp h (fun v3 s2 h => ?_)))
  obtain ⟨rfl, h⟩ := h
  change Lb _ _ _ _ _ _ _ [] _ _
  exact lk_199_38 r2 h
def ub_199_2 (T : Nat → List Value → yS → (Option Value → yS → Prop) → Prop) (R2 : Nat → Int32 → Int32 → Int32 → Int32 → yS → Prop) (a1 : Nat) (a2 : Int32) (a3 : Int32) (a4 : Int32) (a5 : Int32) (s : yS) (P : Option Value → yS → Prop) : Prop :=
  (a3.toInt ≤ a5.toInt → P none s) ∧ (¬ (a3.toInt ≤ a5.toInt) → ((-2147483648 ≤ a2.toInt + a5.toInt ∧ a2.toInt + a5.toInt ≤ 2147483647) → ∀ x1 : Int32, x1.toInt = a2.toInt + a5.toInt → ∃ n, ytab a1 = some (0, n) ∧ ((0 ≤ x1.toInt ∧ x1.toInt < (n : Int)) → T 198 [.ref 213, .int (s.2.1 a1 x1.toInt.toNat), .ref a1, .int a2, .int a5] s (fun v3 s2 => ∃ x4, v3 = some (.int x4) ∧ ((¬ (x4.toInt = 0) → ub_199_30 T R2 a1 a2 a3 a4 a5  s2 P) ∧ (x4.toInt = 0 → (a4.toInt < 0 → ub_199_38 T R2 a1 a2 a3 a4 a5  s2 P) ∧ (¬ (a4.toInt < 0) → ((-2147483648 ≤ a2.toInt + a5.toInt ∧ a2.toInt + a5.toInt ≤ 2147483647) → ∀ x5 : Int32, x5.toInt = a2.toInt + a5.toInt → ∃ n, ytab a1 = some (0, n) ∧ ((0 ≤ x5.toInt ∧ x5.toInt < (n : Int)) → ((0 ≤ (s2.2.1 a1 x5.toInt.toNat).toInt ∧ (s2.2.1 a1 x5.toInt.toNat).toInt < 12006) → T 200 [.ref 213, .int a4, .int (s2.2.1 217 (s2.2.1 a1 x5.toInt.toNat).toInt.toNat)] s2 (fun v7 s6 => ∃ x8, v7 = some (.int x8) ∧ ((x8.toInt < 0 → ub_199_38 T R2 a1 a2 a3 a4 a5  s6 P) ∧ (¬ (x8.toInt < 0) → ub_199_30 T R2 a1 a2 a3 a4 a5  s6 P)))))))))))))
set_option maxRecDepth 20000 in
theorem lk_199_2 {d N0 : Nat} {R2 : Nat → Int32 → Int32 → Int32 → Int32 → yS → Prop} {a1 : Nat} {a2 : Int32} {a3 : Int32} {a4 : Int32} {a5 : Int32} {s : yS} {P : Option Value → yS → Prop} (r2 : ∀ a1 a2 a3 a4 a5 s, R2 a1 a2 a3 a4 a5 s → Lb d N0 6 (none) xE_199 (xE_199.drop 2) [.ref 213, .ref a1, .int a2, .int a3, .int a4, .int a5, .null, .null, .null, .null, .null] [] s P) (h : ub_199_2 (Par d) R2 a1 a2 a3 a4 a5 s P) : Lb d (N0 + 1) 6 (none) xE_199 (xE_199.drop 2) [.ref 213, .ref a1, .int a2, .int a3, .int a4, .int a5, .null, .null, .null, .null, .null] [] s P := by
  unfold ub_199_2 at h
  refine lb_ld rfl rfl rfl ?_
  refine Lb_w (lb_ld rfl rfl rfl ?_)
  refine Lb_w (lb_brP rfl rfl ⟨fun hc => ?_, fun hc => ?_⟩)
  · replace h := h.1 ((i_le (x := a3) (y := a5) rfl rfl).mp hc)
    exact Lb_w (lb_ret0 rfl h)
  · replace h := h.2 (fun q => hc ((i_le (x := a3) (y := a5) rfl rfl).mpr q))
    refine Lb_w (lb_ld rfl rfl rfl ?_)
    refine Lb_w (lb_ld rfl rfl rfl ?_)
    refine Lb_w (lb_ld rfl rfl rfl ?_)
    refine Lb_w (lb_ld rfl rfl rfl ?_)
    refine Lb_w (lb_ca [.int (a2 + a5), .ref a1, .ref 213] xo_iadd rfl rfl (fun _ hk => ?_))
    replace hk := kc_add (x := a2) (y := a5) rfl rfl hk
    replace h := h hk _ (i_add (x := a2) (y := a5) rfl rfl hk)
    obtain ⟨n, hn, h⟩ := h
    refine Lb_w (lb_ial rfl hn (fun hk => ?_))
    change Lb _ _ _ _ _ _ _ [.int (s.2.1 a1 (a2 + a5).toInt.toNat), .ref 213] _ _
    replace h := h (kc_in (x := (a2 + a5)) rfl hk)
    refine Lb_w (lb_ld rfl rfl rfl ?_)
    refine Lb_w (lb_ld rfl rfl rfl ?_)
    refine Lb_w (lb_ld rfl rfl rfl ?_)
    refine Lb_w (lb_call [.ref 213, .int (s.2.1 a1 (a2 + a5).toInt.toNat), .ref a1, .int a2, .int a5] [] rfl rfl rfl (Par.imp h (fun v3 s2 h => ?_)))
    obtain ⟨x4, rfl, h⟩ := h
    change Lb _ _ _ _ _ _ _ [.int x4] _ _
    refine Lb_w (lb_brN rfl rfl ⟨fun hc => ?_, fun hc => ?_⟩)
    · replace h := h.1 (fun q => hc ((i_eq (x := x4) (y := 0) rfl (show (0 : Int32).toInt = 0 by decide)).mpr q))
      exact lk_199_30 r2 h
    · replace h := h.2 ((i_eq (x := x4) (y := 0) rfl (show (0 : Int32).toInt = 0 by decide)).mp hc)
      refine Lb_w (lb_ld rfl rfl rfl ?_)
      refine Lb_w (lb_brP rfl rfl ⟨fun hc => ?_, fun hc => ?_⟩)
      · replace h := h.1 ((i_lt (x := a4) (y := 0) rfl (show (0 : Int32).toInt = 0 by decide)).mp hc)
        exact lk_199_38 r2 h
      · replace h := h.2 (fun q => hc ((i_lt (x := a4) (y := 0) rfl (show (0 : Int32).toInt = 0 by decide)).mpr q))
        refine Lb_w (lb_ld rfl rfl rfl ?_)
        refine Lb_w (lb_ld rfl rfl rfl ?_)
        refine Lb_w (lb_ld rfl rfl rfl ?_)
        refine Lb_w (lb_get rfl rfl ?_)
        change Lb _ _ _ _ _ _ _ [.ref 217, .int a4, .ref 213] _ _
        refine Lb_w (lb_ld rfl rfl rfl ?_)
        refine Lb_w (lb_ld rfl rfl rfl ?_)
        refine Lb_w (lb_ld rfl rfl rfl ?_)
        refine Lb_w (lb_ca [.int (a2 + a5), .ref a1, .ref 217, .int a4, .ref 213] xo_iadd rfl rfl (fun _ hk => ?_))
        replace hk := kc_add (x := a2) (y := a5) rfl rfl hk
        replace h := h hk _ (i_add (x := a2) (y := a5) rfl rfl hk)
        obtain ⟨n, hn, h⟩ := h
        refine Lb_w (lb_ial rfl hn (fun hk => ?_))
        change Lb _ _ _ _ _ _ _ [.int (s2.2.1 a1 (a2 + a5).toInt.toNat), .ref 217, .int a4, .ref 213] _ _
        replace h := h (kc_in (x := (a2 + a5)) rfl hk)
        refine Lb_w (lb_ial rfl rfl (fun hk => ?_))
        change Lb _ _ _ _ _ _ _ [.int (s2.2.1 217 (s2.2.1 a1 (a2 + a5).toInt.toNat).toInt.toNat), .int a4, .ref 213] _ _
        replace h := h (kc_in (x := s2.2.1 a1 (a2 + a5).toInt.toNat) rfl hk)
        refine Lb_w (lb_call [.ref 213, .int a4, .int (s2.2.1 217 (s2.2.1 a1 (a2 + a5).toInt.toNat).toInt.toNat)] [] rfl rfl rfl (Par.imp h (fun v7 s6 h => ?_)))
        obtain ⟨x8, rfl, h⟩ := h
        change Lb _ _ _ _ _ _ _ [.int x8] _ _
        refine Lb_w (lb_brP rfl rfl ⟨fun hc => ?_, fun hc => ?_⟩)
        · replace h := h.1 ((i_lt (x := x8) (y := 0) rfl (show (0 : Int32).toInt = 0 by decide)).mp hc)
          exact lk_199_38 r2 h
        · replace h := h.2 (fun q => hc ((i_lt (x := x8) (y := 0) rfl (show (0 : Int32).toInt = 0 by decide)).mpr q))
          exact lk_199_30 r2 h
def ubl_199_2 (T : Nat → List Value → yS → (Option Value → yS → Prop) → Prop)  (a1 : Nat) (a2 : Int32) (a3 : Int32) (a4 : Int32) (a5 : Int32) (s : yS) (P : Option Value → yS → Prop) : Prop :=
  ∃ (I : Nat → Int32 → Int32 → Int32 → Int32 → yS → Prop), I a1 a2 a3 a4 a5 s ∧ ∀ (a1 : Nat) (a2 : Int32) (a3 : Int32) (a4 : Int32) (a5 : Int32) (s : yS), I a1 a2 a3 a4 a5 s → ub_199_2 T I a1 a2 a3 a4 a5 s P
theorem lkl_199_2 {d N0 : Nat}  {a1 : Nat} {a2 : Int32} {a3 : Int32} {a4 : Int32} {a5 : Int32} {s : yS} {P : Option Value → yS → Prop}  (h : ubl_199_2 (Par d)  a1 a2 a3 a4 a5 s P) : Lb d N0 6 (none) xE_199 (xE_199.drop 2) [.ref 213, .ref a1, .int a2, .int a3, .int a4, .int a5, .null, .null, .null, .null, .null] [] s P := by
  obtain ⟨I, h0, h1⟩ := h
  have key : ∀ (m : Nat), m ≤ N0 → ∀ (a1 : Nat) (a2 : Int32) (a3 : Int32) (a4 : Int32) (a5 : Int32) (s : yS), I a1 a2 a3 a4 a5 s → Lb d m 6 (none) xE_199 (xE_199.drop 2) [.ref 213, .ref a1, .int a2, .int a3, .int a4, .int a5, .null, .null, .null, .null, .null] [] s P := by
    intro m
    induction m with
    | zero => exact fun _ a1 a2 a3 a4 a5 s _ => Lb_0
    | succ m ih =>
      intro hm
      replace hm : m ≤ N0 := Nat.le_of_succ_le hm
      replace ih := ih hm
      intro a1 a2 a3 a4 a5 s hI
      exact lk_199_2 ih (h1 a1 a2 a3 a4 a5 s hI)
  exact key N0 (Nat.le_refl _) a1 a2 a3 a4 a5 s h0
def ub_199_0 (T : Nat → List Value → yS → (Option Value → yS → Prop) → Prop)  (a1 : Nat) (a2 : Int32) (a3 : Int32) (a4 : Int32) (s : yS) (P : Option Value → yS → Prop) : Prop :=
  ubl_199_2 T  a1 a2 a3 a4 0  s P
set_option maxRecDepth 20000 in
theorem lk_199_0 {d N0 : Nat}  {a1 : Nat} {a2 : Int32} {a3 : Int32} {a4 : Int32} {s : yS} {P : Option Value → yS → Prop}  (h : ub_199_0 (Par d)  a1 a2 a3 a4 s P) : Lb d N0 6 (none) xE_199 (xE_199.drop 0) [.ref 213, .ref a1, .int a2, .int a3, .int a4, .null, .null, .null, .null, .null, .null] [] s P := by
  unfold ub_199_0 at h
  refine Lb_w (lb_c [.int 0] (xo_push (.int 0)) rfl rfl ?_)
  refine Lb_w (lb_st [.ref 213, .ref a1, .int a2, .int a3, .int a4, .int 0, .null, .null, .null, .null, .null] rfl rfl rfl ?_)
  exact lkl_199_2  h
theorem pb_199 {d : Nat} {a1 : Nat} {a2 : Int32} {a3 : Int32} {a4 : Int32} {s : yS} {P : Option Value → yS → Prop} (h : ub_199_0 (Par d) a1 a2 a3 a4 s P) : Par (d + 1) 199 [.ref 213, .ref a1, .int a2, .int a3, .int a4] s P := par_of (E := xE_199) (ml := 6) (ret := none) rfl (fun _ => lk_199_0 h)
/-! paramOf -/
def ub_200_27 (T : Nat → List Value → yS → (Option Value → yS → Prop) → Prop) (R9 : Int32 → Int32 → Int32 → Int32 → yS → Prop) (a1 : Int32) (a2 : Int32) (a3 : Int32) (a4 : Int32) (t0 : Int32) (s : yS) (P : Option Value → yS → Prop) : Prop :=
  ((-2147483648 ≤ a4.toInt + (-1) ∧ a4.toInt + (-1) ≤ 2147483647) → ∀ x1 : Int32, x1.toInt = a4.toInt + (-1) → R9 a1 a2 t0 x1  s)
set_option maxRecDepth 20000 in
theorem lk_200_27 {d N0 : Nat} {R9 : Int32 → Int32 → Int32 → Int32 → yS → Prop} {a1 : Int32} {a2 : Int32} {a3 : Int32} {a4 : Int32} {t0 : Int32} {s : yS} {P : Option Value → yS → Prop} (r9 : ∀ a1 a2 a3 a4 s, R9 a1 a2 a3 a4 s → Lb d N0 5 (some .int) xE_200 (xE_200.drop 9) [.ref 213, .int a1, .int a2, .int a3, .int a4, .null, .null, .null] [] s P) (h : ub_200_27 (Par d) R9 a1 a2 a3 a4 t0 s P) : Lb d N0 5 (some .int) xE_200 (xE_200.drop 27) [.ref 213, .int a1, .int a2, .int a3, .int a4, .null, .null, .null] [.int t0] s P := by
  unfold ub_200_27 at h
  refine Lb_w (lb_st [.ref 213, .int a1, .int a2, .int t0, .int a4, .null, .null, .null] rfl rfl rfl ?_)
  refine Lb_w (lb_inc [.ref 213, .int a1, .int a2, .int t0, .int (a4 + (-1)), .null, .null, .null] rfl rfl rfl rfl (fun hk => ?_))
  replace hk := kc_inc (x := a4) (n := (-1)) rfl hk
  replace h := h hk _ (i_add (x := a4) (y := (-1)) rfl (show ((-1) : Int32).toInt = (-1) by decide) hk)
  refine Lb_w (lb_go rfl ?_)
  exact r9 a1 a2 t0 (a4 + (-1))  s h
def ub_200_9 (T : Nat → List Value → yS → (Option Value → yS → Prop) → Prop) (R9 : Int32 → Int32 → Int32 → Int32 → yS → Prop) (a1 : Int32) (a2 : Int32) (a3 : Int32) (a4 : Int32) (s : yS) (P : Option Value → yS → Prop) : Prop :=
  (a4.toInt < 0 → P (some (.int a3)) s) ∧ (¬ (a4.toInt < 0) → ((0 ≤ a1.toInt ∧ a1.toInt < 120) → ((-2147483648 ≤ 2 * a4.toInt ∧ 2 * a4.toInt ≤ 2147483647) → ∀ x1 : Int32, x1.toInt = 2 * a4.toInt → ((-2147483648 ≤ (s.2.1 256 a1.toInt.toNat).toInt + x1.toInt ∧ (s.2.1 256 a1.toInt.toNat).toInt + x1.toInt ≤ 2147483647) → ∀ x2 : Int32, x2.toInt = (s.2.1 256 a1.toInt.toNat).toInt + x1.toInt → ((0 ≤ x2.toInt ∧ x2.toInt < 12006) → (¬ ((s.2.1 217 x2.toInt.toNat).toInt = a2.toInt) → ub_200_27 T R9 a1 a2 a3 a4 a3 s P) ∧ ((s.2.1 217 x2.toInt.toNat).toInt = a2.toInt → ub_200_27 T R9 a1 a2 a3 a4 a4 s P))))))
set_option maxRecDepth 20000 in
theorem lk_200_9 {d N0 : Nat} {R9 : Int32 → Int32 → Int32 → Int32 → yS → Prop} {a1 : Int32} {a2 : Int32} {a3 : Int32} {a4 : Int32} {s : yS} {P : Option Value → yS → Prop} (r9 : ∀ a1 a2 a3 a4 s, R9 a1 a2 a3 a4 s → Lb d N0 5 (some .int) xE_200 (xE_200.drop 9) [.ref 213, .int a1, .int a2, .int a3, .int a4, .null, .null, .null] [] s P) (h : ub_200_9 (Par d) R9 a1 a2 a3 a4 s P) : Lb d (N0 + 1) 5 (some .int) xE_200 (xE_200.drop 9) [.ref 213, .int a1, .int a2, .int a3, .int a4, .null, .null, .null] [] s P := by
  unfold ub_200_9 at h
  refine lb_ld rfl rfl rfl ?_
  refine Lb_w (lb_brP rfl rfl ⟨fun hc => ?_, fun hc => ?_⟩)
  · replace h := h.1 ((i_lt (x := a4) (y := 0) rfl (show (0 : Int32).toInt = 0 by decide)).mp hc)
    refine Lb_w (lb_ld rfl rfl rfl ?_)
    exact Lb_w (lb_retI rfl h)
  · replace h := h.2 (fun q => hc ((i_lt (x := a4) (y := 0) rfl (show (0 : Int32).toInt = 0 by decide)).mpr q))
    refine Lb_w (lb_ld rfl rfl rfl ?_)
    refine Lb_w (lb_get rfl rfl ?_)
    change Lb _ _ _ _ _ _ _ [.ref 217] _ _
    refine Lb_w (lb_ld rfl rfl rfl ?_)
    refine Lb_w (lb_get rfl rfl ?_)
    change Lb _ _ _ _ _ _ _ [.ref 256, .ref 217] _ _
    refine Lb_w (lb_ld rfl rfl rfl ?_)
    refine Lb_w (lb_ial rfl rfl (fun hk => ?_))
    change Lb _ _ _ _ _ _ _ [.int (s.2.1 256 a1.toInt.toNat), .ref 217] _ _
    replace h := h (kc_in (x := a1) rfl hk)
    refine Lb_w (lb_c [.int 2, .int (s.2.1 256 a1.toInt.toNat), .ref 217] (xo_push (.int 2)) rfl rfl ?_)
    refine Lb_w (lb_ld rfl rfl rfl ?_)
    refine Lb_w (lb_ca [.int (2 * a4), .int (s.2.1 256 a1.toInt.toNat), .ref 217] xo_imul rfl rfl (fun _ hk => ?_))
    replace hk := kc_mul (x := 2) (y := a4) (show (2 : Int32).toInt = 2 by decide) rfl hk
    replace h := h hk _ (i_mul (x := 2) (y := a4) (show (2 : Int32).toInt = 2 by decide) rfl hk)
    refine Lb_w (lb_ca [.int ((s.2.1 256 a1.toInt.toNat) + (2 * a4)), .ref 217] xo_iadd rfl rfl (fun _ hk => ?_))
    replace hk := kc_add (x := s.2.1 256 a1.toInt.toNat) (y := (2 * a4)) rfl rfl hk
    replace h := h hk _ (i_add (x := s.2.1 256 a1.toInt.toNat) (y := (2 * a4)) rfl rfl hk)
    refine Lb_w (lb_ial rfl rfl (fun hk => ?_))
    change Lb _ _ _ _ _ _ _ [.int (s.2.1 217 ((s.2.1 256 a1.toInt.toNat) + (2 * a4)).toInt.toNat)] _ _
    replace h := h (kc_in (x := ((s.2.1 256 a1.toInt.toNat) + (2 * a4))) rfl hk)
    refine Lb_w (lb_ld rfl rfl rfl ?_)
    refine Lb_w (lb_brN rfl rfl ⟨fun hc => ?_, fun hc => ?_⟩)
    · replace h := h.1 (fun q => hc ((i_eq (x := s.2.1 217 ((s.2.1 256 a1.toInt.toNat) + (2 * a4)).toInt.toNat) (y := a2) rfl rfl).mpr q))
      refine Lb_w (lb_ld rfl rfl rfl ?_)
      exact lk_200_27 r9 h
    · replace h := h.2 ((i_eq (x := s.2.1 217 ((s.2.1 256 a1.toInt.toNat) + (2 * a4)).toInt.toNat) (y := a2) rfl rfl).mp hc)
      refine Lb_w (lb_ld rfl rfl rfl ?_)
      refine Lb_w (lb_go rfl ?_)
      exact lk_200_27 r9 h
def ubl_200_9 (T : Nat → List Value → yS → (Option Value → yS → Prop) → Prop)  (a1 : Int32) (a2 : Int32) (a3 : Int32) (a4 : Int32) (s : yS) (P : Option Value → yS → Prop) : Prop :=
  ∃ (I : Int32 → Int32 → Int32 → Int32 → yS → Prop), I a1 a2 a3 a4 s ∧ ∀ (a1 : Int32) (a2 : Int32) (a3 : Int32) (a4 : Int32) (s : yS), I a1 a2 a3 a4 s → ub_200_9 T I a1 a2 a3 a4 s P
theorem lkl_200_9 {d N0 : Nat}  {a1 : Int32} {a2 : Int32} {a3 : Int32} {a4 : Int32} {s : yS} {P : Option Value → yS → Prop}  (h : ubl_200_9 (Par d)  a1 a2 a3 a4 s P) : Lb d N0 5 (some .int) xE_200 (xE_200.drop 9) [.ref 213, .int a1, .int a2, .int a3, .int a4, .null, .null, .null] [] s P := by
  obtain ⟨I, h0, h1⟩ := h
  have key : ∀ (m : Nat), m ≤ N0 → ∀ (a1 : Int32) (a2 : Int32) (a3 : Int32) (a4 : Int32) (s : yS), I a1 a2 a3 a4 s → Lb d m 5 (some .int) xE_200 (xE_200.drop 9) [.ref 213, .int a1, .int a2, .int a3, .int a4, .null, .null, .null] [] s P := by
    intro m
    induction m with
    | zero => exact fun _ a1 a2 a3 a4 s _ => Lb_0
    | succ m ih =>
      intro hm
      replace hm : m ≤ N0 := Nat.le_of_succ_le hm
      replace ih := ih hm
      intro a1 a2 a3 a4 s hI
      exact lk_200_9 ih (h1 a1 a2 a3 a4 s hI)
  exact key N0 (Nat.le_refl _) a1 a2 a3 a4 s h0
def ub_200_0 (T : Nat → List Value → yS → (Option Value → yS → Prop) → Prop)  (a1 : Int32) (a2 : Int32) (s : yS) (P : Option Value → yS → Prop) : Prop :=
  ((0 ≤ a1.toInt ∧ a1.toInt < 120) → ((-2147483648 ≤ (s.2.1 255 a1.toInt.toNat).toInt - 1 ∧ (s.2.1 255 a1.toInt.toNat).toInt - 1 ≤ 2147483647) → ∀ x1 : Int32, x1.toInt = (s.2.1 255 a1.toInt.toNat).toInt - 1 → ubl_200_9 T  a1 a2 (-1) x1  s P))
set_option maxRecDepth 20000 in
theorem lk_200_0 {d N0 : Nat}  {a1 : Int32} {a2 : Int32} {s : yS} {P : Option Value → yS → Prop}  (h : ub_200_0 (Par d)  a1 a2 s P) : Lb d N0 5 (some .int) xE_200 (xE_200.drop 0) [.ref 213, .int a1, .int a2, .null, .null, .null, .null, .null] [] s P := by
  unfold ub_200_0 at h
  refine Lb_w (lb_c [.int (-1)] (xo_push (.int (-1))) rfl rfl ?_)
  refine Lb_w (lb_st [.ref 213, .int a1, .int a2, .int (-1), .null, .null, .null, .null] rfl rfl rfl ?_)
  refine Lb_w (lb_ld rfl rfl rfl ?_)
  refine Lb_w (lb_get rfl rfl ?_)
  change Lb _ _ _ _ _ _ _ [.ref 255] _ _
  refine Lb_w (lb_ld rfl rfl rfl ?_)
  refine Lb_w (lb_ial rfl rfl (fun hk => ?_))
  change Lb _ _ _ _ _ _ _ [.int (s.2.1 255 a1.toInt.toNat)] _ _
  replace h := h (kc_in (x := a1) rfl hk)
  refine Lb_w (lb_c [.int 1, .int (s.2.1 255 a1.toInt.toNat)] (xo_push (.int 1)) rfl rfl ?_)
  refine Lb_w (lb_ca [.int ((s.2.1 255 a1.toInt.toNat) - 1)] xo_isub rfl rfl (fun _ hk => ?_))
  replace hk := kc_sub (x := s.2.1 255 a1.toInt.toNat) (y := 1) rfl (show (1 : Int32).toInt = 1 by decide) hk
  replace h := h hk _ (i_sub (x := s.2.1 255 a1.toInt.toNat) (y := 1) rfl (show (1 : Int32).toInt = 1 by decide) hk)
  refine Lb_w (lb_st [.ref 213, .int a1, .int a2, .int (-1), .int ((s.2.1 255 a1.toInt.toNat) - 1), .null, .null, .null] rfl rfl rfl ?_)
  exact lkl_200_9  h
theorem pb_200 {d : Nat} {a1 : Int32} {a2 : Int32} {s : yS} {P : Option Value → yS → Prop} (h : ub_200_0 (Par d) a1 a2 s P) : Par (d + 1) 200 [.ref 213, .int a1, .int a2] s P := par_of (E := xE_200) (ml := 5) (ret := some .int) rfl (fun _ => lk_200_0 h)
/-! namesOfType -/
def ub_201_91 (T : Nat → List Value → yS → (Option Value → yS → Prop) → Prop) (R54 : Int32 → Int32 → Int32 → yS → Prop) (a1 : Int32) (a2 : Int32) (a3 : Int32) (s : yS) (P : Option Value → yS → Prop) : Prop :=
  ((-2147483648 ≤ 6 * a3.toInt ∧ 6 * a3.toInt ≤ 2147483647) → ∀ x1 : Int32, x1.toInt = 6 * a3.toInt → ((0 ≤ a3.toInt ∧ a3.toInt < 408) → T 199 [.ref 213, .ref 246, .int x1, .int (s.2.1 245 a3.toInt.toNat), .int (-1)] s (fun v3 s2 => v3 = none ∧ (((-2147483648 ≤ a3.toInt + 1 ∧ a3.toInt + 1 ≤ 2147483647) → ∀ x4 : Int32, x4.toInt = a3.toInt + 1 → R54 a1 a2 x4  s2)))))
set_option maxRecDepth 20000 in
theorem lk_201_91 {d N0 : Nat} {R54 : Int32 → Int32 → Int32 → yS → Prop} {a1 : Int32} {a2 : Int32} {a3 : Int32} {s : yS} {P : Option Value → yS → Prop} (r54 : ∀ a1 a2 a3 s, R54 a1 a2 a3 s → Lb d N0 4 (none) xE_201 (xE_201.drop 54) [.ref 213, .int a1, .int a2, .int a3, .null, .null] [] s P) (h : ub_201_91 (Par d) R54 a1 a2 a3 s P) : Lb d N0 4 (none) xE_201 (xE_201.drop 91) [.ref 213, .int a1, .int a2, .int a3, .null, .null] [] s P := by
  unfold ub_201_91 at h
  refine Lb_w (lb_ld rfl rfl rfl ?_)
  refine Lb_w (lb_ld rfl rfl rfl ?_)
  refine Lb_w (lb_get rfl rfl ?_)
  change Lb _ _ _ _ _ _ _ [.ref 246, .ref 213] _ _
  refine Lb_w (lb_c [.int 6, .ref 246, .ref 213] (xo_push (.int 6)) rfl rfl ?_)
  refine Lb_w (lb_ld rfl rfl rfl ?_)
  refine Lb_w (lb_ca [.int (6 * a3), .ref 246, .ref 213] xo_imul rfl rfl (fun _ hk => ?_))
  replace hk := kc_mul (x := 6) (y := a3) (show (6 : Int32).toInt = 6 by decide) rfl hk
  replace h := h hk _ (i_mul (x := 6) (y := a3) (show (6 : Int32).toInt = 6 by decide) rfl hk)
  refine Lb_w (lb_ld rfl rfl rfl ?_)
  refine Lb_w (lb_get rfl rfl ?_)
  change Lb _ _ _ _ _ _ _ [.ref 245, .int (6 * a3), .ref 246, .ref 213] _ _
  refine Lb_w (lb_ld rfl rfl rfl ?_)
  refine Lb_w (lb_ial rfl rfl (fun hk => ?_))
  change Lb _ _ _ _ _ _ _ [.int (s.2.1 245 a3.toInt.toNat), .int (6 * a3), .ref 246, .ref 213] _ _
  replace h := h (kc_in (x := a3) rfl hk)
  refine Lb_w (lb_c [.int (-1), .int (s.2.1 245 a3.toInt.toNat), .int (6 * a3), .ref 246, .ref 213] (xo_push (.int (-1))) rfl rfl ?_)
  refine Lb_w (lb_call [.ref 213, .ref 246, .int (6 * a3), .int (s.2.1 245 a3.toInt.toNat), .int (-1)] [] rfl rfl rfl (Par.imp h (fun v3 s2 h => ?_)))
  obtain ⟨rfl, h⟩ := h
  change Lb _ _ _ _ _ _ _ [] _ _
  refine Lb_w (lb_inc [.ref 213, .int a1, .int a2, .int (a3 + 1), .null, .null] rfl rfl rfl rfl (fun hk => ?_))
  replace hk := kc_inc (x := a3) (n := 1) rfl hk
  replace h := h hk _ (i_add (x := a3) (y := 1) rfl (show (1 : Int32).toInt = 1 by decide) hk)
  refine Lb_w (lb_go rfl ?_)
  exact r54 a1 a2 (a3 + 1)  s2 h
def ub_201_54 (T : Nat → List Value → yS → (Option Value → yS → Prop) → Prop) (R54 : Int32 → Int32 → Int32 → yS → Prop) (a1 : Int32) (a2 : Int32) (a3 : Int32) (s : yS) (P : Option Value → yS → Prop) : Prop :=
  ((0 ≤ a1.toInt ∧ a1.toInt < 48) → ((0 ≤ a1.toInt ∧ a1.toInt < 48) → ((-2147483648 ≤ (s.2.1 242 a1.toInt.toNat).toInt + (s.2.1 243 a1.toInt.toNat).toInt ∧ (s.2.1 242 a1.toInt.toNat).toInt + (s.2.1 243 a1.toInt.toNat).toInt ≤ 2147483647) → ∀ x1 : Int32, x1.toInt = (s.2.1 242 a1.toInt.toNat).toInt + (s.2.1 243 a1.toInt.toNat).toInt → (x1.toInt ≤ a3.toInt → P none s) ∧ (¬ (x1.toInt ≤ a3.toInt) → ((0 ≤ a3.toInt ∧ a3.toInt < 408) → ((0 ≤ a1.toInt ∧ a1.toInt < 48) → ((0 ≤ a1.toInt ∧ a1.toInt < 48) → ((-2147483648 ≤ a3.toInt - (s.2.1 242 a1.toInt.toNat).toInt ∧ a3.toInt - (s.2.1 242 a1.toInt.toNat).toInt ≤ 2147483647) → ∀ x2 : Int32, x2.toInt = a3.toInt - (s.2.1 242 a1.toInt.toNat).toInt → T 198 [.ref 213, .int (s.2.1 244 a3.toInt.toNat), .ref 244, .int (s.2.1 242 a1.toInt.toNat), .int x2] s (fun v4 s3 => ∃ x5, v4 = some (.int x5) ∧ ((x5.toInt = 0 → ub_201_91 T R54 a1 a2 a3  s3 P) ∧ (¬ (x5.toInt = 0) → ((0 ≤ a3.toInt ∧ a3.toInt < 408) → T 163 [.ref 213, .int 3, .int (s3.2.1 244 a3.toInt.toNat)] s3 (fun v7 s6 => v7 = none ∧ (ub_201_91 T R54 a1 a2 a3  s6 P))))))))))))))
set_option maxRecDepth 20000 in
theorem lk_201_54 {d N0 : Nat} {R54 : Int32 → Int32 → Int32 → yS → Prop} {a1 : Int32} {a2 : Int32} {a3 : Int32} {s : yS} {P : Option Value → yS → Prop} (r54 : ∀ a1 a2 a3 s, R54 a1 a2 a3 s → Lb d N0 4 (none) xE_201 (xE_201.drop 54) [.ref 213, .int a1, .int a2, .int a3, .null, .null] [] s P) (h : ub_201_54 (Par d) R54 a1 a2 a3 s P) : Lb d (N0 + 1) 4 (none) xE_201 (xE_201.drop 54) [.ref 213, .int a1, .int a2, .int a3, .null, .null] [] s P := by
  unfold ub_201_54 at h
  refine lb_ld rfl rfl rfl ?_
  refine Lb_w (lb_ld rfl rfl rfl ?_)
  refine Lb_w (lb_get rfl rfl ?_)
  change Lb _ _ _ _ _ _ _ [.ref 242, .int a3] _ _
  refine Lb_w (lb_ld rfl rfl rfl ?_)
  refine Lb_w (lb_ial rfl rfl (fun hk => ?_))
  change Lb _ _ _ _ _ _ _ [.int (s.2.1 242 a1.toInt.toNat), .int a3] _ _
  replace h := h (kc_in (x := a1) rfl hk)
  refine Lb_w (lb_ld rfl rfl rfl ?_)
  refine Lb_w (lb_get rfl rfl ?_)
  change Lb _ _ _ _ _ _ _ [.ref 243, .int (s.2.1 242 a1.toInt.toNat), .int a3] _ _
  refine Lb_w (lb_ld rfl rfl rfl ?_)
  refine Lb_w (lb_ial rfl rfl (fun hk => ?_))
  change Lb _ _ _ _ _ _ _ [.int (s.2.1 243 a1.toInt.toNat), .int (s.2.1 242 a1.toInt.toNat), .int a3] _ _
  replace h := h (kc_in (x := a1) rfl hk)
  refine Lb_w (lb_ca [.int ((s.2.1 242 a1.toInt.toNat) + (s.2.1 243 a1.toInt.toNat)), .int a3] xo_iadd rfl rfl (fun _ hk => ?_))
  replace hk := kc_add (x := s.2.1 242 a1.toInt.toNat) (y := s.2.1 243 a1.toInt.toNat) rfl rfl hk
  replace h := h hk _ (i_add (x := s.2.1 242 a1.toInt.toNat) (y := s.2.1 243 a1.toInt.toNat) rfl rfl hk)
  refine Lb_w (lb_brP rfl rfl ⟨fun hc => ?_, fun hc => ?_⟩)
  · replace h := h.1 ((i_le (x := ((s.2.1 242 a1.toInt.toNat) + (s.2.1 243 a1.toInt.toNat))) (y := a3) rfl rfl).mp hc)
    exact Lb_w (lb_ret0 rfl h)
  · replace h := h.2 (fun q => hc ((i_le (x := ((s.2.1 242 a1.toInt.toNat) + (s.2.1 243 a1.toInt.toNat))) (y := a3) rfl rfl).mpr q))
    refine Lb_w (lb_ld rfl rfl rfl ?_)
    refine Lb_w (lb_ld rfl rfl rfl ?_)
    refine Lb_w (lb_get rfl rfl ?_)
    change Lb _ _ _ _ _ _ _ [.ref 244, .ref 213] _ _
    refine Lb_w (lb_ld rfl rfl rfl ?_)
    refine Lb_w (lb_ial rfl rfl (fun hk => ?_))
    change Lb _ _ _ _ _ _ _ [.int (s.2.1 244 a3.toInt.toNat), .ref 213] _ _
    replace h := h (kc_in (x := a3) rfl hk)
    refine Lb_w (lb_ld rfl rfl rfl ?_)
    refine Lb_w (lb_get rfl rfl ?_)
    change Lb _ _ _ _ _ _ _ [.ref 244, .int (s.2.1 244 a3.toInt.toNat), .ref 213] _ _
    refine Lb_w (lb_ld rfl rfl rfl ?_)
    refine Lb_w (lb_get rfl rfl ?_)
    change Lb _ _ _ _ _ _ _ [.ref 242, .ref 244, .int (s.2.1 244 a3.toInt.toNat), .ref 213] _ _
    refine Lb_w (lb_ld rfl rfl rfl ?_)
    refine Lb_w (lb_ial rfl rfl (fun hk => ?_))
    change Lb _ _ _ _ _ _ _ [.int (s.2.1 242 a1.toInt.toNat), .ref 244, .int (s.2.1 244 a3.toInt.toNat), .ref 213] _ _
    replace h := h (kc_in (x := a1) rfl hk)
    refine Lb_w (lb_ld rfl rfl rfl ?_)
    refine Lb_w (lb_ld rfl rfl rfl ?_)
    refine Lb_w (lb_get rfl rfl ?_)
    change Lb _ _ _ _ _ _ _ [.ref 242, .int a3, .int (s.2.1 242 a1.toInt.toNat), .ref 244, .int (s.2.1 244 a3.toInt.toNat), .ref 213] _ _
    refine Lb_w (lb_ld rfl rfl rfl ?_)
    refine Lb_w (lb_ial rfl rfl (fun hk => ?_))
    change Lb _ _ _ _ _ _ _ [.int (s.2.1 242 a1.toInt.toNat), .int a3, .int (s.2.1 242 a1.toInt.toNat), .ref 244, .int (s.2.1 244 a3.toInt.toNat), .ref 213] _ _
    replace h := h (kc_in (x := a1) rfl hk)
    refine Lb_w (lb_ca [.int (a3 - (s.2.1 242 a1.toInt.toNat)), .int (s.2.1 242 a1.toInt.toNat), .ref 244, .int (s.2.1 244 a3.toInt.toNat), .ref 213] xo_isub rfl rfl (fun _ hk => ?_))
    replace hk := kc_sub (x := a3) (y := s.2.1 242 a1.toInt.toNat) rfl rfl hk
    replace h := h hk _ (i_sub (x := a3) (y := s.2.1 242 a1.toInt.toNat) rfl rfl hk)
    refine Lb_w (lb_call [.ref 213, .int (s.2.1 244 a3.toInt.toNat), .ref 244, .int (s.2.1 242 a1.toInt.toNat), .int (a3 - (s.2.1 242 a1.toInt.toNat))] [] rfl rfl rfl (Par.imp h (fun v4 s3 h => ?_)))
    obtain ⟨x5, rfl, h⟩ := h
    change Lb _ _ _ _ _ _ _ [.int x5] _ _
    refine Lb_w (lb_brP rfl rfl ⟨fun hc => ?_, fun hc => ?_⟩)
    · replace h := h.1 ((i_eq (x := x5) (y := 0) rfl (show (0 : Int32).toInt = 0 by decide)).mp hc)
      exact lk_201_91 r54 h
    · replace h := h.2 (fun q => hc ((i_eq (x := x5) (y := 0) rfl (show (0 : Int32).toInt = 0 by decide)).mpr q))
      refine Lb_w (lb_ld rfl rfl rfl ?_)
      refine Lb_w (lb_c [.int 3, .ref 213] (xo_push (.int 3)) rfl rfl ?_)
      refine Lb_w (lb_ld rfl rfl rfl ?_)
      refine Lb_w (lb_get rfl rfl ?_)
      change Lb _ _ _ _ _ _ _ [.ref 244, .int 3, .ref 213] _ _
      refine Lb_w (lb_ld rfl rfl rfl ?_)
      refine Lb_w (lb_ial rfl rfl (fun hk => ?_))
      change Lb _ _ _ _ _ _ _ [.int (s3.2.1 244 a3.toInt.toNat), .int 3, .ref 213] _ _
      replace h := h (kc_in (x := a3) rfl hk)
      refine Lb_w (lb_call [.ref 213, .int 3, .int (s3.2.1 244 a3.toInt.toNat)] [] rfl rfl rfl (Par.imp h (fun v7 s6 h => ?_)))
      obtain ⟨rfl, h⟩ := h
      change Lb _ _ _ _ _ _ _ [] _ _
      exact lk_201_91 r54 h
def ubl_201_54 (T : Nat → List Value → yS → (Option Value → yS → Prop) → Prop)  (a1 : Int32) (a2 : Int32) (a3 : Int32) (s : yS) (P : Option Value → yS → Prop) : Prop :=
  ∃ (I : Int32 → Int32 → Int32 → yS → Prop), I a1 a2 a3 s ∧ ∀ (a1 : Int32) (a2 : Int32) (a3 : Int32) (s : yS), I a1 a2 a3 s → ub_201_54 T I a1 a2 a3 s P
theorem lkl_201_54 {d N0 : Nat}  {a1 : Int32} {a2 : Int32} {a3 : Int32} {s : yS} {P : Option Value → yS → Prop}  (h : ubl_201_54 (Par d)  a1 a2 a3 s P) : Lb d N0 4 (none) xE_201 (xE_201.drop 54) [.ref 213, .int a1, .int a2, .int a3, .null, .null] [] s P := by
  obtain ⟨I, h0, h1⟩ := h
  have key : ∀ (m : Nat), m ≤ N0 → ∀ (a1 : Int32) (a2 : Int32) (a3 : Int32) (s : yS), I a1 a2 a3 s → Lb d m 4 (none) xE_201 (xE_201.drop 54) [.ref 213, .int a1, .int a2, .int a3, .null, .null] [] s P := by
    intro m
    induction m with
    | zero => exact fun _ a1 a2 a3 s _ => Lb_0
    | succ m ih =>
      intro hm
      replace hm : m ≤ N0 := Nat.le_of_succ_le hm
      replace ih := ih hm
      intro a1 a2 a3 s hI
      exact lk_201_54 ih (h1 a1 a2 a3 s hI)
  exact key N0 (Nat.le_refl _) a1 a2 a3 s h0
def ub_201_25 (T : Nat → List Value → yS → (Option Value → yS → Prop) → Prop)  (a1 : Int32) (a2 : Int32) (s : yS) (P : Option Value → yS → Prop) : Prop :=
  ((-2147483648 ≤ 6 * a1.toInt ∧ 6 * a1.toInt ≤ 2147483647) → ∀ x1 : Int32, x1.toInt = 6 * a1.toInt → ((0 ≤ a1.toInt ∧ a1.toInt < 48) → T 199 [.ref 213, .ref 237, .int x1, .int (s.2.1 236 a1.toInt.toNat), .int (-1)] s (fun v3 s2 => v3 = none ∧ (((-2147483648 ≤ 6 * a1.toInt ∧ 6 * a1.toInt ≤ 2147483647) → ∀ x4 : Int32, x4.toInt = 6 * a1.toInt → ((0 ≤ a1.toInt ∧ a1.toInt < 48) → T 199 [.ref 213, .ref 240, .int x4, .int (s2.2.1 239 a1.toInt.toNat), .int (-1)] s2 (fun v6 s5 => v6 = none ∧ (((0 ≤ a1.toInt ∧ a1.toInt < 48) → ubl_201_54 T  a1 a2 (s5.2.1 242 a1.toInt.toNat)  s5 P)))))))))
set_option maxRecDepth 20000 in
theorem lk_201_25 {d N0 : Nat}  {a1 : Int32} {a2 : Int32} {s : yS} {P : Option Value → yS → Prop}  (h : ub_201_25 (Par d)  a1 a2 s P) : Lb d N0 4 (none) xE_201 (xE_201.drop 25) [.ref 213, .int a1, .int a2, .null, .null, .null] [] s P := by
  unfold ub_201_25 at h
  refine Lb_w (lb_ld rfl rfl rfl ?_)
  refine Lb_w (lb_ld rfl rfl rfl ?_)
  refine Lb_w (lb_get rfl rfl ?_)
  change Lb _ _ _ _ _ _ _ [.ref 237, .ref 213] _ _
  refine Lb_w (lb_c [.int 6, .ref 237, .ref 213] (xo_push (.int 6)) rfl rfl ?_)
  refine Lb_w (lb_ld rfl rfl rfl ?_)
  refine Lb_w (lb_ca [.int (6 * a1), .ref 237, .ref 213] xo_imul rfl rfl (fun _ hk => ?_))
  replace hk := kc_mul (x := 6) (y := a1) (show (6 : Int32).toInt = 6 by decide) rfl hk
  replace h := h hk _ (i_mul (x := 6) (y := a1) (show (6 : Int32).toInt = 6 by decide) rfl hk)
  refine Lb_w (lb_ld rfl rfl rfl ?_)
  refine Lb_w (lb_get rfl rfl ?_)
  change Lb _ _ _ _ _ _ _ [.ref 236, .int (6 * a1), .ref 237, .ref 213] _ _
  refine Lb_w (lb_ld rfl rfl rfl ?_)
  refine Lb_w (lb_ial rfl rfl (fun hk => ?_))
  change Lb _ _ _ _ _ _ _ [.int (s.2.1 236 a1.toInt.toNat), .int (6 * a1), .ref 237, .ref 213] _ _
  replace h := h (kc_in (x := a1) rfl hk)
  refine Lb_w (lb_c [.int (-1), .int (s.2.1 236 a1.toInt.toNat), .int (6 * a1), .ref 237, .ref 213] (xo_push (.int (-1))) rfl rfl ?_)
  refine Lb_w (lb_call [.ref 213, .ref 237, .int (6 * a1), .int (s.2.1 236 a1.toInt.toNat), .int (-1)] [] rfl rfl rfl (Par.imp h (fun v3 s2 h => ?_)))
  obtain ⟨rfl, h⟩ := h
  change Lb _ _ _ _ _ _ _ [] _ _
  refine Lb_w (lb_ld rfl rfl rfl ?_)
  refine Lb_w (lb_ld rfl rfl rfl ?_)
  refine Lb_w (lb_get rfl rfl ?_)
  change Lb _ _ _ _ _ _ _ [.ref 240, .ref 213] _ _
  refine Lb_w (lb_c [.int 6, .ref 240, .ref 213] (xo_push (.int 6)) rfl rfl ?_)
  refine Lb_w (lb_ld rfl rfl rfl ?_)
  refine Lb_w (lb_ca [.int (6 * a1), .ref 240, .ref 213] xo_imul rfl rfl (fun _ hk => ?_))
  replace hk := kc_mul (x := 6) (y := a1) (show (6 : Int32).toInt = 6 by decide) rfl hk
  replace h := h hk _ (i_mul (x := 6) (y := a1) (show (6 : Int32).toInt = 6 by decide) rfl hk)
  refine Lb_w (lb_ld rfl rfl rfl ?_)
  refine Lb_w (lb_get rfl rfl ?_)
  change Lb _ _ _ _ _ _ _ [.ref 239, .int (6 * a1), .ref 240, .ref 213] _ _
  refine Lb_w (lb_ld rfl rfl rfl ?_)
  refine Lb_w (lb_ial rfl rfl (fun hk => ?_))
  change Lb _ _ _ _ _ _ _ [.int (s2.2.1 239 a1.toInt.toNat), .int (6 * a1), .ref 240, .ref 213] _ _
  replace h := h (kc_in (x := a1) rfl hk)
  refine Lb_w (lb_c [.int (-1), .int (s2.2.1 239 a1.toInt.toNat), .int (6 * a1), .ref 240, .ref 213] (xo_push (.int (-1))) rfl rfl ?_)
  refine Lb_w (lb_call [.ref 213, .ref 240, .int (6 * a1), .int (s2.2.1 239 a1.toInt.toNat), .int (-1)] [] rfl rfl rfl (Par.imp h (fun v6 s5 h => ?_)))
  obtain ⟨rfl, h⟩ := h
  change Lb _ _ _ _ _ _ _ [] _ _
  refine Lb_w (lb_ld rfl rfl rfl ?_)
  refine Lb_w (lb_get rfl rfl ?_)
  change Lb _ _ _ _ _ _ _ [.ref 242] _ _
  refine Lb_w (lb_ld rfl rfl rfl ?_)
  refine Lb_w (lb_ial rfl rfl (fun hk => ?_))
  change Lb _ _ _ _ _ _ _ [.int (s5.2.1 242 a1.toInt.toNat)] _ _
  replace h := h (kc_in (x := a1) rfl hk)
  refine Lb_w (lb_st [.ref 213, .int a1, .int a2, .int (s5.2.1 242 a1.toInt.toNat), .null, .null] rfl rfl rfl ?_)
  exact lkl_201_54  h
def ub_201_0 (T : Nat → List Value → yS → (Option Value → yS → Prop) → Prop)  (a1 : Int32) (s : yS) (P : Option Value → yS → Prop) : Prop :=
  ((-2147483648 ≤ 24 * (s.1 30).toInt ∧ 24 * (s.1 30).toInt ≤ 2147483647) → ∀ x1 : Int32, x1.toInt = 24 * (s.1 30).toInt → ((0 ≤ a1.toInt ∧ a1.toInt < 48) → ((-2147483648 ≤ a1.toInt - x1.toInt ∧ a1.toInt - x1.toInt ≤ 2147483647) → ∀ x2 : Int32, x2.toInt = a1.toInt - x1.toInt → T 198 [.ref 213, .int (s.2.1 234 a1.toInt.toNat), .ref 234, .int x1, .int x2] s (fun v4 s3 => ∃ x5, v4 = some (.int x5) ∧ ((x5.toInt = 0 → ub_201_25 T  a1 x1  s3 P) ∧ (¬ (x5.toInt = 0) → ((0 ≤ a1.toInt ∧ a1.toInt < 48) → T 163 [.ref 213, .int 3, .int (s3.2.1 234 a1.toInt.toNat)] s3 (fun v7 s6 => v7 = none ∧ (ub_201_25 T  a1 x1  s6 P)))))))))
set_option maxRecDepth 20000 in
theorem lk_201_0 {d N0 : Nat}  {a1 : Int32} {s : yS} {P : Option Value → yS → Prop}  (h : ub_201_0 (Par d)  a1 s P) : Lb d N0 4 (none) xE_201 (xE_201.drop 0) [.ref 213, .int a1, .null, .null, .null, .null] [] s P := by
  unfold ub_201_0 at h
  refine Lb_w (lb_c [.int 24] (xo_push (.int 24)) rfl rfl ?_)
  refine Lb_w (lb_ld rfl rfl rfl ?_)
  refine Lb_w (lb_get rfl rfl ?_)
  change Lb _ _ _ _ _ _ _ [.int (s.1 30), .int 24] _ _
  refine Lb_w (lb_ca [.int (24 * (s.1 30))] xo_imul rfl rfl (fun _ hk => ?_))
  replace hk := kc_mul (x := 24) (y := s.1 30) (show (24 : Int32).toInt = 24 by decide) rfl hk
  replace h := h hk _ (i_mul (x := 24) (y := s.1 30) (show (24 : Int32).toInt = 24 by decide) rfl hk)
  refine Lb_w (lb_st [.ref 213, .int a1, .int (24 * (s.1 30)), .null, .null, .null] rfl rfl rfl ?_)
  refine Lb_w (lb_ld rfl rfl rfl ?_)
  refine Lb_w (lb_ld rfl rfl rfl ?_)
  refine Lb_w (lb_get rfl rfl ?_)
  change Lb _ _ _ _ _ _ _ [.ref 234, .ref 213] _ _
  refine Lb_w (lb_ld rfl rfl rfl ?_)
  refine Lb_w (lb_ial rfl rfl (fun hk => ?_))
  change Lb _ _ _ _ _ _ _ [.int (s.2.1 234 a1.toInt.toNat), .ref 213] _ _
  replace h := h (kc_in (x := a1) rfl hk)
  refine Lb_w (lb_ld rfl rfl rfl ?_)
  refine Lb_w (lb_get rfl rfl ?_)
  change Lb _ _ _ _ _ _ _ [.ref 234, .int (s.2.1 234 a1.toInt.toNat), .ref 213] _ _
  refine Lb_w (lb_ld rfl rfl rfl ?_)
  refine Lb_w (lb_ld rfl rfl rfl ?_)
  refine Lb_w (lb_ld rfl rfl rfl ?_)
  refine Lb_w (lb_ca [.int (a1 - (24 * (s.1 30))), .int (24 * (s.1 30)), .ref 234, .int (s.2.1 234 a1.toInt.toNat), .ref 213] xo_isub rfl rfl (fun _ hk => ?_))
  replace hk := kc_sub (x := a1) (y := (24 * (s.1 30))) rfl rfl hk
  replace h := h hk _ (i_sub (x := a1) (y := (24 * (s.1 30))) rfl rfl hk)
  refine Lb_w (lb_call [.ref 213, .int (s.2.1 234 a1.toInt.toNat), .ref 234, .int (24 * (s.1 30)), .int (a1 - (24 * (s.1 30)))] [] rfl rfl rfl (Par.imp h (fun v4 s3 h => ?_)))
  obtain ⟨x5, rfl, h⟩ := h
  change Lb _ _ _ _ _ _ _ [.int x5] _ _
  refine Lb_w (lb_brP rfl rfl ⟨fun hc => ?_, fun hc => ?_⟩)
  · replace h := h.1 ((i_eq (x := x5) (y := 0) rfl (show (0 : Int32).toInt = 0 by decide)).mp hc)
    exact lk_201_25  h
  · replace h := h.2 (fun q => hc ((i_eq (x := x5) (y := 0) rfl (show (0 : Int32).toInt = 0 by decide)).mpr q))
    refine Lb_w (lb_ld rfl rfl rfl ?_)
    refine Lb_w (lb_c [.int 3, .ref 213] (xo_push (.int 3)) rfl rfl ?_)
    refine Lb_w (lb_ld rfl rfl rfl ?_)
    refine Lb_w (lb_get rfl rfl ?_)
    change Lb _ _ _ _ _ _ _ [.ref 234, .int 3, .ref 213] _ _
    refine Lb_w (lb_ld rfl rfl rfl ?_)
    refine Lb_w (lb_ial rfl rfl (fun hk => ?_))
    change Lb _ _ _ _ _ _ _ [.int (s3.2.1 234 a1.toInt.toNat), .int 3, .ref 213] _ _
    replace h := h (kc_in (x := a1) rfl hk)
    refine Lb_w (lb_call [.ref 213, .int 3, .int (s3.2.1 234 a1.toInt.toNat)] [] rfl rfl rfl (Par.imp h (fun v7 s6 h => ?_)))
    obtain ⟨rfl, h⟩ := h
    change Lb _ _ _ _ _ _ _ [] _ _
    exact lk_201_25  h
theorem pb_201 {d : Nat} {a1 : Int32} {s : yS} {P : Option Value → yS → Prop} (h : ub_201_0 (Par d) a1 s P) : Par (d + 1) 201 [.ref 213, .int a1] s P := par_of (E := xE_201) (ml := 4) (ret := none) rfl (fun _ => lk_201_0 h)
/-! namesOfFunc -/
def ub_202_173 (T : Nat → List Value → yS → (Option Value → yS → Prop) → Prop) (R120 : Int32 → Int32 → Int32 → yS → Prop) (a1 : Int32) (a2 : Int32) (a3 : Int32) (s : yS) (P : Option Value → yS → Prop) : Prop :=
  ((-2147483648 ≤ a3.toInt + 1 ∧ a3.toInt + 1 ≤ 2147483647) → ∀ x1 : Int32, x1.toInt = a3.toInt + 1 → R120 a1 a2 x1  s)
set_option maxRecDepth 20000 in
theorem lk_202_173 {d N0 : Nat} {R120 : Int32 → Int32 → Int32 → yS → Prop} {a1 : Int32} {a2 : Int32} {a3 : Int32} {s : yS} {P : Option Value → yS → Prop} (r120 : ∀ a1 a2 a3 s, R120 a1 a2 a3 s → Lb d N0 4 (none) xE_202 (xE_202.drop 120) [.ref 213, .int a1, .int a2, .int a3, .null, .null] [] s P) (h : ub_202_173 (Par d) R120 a1 a2 a3 s P) : Lb d N0 4 (none) xE_202 (xE_202.drop 173) [.ref 213, .int a1, .int a2, .int a3, .null, .null] [] s P := by
  unfold ub_202_173 at h
  refine Lb_w (lb_inc [.ref 213, .int a1, .int a2, .int (a3 + 1), .null, .null] rfl rfl rfl rfl (fun hk => ?_))
  replace hk := kc_inc (x := a3) (n := 1) rfl hk
  replace h := h hk _ (i_add (x := a3) (y := 1) rfl (show (1 : Int32).toInt = 1 by decide) hk)
  refine Lb_w (lb_go rfl ?_)
  exact r120 a1 a2 (a3 + 1)  s h
def ub_202_162 (T : Nat → List Value → yS → (Option Value → yS → Prop) → Prop) (R120 : Int32 → Int32 → Int32 → yS → Prop) (a1 : Int32) (a2 : Int32) (a3 : Int32) (s : yS) (P : Option Value → yS → Prop) : Prop :=
  ((-2147483648 ≤ 6 * a2.toInt ∧ 6 * a2.toInt ≤ 2147483647) → ∀ x1 : Int32, x1.toInt = 6 * a2.toInt → ((-2147483648 ≤ x1.toInt + a3.toInt ∧ x1.toInt + a3.toInt ≤ 2147483647) → ∀ x2 : Int32, x2.toInt = x1.toInt + a3.toInt → ((0 ≤ x2.toInt ∧ x2.toInt < 2448) → T 163 [.ref 213, .int 3, .int (s.2.1 249 x2.toInt.toNat)] s (fun v4 s3 => v4 = none ∧ (ub_202_173 T R120 a1 a2 a3  s3 P)))))
set_option maxRecDepth 20000 in
theorem lk_202_162 {d N0 : Nat} {R120 : Int32 → Int32 → Int32 → yS → Prop} {a1 : Int32} {a2 : Int32} {a3 : Int32} {s : yS} {P : Option Value → yS → Prop} (r120 : ∀ a1 a2 a3 s, R120 a1 a2 a3 s → Lb d N0 4 (none) xE_202 (xE_202.drop 120) [.ref 213, .int a1, .int a2, .int a3, .null, .null] [] s P) (h : ub_202_162 (Par d) R120 a1 a2 a3 s P) : Lb d N0 4 (none) xE_202 (xE_202.drop 162) [.ref 213, .int a1, .int a2, .int a3, .null, .null] [] s P := by
  unfold ub_202_162 at h
  refine Lb_w (lb_ld rfl rfl rfl ?_)
  refine Lb_w (lb_c [.int 3, .ref 213] (xo_push (.int 3)) rfl rfl ?_)
  refine Lb_w (lb_ld rfl rfl rfl ?_)
  refine Lb_w (lb_get rfl rfl ?_)
  change Lb _ _ _ _ _ _ _ [.ref 249, .int 3, .ref 213] _ _
  refine Lb_w (lb_c [.int 6, .ref 249, .int 3, .ref 213] (xo_push (.int 6)) rfl rfl ?_)
  refine Lb_w (lb_ld rfl rfl rfl ?_)
  refine Lb_w (lb_ca [.int (6 * a2), .ref 249, .int 3, .ref 213] xo_imul rfl rfl (fun _ hk => ?_))
  replace hk := kc_mul (x := 6) (y := a2) (show (6 : Int32).toInt = 6 by decide) rfl hk
  replace h := h hk _ (i_mul (x := 6) (y := a2) (show (6 : Int32).toInt = 6 by decide) rfl hk)
  refine Lb_w (lb_ld rfl rfl rfl ?_)
  refine Lb_w (lb_ca [.int ((6 * a2) + a3), .ref 249, .int 3, .ref 213] xo_iadd rfl rfl (fun _ hk => ?_))
  replace hk := kc_add (x := (6 * a2)) (y := a3) rfl rfl hk
  replace h := h hk _ (i_add (x := (6 * a2)) (y := a3) rfl rfl hk)
  refine Lb_w (lb_ial rfl rfl (fun hk => ?_))
  change Lb _ _ _ _ _ _ _ [.int (s.2.1 249 ((6 * a2) + a3).toInt.toNat), .int 3, .ref 213] _ _
  replace h := h (kc_in (x := ((6 * a2) + a3)) rfl hk)
  refine Lb_w (lb_call [.ref 213, .int 3, .int (s.2.1 249 ((6 * a2) + a3).toInt.toNat)] [] rfl rfl rfl (Par.imp h (fun v4 s3 h => ?_)))
  obtain ⟨rfl, h⟩ := h
  change Lb _ _ _ _ _ _ _ [] _ _
  exact lk_202_173 r120 h
def ub_202_120 (T : Nat → List Value → yS → (Option Value → yS → Prop) → Prop) (R120 : Int32 → Int32 → Int32 → yS → Prop) (a1 : Int32) (a2 : Int32) (a3 : Int32) (s : yS) (P : Option Value → yS → Prop) : Prop :=
  ((0 ≤ a2.toInt ∧ a2.toInt < 408) → ((s.2.1 248 a2.toInt.toNat).toInt ≤ a3.toInt → P none s) ∧ (¬ ((s.2.1 248 a2.toInt.toNat).toInt ≤ a3.toInt) → ((-2147483648 ≤ 6 * a2.toInt ∧ 6 * a2.toInt ≤ 2147483647) → ∀ x1 : Int32, x1.toInt = 6 * a2.toInt → ((-2147483648 ≤ x1.toInt + a3.toInt ∧ x1.toInt + a3.toInt ≤ 2147483647) → ∀ x2 : Int32, x2.toInt = x1.toInt + a3.toInt → ((0 ≤ x2.toInt ∧ x2.toInt < 2448) → ((0 ≤ (s.2.1 249 x2.toInt.toNat).toInt ∧ (s.2.1 249 x2.toInt.toNat).toInt < 12006) → ((0 ≤ a1.toInt ∧ a1.toInt < 120) → ((0 ≤ (s.2.1 253 a1.toInt.toNat).toInt ∧ (s.2.1 253 a1.toInt.toNat).toInt < 12006) → ((s.2.1 217 (s.2.1 249 x2.toInt.toNat).toInt.toNat).toInt = (s.2.1 217 (s.2.1 253 a1.toInt.toNat).toInt.toNat).toInt → ub_202_162 T R120 a1 a2 a3  s P) ∧ (¬ ((s.2.1 217 (s.2.1 249 x2.toInt.toNat).toInt.toNat).toInt = (s.2.1 217 (s.2.1 253 a1.toInt.toNat).toInt.toNat).toInt) → ((-2147483648 ≤ 6 * a2.toInt ∧ 6 * a2.toInt ≤ 2147483647) → ∀ x3 : Int32, x3.toInt = 6 * a2.toInt → ((-2147483648 ≤ x3.toInt + a3.toInt ∧ x3.toInt + a3.toInt ≤ 2147483647) → ∀ x4 : Int32, x4.toInt = x3.toInt + a3.toInt → ((0 ≤ x4.toInt ∧ x4.toInt < 2448) → ((-2147483648 ≤ 6 * a2.toInt ∧ 6 * a2.toInt ≤ 2147483647) → ∀ x5 : Int32, x5.toInt = 6 * a2.toInt → T 198 [.ref 213, .int (s.2.1 249 x4.toInt.toNat), .ref 249, .int x5, .int a3] s (fun v7 s6 => ∃ x8, v7 = some (.int x8) ∧ ((x8.toInt = 0 → ub_202_173 T R120 a1 a2 a3  s6 P) ∧ (¬ (x8.toInt = 0) → ub_202_162 T R120 a1 a2 a3  s6 P))))))))))))))))
set_option maxRecDepth 20000 in
theorem lk_202_120 {d N0 : Nat} {R120 : Int32 → Int32 → Int32 → yS → Prop} {a1 : Int32} {a2 : Int32} {a3 : Int32} {s : yS} {P : Option Value → yS → Prop} (r120 : ∀ a1 a2 a3 s, R120 a1 a2 a3 s → Lb d N0 4 (none) xE_202 (xE_202.drop 120) [.ref 213, .int a1, .int a2, .int a3, .null, .null] [] s P) (h : ub_202_120 (Par d) R120 a1 a2 a3 s P) : Lb d (N0 + 1) 4 (none) xE_202 (xE_202.drop 120) [.ref 213, .int a1, .int a2, .int a3, .null, .null] [] s P := by
  unfold ub_202_120 at h
  refine lb_ld rfl rfl rfl ?_
  refine Lb_w (lb_ld rfl rfl rfl ?_)
  refine Lb_w (lb_get rfl rfl ?_)
  change Lb _ _ _ _ _ _ _ [.ref 248, .int a3] _ _
  refine Lb_w (lb_ld rfl rfl rfl ?_)
  refine Lb_w (lb_ial rfl rfl (fun hk => ?_))
  change Lb _ _ _ _ _ _ _ [.int (s.2.1 248 a2.toInt.toNat), .int a3] _ _
  replace h := h (kc_in (x := a2) rfl hk)
  refine Lb_w (lb_brP rfl rfl ⟨fun hc => ?_, fun hc => ?_⟩)
  · replace h := h.1 ((i_le (x := s.2.1 248 a2.toInt.toNat) (y := a3) rfl rfl).mp hc)
    exact Lb_w (lb_ret0 rfl h)
  · replace h := h.2 (fun q => hc ((i_le (x := s.2.1 248 a2.toInt.toNat) (y := a3) rfl rfl).mpr q))
    refine Lb_w (lb_ld rfl rfl rfl ?_)
    refine Lb_w (lb_get rfl rfl ?_)
    change Lb _ _ _ _ _ _ _ [.ref 217] _ _
    refine Lb_w (lb_ld rfl rfl rfl ?_)
    refine Lb_w (lb_get rfl rfl ?_)
    change Lb _ _ _ _ _ _ _ [.ref 249, .ref 217] _ _
    refine Lb_w (lb_c [.int 6, .ref 249, .ref 217] (xo_push (.int 6)) rfl rfl ?_)
    refine Lb_w (lb_ld rfl rfl rfl ?_)
    refine Lb_w (lb_ca [.int (6 * a2), .ref 249, .ref 217] xo_imul rfl rfl (fun _ hk => ?_))
    replace hk := kc_mul (x := 6) (y := a2) (show (6 : Int32).toInt = 6 by decide) rfl hk
    replace h := h hk _ (i_mul (x := 6) (y := a2) (show (6 : Int32).toInt = 6 by decide) rfl hk)
    refine Lb_w (lb_ld rfl rfl rfl ?_)
    refine Lb_w (lb_ca [.int ((6 * a2) + a3), .ref 249, .ref 217] xo_iadd rfl rfl (fun _ hk => ?_))
    replace hk := kc_add (x := (6 * a2)) (y := a3) rfl rfl hk
    replace h := h hk _ (i_add (x := (6 * a2)) (y := a3) rfl rfl hk)
    refine Lb_w (lb_ial rfl rfl (fun hk => ?_))
    change Lb _ _ _ _ _ _ _ [.int (s.2.1 249 ((6 * a2) + a3).toInt.toNat), .ref 217] _ _
    replace h := h (kc_in (x := ((6 * a2) + a3)) rfl hk)
    refine Lb_w (lb_ial rfl rfl (fun hk => ?_))
    change Lb _ _ _ _ _ _ _ [.int (s.2.1 217 (s.2.1 249 ((6 * a2) + a3).toInt.toNat).toInt.toNat)] _ _
    replace h := h (kc_in (x := s.2.1 249 ((6 * a2) + a3).toInt.toNat) rfl hk)
    refine Lb_w (lb_ld rfl rfl rfl ?_)
    refine Lb_w (lb_get rfl rfl ?_)
    change Lb _ _ _ _ _ _ _ [.ref 217, .int (s.2.1 217 (s.2.1 249 ((6 * a2) + a3).toInt.toNat).toInt.toNat)] _ _
    refine Lb_w (lb_ld rfl rfl rfl ?_)
    refine Lb_w (lb_get rfl rfl ?_)
    change Lb _ _ _ _ _ _ _ [.ref 253, .ref 217, .int (s.2.1 217 (s.2.1 249 ((6 * a2) + a3).toInt.toNat).toInt.toNat)] _ _
    refine Lb_w (lb_ld rfl rfl rfl ?_)
    refine Lb_w (lb_ial rfl rfl (fun hk => ?_))
    change Lb _ _ _ _ _ _ _ [.int (s.2.1 253 a1.toInt.toNat), .ref 217, .int (s.2.1 217 (s.2.1 249 ((6 * a2) + a3).toInt.toNat).toInt.toNat)] _ _
    replace h := h (kc_in (x := a1) rfl hk)
    refine Lb_w (lb_ial rfl rfl (fun hk => ?_))
    change Lb _ _ _ _ _ _ _ [.int (s.2.1 217 (s.2.1 253 a1.toInt.toNat).toInt.toNat), .int (s.2.1 217 (s.2.1 249 ((6 * a2) + a3).toInt.toNat).toInt.toNat)] _ _
    replace h := h (kc_in (x := s.2.1 253 a1.toInt.toNat) rfl hk)
    refine Lb_w (lb_brP rfl rfl ⟨fun hc => ?_, fun hc => ?_⟩)
    · replace h := h.1 ((i_eq (x := s.2.1 217 (s.2.1 249 ((6 * a2) + a3).toInt.toNat).toInt.toNat) (y := s.2.1 217 (s.2.1 253 a1.toInt.toNat).toInt.toNat) rfl rfl).mp hc)
      exact lk_202_162 r120 h
    · replace h := h.2 (fun q => hc ((i_eq (x := s.2.1 217 (s.2.1 249 ((6 * a2) + a3).toInt.toNat).toInt.toNat) (y := s.2.1 217 (s.2.1 253 a1.toInt.toNat).toInt.toNat) rfl rfl).mpr q))
      refine Lb_w (lb_ld rfl rfl rfl ?_)
      refine Lb_w (lb_ld rfl rfl rfl ?_)
      refine Lb_w (lb_get rfl rfl ?_)
      change Lb _ _ _ _ _ _ _ [.ref 249, .ref 213] _ _
      refine Lb_w (lb_c [.int 6, .ref 249, .ref 213] (xo_push (.int 6)) rfl rfl ?_)
      refine Lb_w (lb_ld rfl rfl rfl ?_)
      refine Lb_w (lb_ca [.int (6 * a2), .ref 249, .ref 213] xo_imul rfl rfl (fun _ hk => ?_))
      replace hk := kc_mul (x := 6) (y := a2) (show (6 : Int32).toInt = 6 by decide) rfl hk
      replace h := h hk _ (i_mul (x := 6) (y := a2) (show (6 : Int32).toInt = 6 by decide) rfl hk)
      refine Lb_w (lb_ld rfl rfl rfl ?_)
      refine Lb_w (lb_ca [.int ((6 * a2) + a3), .ref 249, .ref 213] xo_iadd rfl rfl (fun _ hk => ?_))
      replace hk := kc_add (x := (6 * a2)) (y := a3) rfl rfl hk
      replace h := h hk _ (i_add (x := (6 * a2)) (y := a3) rfl rfl hk)
      refine Lb_w (lb_ial rfl rfl (fun hk => ?_))
      change Lb _ _ _ _ _ _ _ [.int (s.2.1 249 ((6 * a2) + a3).toInt.toNat), .ref 213] _ _
      replace h := h (kc_in (x := ((6 * a2) + a3)) rfl hk)
      refine Lb_w (lb_ld rfl rfl rfl ?_)
      refine Lb_w (lb_get rfl rfl ?_)
      change Lb _ _ _ _ _ _ _ [.ref 249, .int (s.2.1 249 ((6 * a2) + a3).toInt.toNat), .ref 213] _ _
      refine Lb_w (lb_c [.int 6, .ref 249, .int (s.2.1 249 ((6 * a2) + a3).toInt.toNat), .ref 213] (xo_push (.int 6)) rfl rfl ?_)
      refine Lb_w (lb_ld rfl rfl rfl ?_)
      refine Lb_w (lb_ca [.int (6 * a2), .ref 249, .int (s.2.1 249 ((6 * a2) + a3).toInt.toNat), .ref 213] xo_imul rfl rfl (fun _ hk => ?_))
      replace hk := kc_mul (x := 6) (y := a2) (show (6 : Int32).toInt = 6 by decide) rfl hk
      replace h := h hk _ (i_mul (x := 6) (y := a2) (show (6 : Int32).toInt = 6 by decide) rfl hk)
      refine Lb_w (lb_ld rfl rfl rfl ?_)
      refine Lb_w (lb_call [.ref 213, .int (s.2.1 249 ((6 * a2) + a3).toInt.toNat), .ref 249, .int (6 * a2), .int a3] [] rfl rfl rfl (Par.imp h (fun v7 s6 h => ?_)))
      obtain ⟨x8, rfl, h⟩ := h
      change Lb _ _ _ _ _ _ _ [.int x8] _ _
      refine Lb_w (lb_brP rfl rfl ⟨fun hc => ?_, fun hc => ?_⟩)
      · replace h := h.1 ((i_eq (x := x8) (y := 0) rfl (show (0 : Int32).toInt = 0 by decide)).mp hc)
        exact lk_202_173 r120 h
      · replace h := h.2 (fun q => hc ((i_eq (x := x8) (y := 0) rfl (show (0 : Int32).toInt = 0 by decide)).mpr q))
        exact lk_202_162 r120 h
def ubl_202_120 (T : Nat → List Value → yS → (Option Value → yS → Prop) → Prop)  (a1 : Int32) (a2 : Int32) (a3 : Int32) (s : yS) (P : Option Value → yS → Prop) : Prop :=
  ∃ (I : Int32 → Int32 → Int32 → yS → Prop), I a1 a2 a3 s ∧ ∀ (a1 : Int32) (a2 : Int32) (a3 : Int32) (s : yS), I a1 a2 a3 s → ub_202_120 T I a1 a2 a3 s P
theorem lkl_202_120 {d N0 : Nat}  {a1 : Int32} {a2 : Int32} {a3 : Int32} {s : yS} {P : Option Value → yS → Prop}  (h : ubl_202_120 (Par d)  a1 a2 a3 s P) : Lb d N0 4 (none) xE_202 (xE_202.drop 120) [.ref 213, .int a1, .int a2, .int a3, .null, .null] [] s P := by
  obtain ⟨I, h0, h1⟩ := h
  have key : ∀ (m : Nat), m ≤ N0 → ∀ (a1 : Int32) (a2 : Int32) (a3 : Int32) (s : yS), I a1 a2 a3 s → Lb d m 4 (none) xE_202 (xE_202.drop 120) [.ref 213, .int a1, .int a2, .int a3, .null, .null] [] s P := by
    intro m
    induction m with
    | zero => exact fun _ a1 a2 a3 s _ => Lb_0
    | succ m ih =>
      intro hm
      replace hm : m ≤ N0 := Nat.le_of_succ_le hm
      replace ih := ih hm
      intro a1 a2 a3 s hI
      exact lk_202_120 ih (h1 a1 a2 a3 s hI)
  exact key N0 (Nat.le_refl _) a1 a2 a3 s h0
def ub_202_104 (T : Nat → List Value → yS → (Option Value → yS → Prop) → Prop) (R61 : Int32 → Int32 → Int32 → yS → Prop) (a1 : Int32) (a2 : Int32) (a3 : Int32) (s : yS) (P : Option Value → yS → Prop) : Prop :=
  ((-2147483648 ≤ a3.toInt + 1 ∧ a3.toInt + 1 ≤ 2147483647) → ∀ x1 : Int32, x1.toInt = a3.toInt + 1 → R61 a1 a2 x1  s)
set_option maxRecDepth 20000 in
theorem lk_202_104 {d N0 : Nat} {R61 : Int32 → Int32 → Int32 → yS → Prop} {a1 : Int32} {a2 : Int32} {a3 : Int32} {s : yS} {P : Option Value → yS → Prop} (r61 : ∀ a1 a2 a3 s, R61 a1 a2 a3 s → Lb d N0 4 (none) xE_202 (xE_202.drop 61) [.ref 213, .int a1, .int a2, .int a3, .null, .null] [] s P) (h : ub_202_104 (Par d) R61 a1 a2 a3 s P) : Lb d N0 4 (none) xE_202 (xE_202.drop 104) [.ref 213, .int a1, .int a2, .int a3, .null, .null] [] s P := by
  unfold ub_202_104 at h
  refine Lb_w (lb_inc [.ref 213, .int a1, .int a2, .int (a3 + 1), .null, .null] rfl rfl rfl rfl (fun hk => ?_))
  replace hk := kc_inc (x := a3) (n := 1) rfl hk
  replace h := h hk _ (i_add (x := a3) (y := 1) rfl (show (1 : Int32).toInt = 1 by decide) hk)
  refine Lb_w (lb_go rfl ?_)
  exact r61 a1 a2 (a3 + 1)  s h
def ub_202_61 (T : Nat → List Value → yS → (Option Value → yS → Prop) → Prop) (R61 : Int32 → Int32 → Int32 → yS → Prop) (a1 : Int32) (a2 : Int32) (a3 : Int32) (s : yS) (P : Option Value → yS → Prop) : Prop :=
  (a1.toInt ≤ a3.toInt → ((-2147483648 ≤ 6 * a2.toInt ∧ 6 * a2.toInt ≤ 2147483647) → ∀ x1 : Int32, x1.toInt = 6 * a2.toInt → ((0 ≤ a2.toInt ∧ a2.toInt < 408) → T 199 [.ref 213, .ref 246, .int x1, .int (s.2.1 245 a2.toInt.toNat), .int a1] s (fun v3 s2 => v3 = none ∧ (ubl_202_120 T  a1 a2 0  s2 P))))) ∧ (¬ (a1.toInt ≤ a3.toInt) → ((0 ≤ a3.toInt ∧ a3.toInt < 120) → ((0 ≤ (s.2.1 254 a3.toInt.toNat).toInt ∧ (s.2.1 254 a3.toInt.toNat).toInt < 12006) → ((0 ≤ a1.toInt ∧ a1.toInt < 120) → ((0 ≤ (s.2.1 254 a1.toInt.toNat).toInt ∧ (s.2.1 254 a1.toInt.toNat).toInt < 12006) → (¬ ((s.2.1 217 (s.2.1 254 a3.toInt.toNat).toInt.toNat).toInt = (s.2.1 217 (s.2.1 254 a1.toInt.toNat).toInt.toNat).toInt) → ub_202_104 T R61 a1 a2 a3  s P) ∧ ((s.2.1 217 (s.2.1 254 a3.toInt.toNat).toInt.toNat).toInt = (s.2.1 217 (s.2.1 254 a1.toInt.toNat).toInt.toNat).toInt → ((0 ≤ a3.toInt ∧ a3.toInt < 120) → ((0 ≤ (s.2.1 257 a3.toInt.toNat).toInt ∧ (s.2.1 257 a3.toInt.toNat).toInt < 408) → ((0 ≤ (s.2.1 244 (s.2.1 257 a3.toInt.toNat).toInt.toNat).toInt ∧ (s.2.1 244 (s.2.1 257 a3.toInt.toNat).toInt.toNat).toInt < 12006) → ((0 ≤ a2.toInt ∧ a2.toInt < 408) → ((0 ≤ (s.2.1 244 a2.toInt.toNat).toInt ∧ (s.2.1 244 a2.toInt.toNat).toInt < 12006) → (¬ ((s.2.1 217 (s.2.1 244 (s.2.1 257 a3.toInt.toNat).toInt.toNat).toInt.toNat).toInt = (s.2.1 217 (s.2.1 244 a2.toInt.toNat).toInt.toNat).toInt) → ub_202_104 T R61 a1 a2 a3  s P) ∧ ((s.2.1 217 (s.2.1 244 (s.2.1 257 a3.toInt.toNat).toInt.toNat).toInt.toNat).toInt = (s.2.1 217 (s.2.1 244 a2.toInt.toNat).toInt.toNat).toInt → ((0 ≤ a2.toInt ∧ a2.toInt < 408) → T 163 [.ref 213, .int 3, .int (s.2.1 244 a2.toInt.toNat)] s (fun v5 s4 => v5 = none ∧ (ub_202_104 T R61 a1 a2 a3  s4 P)))))))))))))))
set_option maxRecDepth 20000 in
theorem lk_202_61 {d N0 : Nat} {R61 : Int32 → Int32 → Int32 → yS → Prop} {a1 : Int32} {a2 : Int32} {a3 : Int32} {s : yS} {P : Option Value → yS → Prop} (r61 : ∀ a1 a2 a3 s, R61 a1 a2 a3 s → Lb d N0 4 (none) xE_202 (xE_202.drop 61) [.ref 213, .int a1, .int a2, .int a3, .null, .null] [] s P) (h : ub_202_61 (Par d) R61 a1 a2 a3 s P) : Lb d (N0 + 1) 4 (none) xE_202 (xE_202.drop 61) [.ref 213, .int a1, .int a2, .int a3, .null, .null] [] s P := by
  unfold ub_202_61 at h
  refine lb_ld rfl rfl rfl ?_
  refine Lb_w (lb_ld rfl rfl rfl ?_)
  refine Lb_w (lb_brP rfl rfl ⟨fun hc => ?_, fun hc => ?_⟩)
  · replace h := h.1 ((i_le (x := a1) (y := a3) rfl rfl).mp hc)
    refine Lb_w (lb_ld rfl rfl rfl ?_)
    refine Lb_w (lb_ld rfl rfl rfl ?_)
    refine Lb_w (lb_get rfl rfl ?_)
    change Lb _ _ _ _ _ _ _ [.ref 246, .ref 213] _ _
    refine Lb_w (lb_c [.int 6, .ref 246, .ref 213] (xo_push (.int 6)) rfl rfl ?_)
    refine Lb_w (lb_ld rfl rfl rfl ?_)
    refine Lb_w (lb_ca [.int (6 * a2), .ref 246, .ref 213] xo_imul rfl rfl (fun _ hk => ?_))
    replace hk := kc_mul (x := 6) (y := a2) (show (6 : Int32).toInt = 6 by decide) rfl hk
    replace h := h hk _ (i_mul (x := 6) (y := a2) (show (6 : Int32).toInt = 6 by decide) rfl hk)
    refine Lb_w (lb_ld rfl rfl rfl ?_)
    refine Lb_w (lb_get rfl rfl ?_)
    change Lb _ _ _ _ _ _ _ [.ref 245, .int (6 * a2), .ref 246, .ref 213] _ _
    refine Lb_w (lb_ld rfl rfl rfl ?_)
    refine Lb_w (lb_ial rfl rfl (fun hk => ?_))
    change Lb _ _ _ _ _ _ _ [.int (s.2.1 245 a2.toInt.toNat), .int (6 * a2), .ref 246, .ref 213] _ _
    replace h := h (kc_in (x := a2) rfl hk)
    refine Lb_w (lb_ld rfl rfl rfl ?_)
    refine Lb_w (lb_call [.ref 213, .ref 246, .int (6 * a2), .int (s.2.1 245 a2.toInt.toNat), .int a1] [] rfl rfl rfl (Par.imp h (fun v3 s2 h => ?_)))
    obtain ⟨rfl, h⟩ := h
    change Lb _ _ _ _ _ _ _ [] _ _
    refine Lb_w (lb_c [.int 0] (xo_push (.int 0)) rfl rfl ?_)
    refine Lb_w (lb_st [.ref 213, .int a1, .int a2, .int 0, .null, .null] rfl rfl rfl ?_)
    exact lkl_202_120  h
  · replace h := h.2 (fun q => hc ((i_le (x := a1) (y := a3) rfl rfl).mpr q))
    refine Lb_w (lb_ld rfl rfl rfl ?_)
    refine Lb_w (lb_get rfl rfl ?_)
    change Lb _ _ _ _ _ _ _ [.ref 217] _ _
    refine Lb_w (lb_ld rfl rfl rfl ?_)
    refine Lb_w (lb_get rfl rfl ?_)
    change Lb _ _ _ _ _ _ _ [.ref 254, .ref 217] _ _
    refine Lb_w (lb_ld rfl rfl rfl ?_)
    refine Lb_w (lb_ial rfl rfl (fun hk => ?_))
    change Lb _ _ _ _ _ _ _ [.int (s.2.1 254 a3.toInt.toNat), .ref 217] _ _
    replace h := h (kc_in (x := a3) rfl hk)
    refine Lb_w (lb_ial rfl rfl (fun hk => ?_))
    change Lb _ _ _ _ _ _ _ [.int (s.2.1 217 (s.2.1 254 a3.toInt.toNat).toInt.toNat)] _ _
    replace h := h (kc_in (x := s.2.1 254 a3.toInt.toNat) rfl hk)
    refine Lb_w (lb_ld rfl rfl rfl ?_)
    refine Lb_w (lb_get rfl rfl ?_)
    change Lb _ _ _ _ _ _ _ [.ref 217, .int (s.2.1 217 (s.2.1 254 a3.toInt.toNat).toInt.toNat)] _ _
    refine Lb_w (lb_ld rfl rfl rfl ?_)
    refine Lb_w (lb_get rfl rfl ?_)
    change Lb _ _ _ _ _ _ _ [.ref 254, .ref 217, .int (s.2.1 217 (s.2.1 254 a3.toInt.toNat).toInt.toNat)] _ _
    refine Lb_w (lb_ld rfl rfl rfl ?_)
    refine Lb_w (lb_ial rfl rfl (fun hk => ?_))
    change Lb _ _ _ _ _ _ _ [.int (s.2.1 254 a1.toInt.toNat), .ref 217, .int (s.2.1 217 (s.2.1 254 a3.toInt.toNat).toInt.toNat)] _ _
    replace h := h (kc_in (x := a1) rfl hk)
    refine Lb_w (lb_ial rfl rfl (fun hk => ?_))
    change Lb _ _ _ _ _ _ _ [.int (s.2.1 217 (s.2.1 254 a1.toInt.toNat).toInt.toNat), .int (s.2.1 217 (s.2.1 254 a3.toInt.toNat).toInt.toNat)] _ _
    replace h := h (kc_in (x := s.2.1 254 a1.toInt.toNat) rfl hk)
    refine Lb_w (lb_brN rfl rfl ⟨fun hc => ?_, fun hc => ?_⟩)
    · replace h := h.1 (fun q => hc ((i_eq (x := s.2.1 217 (s.2.1 254 a3.toInt.toNat).toInt.toNat) (y := s.2.1 217 (s.2.1 254 a1.toInt.toNat).toInt.toNat) rfl rfl).mpr q))
      exact lk_202_104 r61 h
    · replace h := h.2 ((i_eq (x := s.2.1 217 (s.2.1 254 a3.toInt.toNat).toInt.toNat) (y := s.2.1 217 (s.2.1 254 a1.toInt.toNat).toInt.toNat) rfl rfl).mp hc)
      refine Lb_w (lb_ld rfl rfl rfl ?_)
      refine Lb_w (lb_get rfl rfl ?_)
      change Lb _ _ _ _ _ _ _ [.ref 217] _ _
      refine Lb_w (lb_ld rfl rfl rfl ?_)
      refine Lb_w (lb_get rfl rfl ?_)
      change Lb _ _ _ _ _ _ _ [.ref 244, .ref 217] _ _
      refine Lb_w (lb_ld rfl rfl rfl ?_)
      refine Lb_w (lb_get rfl rfl ?_)
      change Lb _ _ _ _ _ _ _ [.ref 257, .ref 244, .ref 217] _ _
      refine Lb_w (lb_ld rfl rfl rfl ?_)
      refine Lb_w (lb_ial rfl rfl (fun hk => ?_))
      change Lb _ _ _ _ _ _ _ [.int (s.2.1 257 a3.toInt.toNat), .ref 244, .ref 217] _ _
      replace h := h (kc_in (x := a3) rfl hk)
      refine Lb_w (lb_ial rfl rfl (fun hk => ?_))
      change Lb _ _ _ _ _ _ _ [.int (s.2.1 244 (s.2.1 257 a3.toInt.toNat).toInt.toNat), .ref 217] _ _
      replace h := h (kc_in (x := s.2.1 257 a3.toInt.toNat) rfl hk)
      refine Lb_w (lb_ial rfl rfl (fun hk => ?_))
      change Lb _ _ _ _ _ _ _ [.int (s.2.1 217 (s.2.1 244 (s.2.1 257 a3.toInt.toNat).toInt.toNat).toInt.toNat)] _ _
      replace h := h (kc_in (x := s.2.1 244 (s.2.1 257 a3.toInt.toNat).toInt.toNat) rfl hk)
      refine Lb_w (lb_ld rfl rfl rfl ?_)
      refine Lb_w (lb_get rfl rfl ?_)
      change Lb _ _ _ _ _ _ _ [.ref 217, .int (s.2.1 217 (s.2.1 244 (s.2.1 257 a3.toInt.toNat).toInt.toNat).toInt.toNat)] _ _
      refine Lb_w (lb_ld rfl rfl rfl ?_)
      refine Lb_w (lb_get rfl rfl ?_)
      change Lb _ _ _ _ _ _ _ [.ref 244, .ref 217, .int (s.2.1 217 (s.2.1 244 (s.2.1 257 a3.toInt.toNat).toInt.toNat).toInt.toNat)] _ _
      refine Lb_w (lb_ld rfl rfl rfl ?_)
      refine Lb_w (lb_ial rfl rfl (fun hk => ?_))
      change Lb _ _ _ _ _ _ _ [.int (s.2.1 244 a2.toInt.toNat), .ref 217, .int (s.2.1 217 (s.2.1 244 (s.2.1 257 a3.toInt.toNat).toInt.toNat).toInt.toNat)] _ _
      replace h := h (kc_in (x := a2) rfl hk)
      refine Lb_w (lb_ial rfl rfl (fun hk => ?_))
      change Lb _ _ _ _ _ _ _ [.int (s.2.1 217 (s.2.1 244 a2.toInt.toNat).toInt.toNat), .int (s.2.1 217 (s.2.1 244 (s.2.1 257 a3.toInt.toNat).toInt.toNat).toInt.toNat)] _ _
      replace h := h (kc_in (x := s.2.1 244 a2.toInt.toNat) rfl hk)
      refine Lb_w (lb_brN rfl rfl ⟨fun hc => ?_, fun hc => ?_⟩)
      · replace h := h.1 (fun q => hc ((i_eq (x := s.2.1 217 (s.2.1 244 (s.2.1 257 a3.toInt.toNat).toInt.toNat).toInt.toNat) (y := s.2.1 217 (s.2.1 244 a2.toInt.toNat).toInt.toNat) rfl rfl).mpr q))
        exact lk_202_104 r61 h
      · replace h := h.2 ((i_eq (x := s.2.1 217 (s.2.1 244 (s.2.1 257 a3.toInt.toNat).toInt.toNat).toInt.toNat) (y := s.2.1 217 (s.2.1 244 a2.toInt.toNat).toInt.toNat) rfl rfl).mp hc)
        refine Lb_w (lb_ld rfl rfl rfl ?_)
        refine Lb_w (lb_c [.int 3, .ref 213] (xo_push (.int 3)) rfl rfl ?_)
        refine Lb_w (lb_ld rfl rfl rfl ?_)
        refine Lb_w (lb_get rfl rfl ?_)
        change Lb _ _ _ _ _ _ _ [.ref 244, .int 3, .ref 213] _ _
        refine Lb_w (lb_ld rfl rfl rfl ?_)
        refine Lb_w (lb_ial rfl rfl (fun hk => ?_))
        change Lb _ _ _ _ _ _ _ [.int (s.2.1 244 a2.toInt.toNat), .int 3, .ref 213] _ _
        replace h := h (kc_in (x := a2) rfl hk)
        refine Lb_w (lb_call [.ref 213, .int 3, .int (s.2.1 244 a2.toInt.toNat)] [] rfl rfl rfl (Par.imp h (fun v5 s4 h => ?_)))
        obtain ⟨rfl, h⟩ := h
        change Lb _ _ _ _ _ _ _ [] _ _
        exact lk_202_104 r61 h
def ubl_202_61 (T : Nat → List Value → yS → (Option Value → yS → Prop) → Prop)  (a1 : Int32) (a2 : Int32) (a3 : Int32) (s : yS) (P : Option Value → yS → Prop) : Prop :=
  ∃ (I : Int32 → Int32 → Int32 → yS → Prop), I a1 a2 a3 s ∧ ∀ (a1 : Int32) (a2 : Int32) (a3 : Int32) (s : yS), I a1 a2 a3 s → ub_202_61 T I a1 a2 a3 s P
theorem lkl_202_61 {d N0 : Nat}  {a1 : Int32} {a2 : Int32} {a3 : Int32} {s : yS} {P : Option Value → yS → Prop}  (h : ubl_202_61 (Par d)  a1 a2 a3 s P) : Lb d N0 4 (none) xE_202 (xE_202.drop 61) [.ref 213, .int a1, .int a2, .int a3, .null, .null] [] s P := by
  obtain ⟨I, h0, h1⟩ := h
  have key : ∀ (m : Nat), m ≤ N0 → ∀ (a1 : Int32) (a2 : Int32) (a3 : Int32) (s : yS), I a1 a2 a3 s → Lb d m 4 (none) xE_202 (xE_202.drop 61) [.ref 213, .int a1, .int a2, .int a3, .null, .null] [] s P := by
    intro m
    induction m with
    | zero => exact fun _ a1 a2 a3 s _ => Lb_0
    | succ m ih =>
      intro hm
      replace hm : m ≤ N0 := Nat.le_of_succ_le hm
      replace ih := ih hm
      intro a1 a2 a3 s hI
      exact lk_202_61 ih (h1 a1 a2 a3 s hI)
  exact key N0 (Nat.le_refl _) a1 a2 a3 s h0
def ub_202_47 (T : Nat → List Value → yS → (Option Value → yS → Prop) → Prop) (R2 : Int32 → Int32 → yS → Prop) (R10 : Int32 → Int32 → Int32 → yS → Prop) (a1 : Int32) (a2 : Int32) (a3 : Int32) (s : yS) (P : Option Value → yS → Prop) : Prop :=
  ((-2147483648 ≤ a3.toInt + 1 ∧ a3.toInt + 1 ≤ 2147483647) → ∀ x1 : Int32, x1.toInt = a3.toInt + 1 → R10 a1 a2 x1  s)
set_option maxRecDepth 20000 in
theorem lk_202_47 {d N0 : Nat} {R2 : Int32 → Int32 → yS → Prop} {R10 : Int32 → Int32 → Int32 → yS → Prop} {a1 : Int32} {a2 : Int32} {a3 : Int32} {s : yS} {P : Option Value → yS → Prop} (r2 : ∀ a1 a2 s, R2 a1 a2 s → Lb d N0 4 (none) xE_202 (xE_202.drop 2) [.ref 213, .int a1, .int a2, .null, .null, .null] [] s P) (r10 : ∀ a1 a2 a3 s, R10 a1 a2 a3 s → Lb d N0 4 (none) xE_202 (xE_202.drop 10) [.ref 213, .int a1, .int a2, .int a3, .null, .null] [] s P) (h : ub_202_47 (Par d) R2 R10 a1 a2 a3 s P) : Lb d N0 4 (none) xE_202 (xE_202.drop 47) [.ref 213, .int a1, .int a2, .int a3, .null, .null] [] s P := by
  unfold ub_202_47 at h
  refine Lb_w (lb_inc [.ref 213, .int a1, .int a2, .int (a3 + 1), .null, .null] rfl rfl rfl rfl (fun hk => ?_))
  replace hk := kc_inc (x := a3) (n := 1) rfl hk
  replace h := h hk _ (i_add (x := a3) (y := 1) rfl (show (1 : Int32).toInt = 1 by decide) hk)
  refine Lb_w (lb_go rfl ?_)
  exact r10 a1 a2 (a3 + 1)  s h
def ub_202_10 (T : Nat → List Value → yS → (Option Value → yS → Prop) → Prop) (R2 : Int32 → Int32 → yS → Prop) (R10 : Int32 → Int32 → Int32 → yS → Prop) (a1 : Int32) (a2 : Int32) (a3 : Int32) (s : yS) (P : Option Value → yS → Prop) : Prop :=
  (a2.toInt ≤ a3.toInt → ((-2147483648 ≤ a2.toInt + 1 ∧ a2.toInt + 1 ≤ 2147483647) → ∀ x1 : Int32, x1.toInt = a2.toInt + 1 → R2 a1 x1  s)) ∧ (¬ (a2.toInt ≤ a3.toInt) → ((0 ≤ a1.toInt ∧ a1.toInt < 120) → ((-2147483648 ≤ 2 * a3.toInt ∧ 2 * a3.toInt ≤ 2147483647) → ∀ x2 : Int32, x2.toInt = 2 * a3.toInt → ((-2147483648 ≤ (s.2.1 256 a1.toInt.toNat).toInt + x2.toInt ∧ (s.2.1 256 a1.toInt.toNat).toInt + x2.toInt ≤ 2147483647) → ∀ x3 : Int32, x3.toInt = (s.2.1 256 a1.toInt.toNat).toInt + x2.toInt → ((0 ≤ x3.toInt ∧ x3.toInt < 12006) → ((0 ≤ a1.toInt ∧ a1.toInt < 120) → ((-2147483648 ≤ 2 * a2.toInt ∧ 2 * a2.toInt ≤ 2147483647) → ∀ x4 : Int32, x4.toInt = 2 * a2.toInt → ((-2147483648 ≤ (s.2.1 256 a1.toInt.toNat).toInt + x4.toInt ∧ (s.2.1 256 a1.toInt.toNat).toInt + x4.toInt ≤ 2147483647) → ∀ x5 : Int32, x5.toInt = (s.2.1 256 a1.toInt.toNat).toInt + x4.toInt → ((0 ≤ x5.toInt ∧ x5.toInt < 12006) → (¬ ((s.2.1 217 x3.toInt.toNat).toInt = (s.2.1 217 x5.toInt.toNat).toInt) → ub_202_47 T R2 R10 a1 a2 a3  s P) ∧ ((s.2.1 217 x3.toInt.toNat).toInt = (s.2.1 217 x5.toInt.toNat).toInt → ((0 ≤ a1.toInt ∧ a1.toInt < 120) → ((-2147483648 ≤ 2 * a2.toInt ∧ 2 * a2.toInt ≤ 2147483647) → ∀ x6 : Int32, x6.toInt = 2 * a2.toInt → ((-2147483648 ≤ (s.2.1 256 a1.toInt.toNat).toInt + x6.toInt ∧ (s.2.1 256 a1.toInt.toNat).toInt + x6.toInt ≤ 2147483647) → ∀ x7 : Int32, x7.toInt = (s.2.1 256 a1.toInt.toNat).toInt + x6.toInt → T 163 [.ref 213, .int 3, .int x7] s (fun v9 s8 => v9 = none ∧ (ub_202_47 T R2 R10 a1 a2 a3  s8 P)))))))))))))))
set_option maxRecDepth 20000 in
theorem lk_202_10 {d N0 : Nat} {R2 : Int32 → Int32 → yS → Prop} {R10 : Int32 → Int32 → Int32 → yS → Prop} {a1 : Int32} {a2 : Int32} {a3 : Int32} {s : yS} {P : Option Value → yS → Prop} (r2 : ∀ a1 a2 s, R2 a1 a2 s → Lb d N0 4 (none) xE_202 (xE_202.drop 2) [.ref 213, .int a1, .int a2, .null, .null, .null] [] s P) (r10 : ∀ a1 a2 a3 s, R10 a1 a2 a3 s → Lb d N0 4 (none) xE_202 (xE_202.drop 10) [.ref 213, .int a1, .int a2, .int a3, .null, .null] [] s P) (h : ub_202_10 (Par d) R2 R10 a1 a2 a3 s P) : Lb d (N0 + 1) 4 (none) xE_202 (xE_202.drop 10) [.ref 213, .int a1, .int a2, .int a3, .null, .null] [] s P := by
  unfold ub_202_10 at h
  refine lb_ld rfl rfl rfl ?_
  refine Lb_w (lb_ld rfl rfl rfl ?_)
  refine Lb_w (lb_brP rfl rfl ⟨fun hc => ?_, fun hc => ?_⟩)
  · replace h := h.1 ((i_le (x := a2) (y := a3) rfl rfl).mp hc)
    refine Lb_w (lb_inc [.ref 213, .int a1, .int (a2 + 1), .int a3, .null, .null] rfl rfl rfl rfl (fun hk => ?_))
    replace hk := kc_inc (x := a2) (n := 1) rfl hk
    replace h := h hk _ (i_add (x := a2) (y := 1) rfl (show (1 : Int32).toInt = 1 by decide) hk)
    refine Lb_w (lb_go rfl ?_)
    refine lb_fg 3 ?_
    exact r2 a1 (a2 + 1)  s h
  · replace h := h.2 (fun q => hc ((i_le (x := a2) (y := a3) rfl rfl).mpr q))
    refine Lb_w (lb_ld rfl rfl rfl ?_)
    refine Lb_w (lb_get rfl rfl ?_)
    change Lb _ _ _ _ _ _ _ [.ref 217] _ _
    refine Lb_w (lb_ld rfl rfl rfl ?_)
    refine Lb_w (lb_get rfl rfl ?_)
    change Lb _ _ _ _ _ _ _ [.ref 256, .ref 217] _ _
    refine Lb_w (lb_ld rfl rfl rfl ?_)
    refine Lb_w (lb_ial rfl rfl (fun hk => ?_))
    change Lb _ _ _ _ _ _ _ [.int (s.2.1 256 a1.toInt.toNat), .ref 217] _ _
    replace h := h (kc_in (x := a1) rfl hk)
    refine Lb_w (lb_c [.int 2, .int (s.2.1 256 a1.toInt.toNat), .ref 217] (xo_push (.int 2)) rfl rfl ?_)
    refine Lb_w (lb_ld rfl rfl rfl ?_)
    refine Lb_w (lb_ca [.int (2 * a3), .int (s.2.1 256 a1.toInt.toNat), .ref 217] xo_imul rfl rfl (fun _ hk => ?_))
    replace hk := kc_mul (x := 2) (y := a3) (show (2 : Int32).toInt = 2 by decide) rfl hk
    replace h := h hk _ (i_mul (x := 2) (y := a3) (show (2 : Int32).toInt = 2 by decide) rfl hk)
    refine Lb_w (lb_ca [.int ((s.2.1 256 a1.toInt.toNat) + (2 * a3)), .ref 217] xo_iadd rfl rfl (fun _ hk => ?_))
    replace hk := kc_add (x := s.2.1 256 a1.toInt.toNat) (y := (2 * a3)) rfl rfl hk
    replace h := h hk _ (i_add (x := s.2.1 256 a1.toInt.toNat) (y := (2 * a3)) rfl rfl hk)
    refine Lb_w (lb_ial rfl rfl (fun hk => ?_))
    change Lb _ _ _ _ _ _ _ [.int (s.2.1 217 ((s.2.1 256 a1.toInt.toNat) + (2 * a3)).toInt.toNat)] _ _
    replace h := h (kc_in (x := ((s.2.1 256 a1.toInt.toNat) + (2 * a3))) rfl hk)
    refine Lb_w (lb_ld rfl rfl rfl ?_)
    refine Lb_w (lb_get rfl rfl ?_)
    change Lb _ _ _ _ _ _ _ [.ref 217, .int (s.2.1 217 ((s.2.1 256 a1.toInt.toNat) + (2 * a3)).toInt.toNat)] _ _
    refine Lb_w (lb_ld rfl rfl rfl ?_)
    refine Lb_w (lb_get rfl rfl ?_)
    change Lb _ _ _ _ _ _ _ [.ref 256, .ref 217, .int (s.2.1 217 ((s.2.1 256 a1.toInt.toNat) + (2 * a3)).toInt.toNat)] _ _
    refine Lb_w (lb_ld rfl rfl rfl ?_)
    refine Lb_w (lb_ial rfl rfl (fun hk => ?_))
    change Lb _ _ _ _ _ _ _ [.int (s.2.1 256 a1.toInt.toNat), .ref 217, .int (s.2.1 217 ((s.2.1 256 a1.toInt.toNat) + (2 * a3)).toInt.toNat)] _ _
    replace h := h (kc_in (x := a1) rfl hk)
    refine Lb_w (lb_c [.int 2, .int (s.2.1 256 a1.toInt.toNat), .ref 217, .int (s.2.1 217 ((s.2.1 256 a1.toInt.toNat) + (2 * a3)).toInt.toNat)] (xo_push (.int 2)) rfl rfl ?_)
    refine Lb_w (lb_ld rfl rfl rfl ?_)
    refine Lb_w (lb_ca [.int (2 * a2), .int (s.2.1 256 a1.toInt.toNat), .ref 217, .int (s.2.1 217 ((s.2.1 256 a1.toInt.toNat) + (2 * a3)).toInt.toNat)] xo_imul rfl rfl (fun _ hk => ?_))
    replace hk := kc_mul (x := 2) (y := a2) (show (2 : Int32).toInt = 2 by decide) rfl hk
    replace h := h hk _ (i_mul (x := 2) (y := a2) (show (2 : Int32).toInt = 2 by decide) rfl hk)
    refine Lb_w (lb_ca [.int ((s.2.1 256 a1.toInt.toNat) + (2 * a2)), .ref 217, .int (s.2.1 217 ((s.2.1 256 a1.toInt.toNat) + (2 * a3)).toInt.toNat)] xo_iadd rfl rfl (fun _ hk => ?_))
    replace hk := kc_add (x := s.2.1 256 a1.toInt.toNat) (y := (2 * a2)) rfl rfl hk
    replace h := h hk _ (i_add (x := s.2.1 256 a1.toInt.toNat) (y := (2 * a2)) rfl rfl hk)
    refine Lb_w (lb_ial rfl rfl (fun hk => ?_))
    change Lb _ _ _ _ _ _ _ [.int (s.2.1 217 ((s.2.1 256 a1.toInt.toNat) + (2 * a2)).toInt.toNat), .int (s.2.1 217 ((s.2.1 256 a1.toInt.toNat) + (2 * a3)).toInt.toNat)] _ _
    replace h := h (kc_in (x := ((s.2.1 256 a1.toInt.toNat) + (2 * a2))) rfl hk)
    refine Lb_w (lb_brN rfl rfl ⟨fun hc => ?_, fun hc => ?_⟩)
    · replace h := h.1 (fun q => hc ((i_eq (x := s.2.1 217 ((s.2.1 256 a1.toInt.toNat) + (2 * a3)).toInt.toNat) (y := s.2.1 217 ((s.2.1 256 a1.toInt.toNat) + (2 * a2)).toInt.toNat) rfl rfl).mpr q))
      exact lk_202_47 r2 r10 h
    · replace h := h.2 ((i_eq (x := s.2.1 217 ((s.2.1 256 a1.toInt.toNat) + (2 * a3)).toInt.toNat) (y := s.2.1 217 ((s.2.1 256 a1.toInt.toNat) + (2 * a2)).toInt.toNat) rfl rfl).mp hc)
      refine Lb_w (lb_ld rfl rfl rfl ?_)
      refine Lb_w (lb_c [.int 3, .ref 213] (xo_push (.int 3)) rfl rfl ?_)
      refine Lb_w (lb_ld rfl rfl rfl ?_)
      refine Lb_w (lb_get rfl rfl ?_)
      change Lb _ _ _ _ _ _ _ [.ref 256, .int 3, .ref 213] _ _
      refine Lb_w (lb_ld rfl rfl rfl ?_)
      refine Lb_w (lb_ial rfl rfl (fun hk => ?_))
      change Lb _ _ _ _ _ _ _ [.int (s.2.1 256 a1.toInt.toNat), .int 3, .ref 213] _ _
      replace h := h (kc_in (x := a1) rfl hk)
      refine Lb_w (lb_c [.int 2, .int (s.2.1 256 a1.toInt.toNat), .int 3, .ref 213] (xo_push (.int 2)) rfl rfl ?_)
      refine Lb_w (lb_ld rfl rfl rfl ?_)
      refine Lb_w (lb_ca [.int (2 * a2), .int (s.2.1 256 a1.toInt.toNat), .int 3, .ref 213] xo_imul rfl rfl (fun _ hk => ?_))
      replace hk := kc_mul (x := 2) (y := a2) (show (2 : Int32).toInt = 2 by decide) rfl hk
      replace h := h hk _ (i_mul (x := 2) (y := a2) (show (2 : Int32).toInt = 2 by decide) rfl hk)
      refine Lb_w (lb_ca [.int ((s.2.1 256 a1.toInt.toNat) + (2 * a2)), .int 3, .ref 213] xo_iadd rfl rfl (fun _ hk => ?_))
      replace hk := kc_add (x := s.2.1 256 a1.toInt.toNat) (y := (2 * a2)) rfl rfl hk
      replace h := h hk _ (i_add (x := s.2.1 256 a1.toInt.toNat) (y := (2 * a2)) rfl rfl hk)
      refine Lb_w (lb_call [.ref 213, .int 3, .int ((s.2.1 256 a1.toInt.toNat) + (2 * a2))] [] rfl rfl rfl (Par.imp h (fun v9 s8 h => ?_)))
      obtain ⟨rfl, h⟩ := h
      change Lb _ _ _ _ _ _ _ [] _ _
      exact lk_202_47 r2 r10 h
def ubl_202_10 (T : Nat → List Value → yS → (Option Value → yS → Prop) → Prop) (R2 : Int32 → Int32 → yS → Prop) (a1 : Int32) (a2 : Int32) (a3 : Int32) (s : yS) (P : Option Value → yS → Prop) : Prop :=
  ∃ (I : Int32 → Int32 → Int32 → yS → Prop), I a1 a2 a3 s ∧ ∀ (a1 : Int32) (a2 : Int32) (a3 : Int32) (s : yS), I a1 a2 a3 s → ub_202_10 T R2 I a1 a2 a3 s P
theorem lkl_202_10 {d N0 : Nat} {R2 : Int32 → Int32 → yS → Prop} {a1 : Int32} {a2 : Int32} {a3 : Int32} {s : yS} {P : Option Value → yS → Prop} (r2 : ∀ a1 a2 s, R2 a1 a2 s → Lb d N0 4 (none) xE_202 (xE_202.drop 2) [.ref 213, .int a1, .int a2, .null, .null, .null] [] s P) (h : ubl_202_10 (Par d) R2 a1 a2 a3 s P) : Lb d N0 4 (none) xE_202 (xE_202.drop 10) [.ref 213, .int a1, .int a2, .int a3, .null, .null] [] s P := by
  obtain ⟨I, h0, h1⟩ := h
  have key : ∀ (m : Nat), m ≤ N0 → ∀ (a1 : Int32) (a2 : Int32) (a3 : Int32) (s : yS), I a1 a2 a3 s → Lb d m 4 (none) xE_202 (xE_202.drop 10) [.ref 213, .int a1, .int a2, .int a3, .null, .null] [] s P := by
    intro m
    induction m with
    | zero => exact fun _ a1 a2 a3 s _ => Lb_0
    | succ m ih =>
      intro hm
      replace hm : m ≤ N0 := Nat.le_of_succ_le hm
      replace ih := ih hm
      intro a1 a2 a3 s hI
      exact lk_202_10 (fun a1 a2 s q => Lb_le hm (r2 a1 a2 s q)) ih (h1 a1 a2 a3 s hI)
  exact key N0 (Nat.le_refl _) a1 a2 a3 s h0
def ub_202_2 (T : Nat → List Value → yS → (Option Value → yS → Prop) → Prop) (R2 : Int32 → Int32 → yS → Prop) (a1 : Int32) (a2 : Int32) (s : yS) (P : Option Value → yS → Prop) : Prop :=
  ((0 ≤ a1.toInt ∧ a1.toInt < 120) → ((s.2.1 255 a1.toInt.toNat).toInt ≤ a2.toInt → ((0 ≤ a1.toInt ∧ a1.toInt < 120) → ((-2147483648 ≤ 60 * (s.1 30).toInt ∧ 60 * (s.1 30).toInt ≤ 2147483647) → ∀ x1 : Int32, x1.toInt = 60 * (s.1 30).toInt → ubl_202_61 T  a1 (s.2.1 257 a1.toInt.toNat) x1  s P))) ∧ (¬ ((s.2.1 255 a1.toInt.toNat).toInt ≤ a2.toInt) → ubl_202_10 T R2 a1 a2 0  s P))
set_option maxRecDepth 20000 in
theorem lk_202_2 {d N0 : Nat} {R2 : Int32 → Int32 → yS → Prop} {a1 : Int32} {a2 : Int32} {s : yS} {P : Option Value → yS → Prop} (r2 : ∀ a1 a2 s, R2 a1 a2 s → Lb d N0 4 (none) xE_202 (xE_202.drop 2) [.ref 213, .int a1, .int a2, .null, .null, .null] [] s P) (h : ub_202_2 (Par d) R2 a1 a2 s P) : Lb d (N0 + 1) 4 (none) xE_202 (xE_202.drop 2) [.ref 213, .int a1, .int a2, .null, .null, .null] [] s P := by
  unfold ub_202_2 at h
  refine lb_ld rfl rfl rfl ?_
  refine Lb_w (lb_ld rfl rfl rfl ?_)
  refine Lb_w (lb_get rfl rfl ?_)
  change Lb _ _ _ _ _ _ _ [.ref 255, .int a2] _ _
  refine Lb_w (lb_ld rfl rfl rfl ?_)
  refine Lb_w (lb_ial rfl rfl (fun hk => ?_))
  change Lb _ _ _ _ _ _ _ [.int (s.2.1 255 a1.toInt.toNat), .int a2] _ _
  replace h := h (kc_in (x := a1) rfl hk)
  refine Lb_w (lb_brP rfl rfl ⟨fun hc => ?_, fun hc => ?_⟩)
  · replace h := h.1 ((i_le (x := s.2.1 255 a1.toInt.toNat) (y := a2) rfl rfl).mp hc)
    refine Lb_w (lb_ld rfl rfl rfl ?_)
    refine Lb_w (lb_get rfl rfl ?_)
    change Lb _ _ _ _ _ _ _ [.ref 257] _ _
    refine Lb_w (lb_ld rfl rfl rfl ?_)
    refine Lb_w (lb_ial rfl rfl (fun hk => ?_))
    change Lb _ _ _ _ _ _ _ [.int (s.2.1 257 a1.toInt.toNat)] _ _
    replace h := h (kc_in (x := a1) rfl hk)
    refine Lb_w (lb_st [.ref 213, .int a1, .int (s.2.1 257 a1.toInt.toNat), .null, .null, .null] rfl rfl rfl ?_)
    refine Lb_w (lb_c [.int 60] (xo_push (.int 60)) rfl rfl ?_)
    refine Lb_w (lb_ld rfl rfl rfl ?_)
    refine Lb_w (lb_get rfl rfl ?_)
    change Lb _ _ _ _ _ _ _ [.int (s.1 30), .int 60] _ _
    refine Lb_w (lb_ca [.int (60 * (s.1 30))] xo_imul rfl rfl (fun _ hk => ?_))
    replace hk := kc_mul (x := 60) (y := s.1 30) (show (60 : Int32).toInt = 60 by decide) rfl hk
    replace h := h hk _ (i_mul (x := 60) (y := s.1 30) (show (60 : Int32).toInt = 60 by decide) rfl hk)
    refine Lb_w (lb_st [.ref 213, .int a1, .int (s.2.1 257 a1.toInt.toNat), .int (60 * (s.1 30)), .null, .null] rfl rfl rfl ?_)
    exact lkl_202_61  h
  · replace h := h.2 (fun q => hc ((i_le (x := s.2.1 255 a1.toInt.toNat) (y := a2) rfl rfl).mpr q))
    refine Lb_w (lb_c [.int 0] (xo_push (.int 0)) rfl rfl ?_)
    refine Lb_w (lb_st [.ref 213, .int a1, .int a2, .int 0, .null, .null] rfl rfl rfl ?_)
    exact lkl_202_10 r2 h
def ubl_202_2 (T : Nat → List Value → yS → (Option Value → yS → Prop) → Prop)  (a1 : Int32) (a2 : Int32) (s : yS) (P : Option Value → yS → Prop) : Prop :=
  ∃ (I : Int32 → Int32 → yS → Prop), I a1 a2 s ∧ ∀ (a1 : Int32) (a2 : Int32) (s : yS), I a1 a2 s → ub_202_2 T I a1 a2 s P
theorem lkl_202_2 {d N0 : Nat}  {a1 : Int32} {a2 : Int32} {s : yS} {P : Option Value → yS → Prop}  (h : ubl_202_2 (Par d)  a1 a2 s P) : Lb d N0 4 (none) xE_202 (xE_202.drop 2) [.ref 213, .int a1, .int a2, .null, .null, .null] [] s P := by
  obtain ⟨I, h0, h1⟩ := h
  have key : ∀ (m : Nat), m ≤ N0 → ∀ (a1 : Int32) (a2 : Int32) (s : yS), I a1 a2 s → Lb d m 4 (none) xE_202 (xE_202.drop 2) [.ref 213, .int a1, .int a2, .null, .null, .null] [] s P := by
    intro m
    induction m with
    | zero => exact fun _ a1 a2 s _ => Lb_0
    | succ m ih =>
      intro hm
      replace hm : m ≤ N0 := Nat.le_of_succ_le hm
      replace ih := ih hm
      intro a1 a2 s hI
      exact lk_202_2 ih (h1 a1 a2 s hI)
  exact key N0 (Nat.le_refl _) a1 a2 s h0
def ub_202_0 (T : Nat → List Value → yS → (Option Value → yS → Prop) → Prop)  (a1 : Int32) (s : yS) (P : Option Value → yS → Prop) : Prop :=
  ubl_202_2 T  a1 1  s P
set_option maxRecDepth 20000 in
theorem lk_202_0 {d N0 : Nat}  {a1 : Int32} {s : yS} {P : Option Value → yS → Prop}  (h : ub_202_0 (Par d)  a1 s P) : Lb d N0 4 (none) xE_202 (xE_202.drop 0) [.ref 213, .int a1, .null, .null, .null, .null] [] s P := by
  unfold ub_202_0 at h
  refine Lb_w (lb_c [.int 1] (xo_push (.int 1)) rfl rfl ?_)
  refine Lb_w (lb_st [.ref 213, .int a1, .int 1, .null, .null, .null] rfl rfl rfl ?_)
  exact lkl_202_2  h
theorem pb_202 {d : Nat} {a1 : Int32} {s : yS} {P : Option Value → yS → Prop} (h : ub_202_0 (Par d) a1 s P) : Par (d + 1) 202 [.ref 213, .int a1] s P := par_of (E := xE_202) (ml := 4) (ret := none) rfl (fun _ => lk_202_0 h)
/-! codeOfWord -/
def ub_203_113 (T : Nat → List Value → yS → (Option Value → yS → Prop) → Prop) (R113 : Int32 → Int32 → yS → Prop) (a1 : Int32) (a2 : Int32) (s : yS) (P : Option Value → yS → Prop) : Prop :=
  ((0 ≤ (s.1 75).toInt ∧ (s.1 75).toInt < 2) → ((s.2.1 233 (s.1 75).toInt.toNat).toInt ≤ a2.toInt → P (some (.int (-1))) s) ∧ (¬ ((s.2.1 233 (s.1 75).toInt.toNat).toInt ≤ a2.toInt) → ((-2147483648 ≤ 24 * (s.1 75).toInt ∧ 24 * (s.1 75).toInt ≤ 2147483647) → ∀ x1 : Int32, x1.toInt = 24 * (s.1 75).toInt → ((-2147483648 ≤ x1.toInt + a2.toInt ∧ x1.toInt + a2.toInt ≤ 2147483647) → ∀ x2 : Int32, x2.toInt = x1.toInt + a2.toInt → ((0 ≤ x2.toInt ∧ x2.toInt < 48) → ((0 ≤ (s.2.1 234 x2.toInt.toNat).toInt ∧ (s.2.1 234 x2.toInt.toNat).toInt < 12006) → (¬ ((s.2.1 217 (s.2.1 234 x2.toInt.toNat).toInt.toNat).toInt = a1.toInt) → ((-2147483648 ≤ a2.toInt + 1 ∧ a2.toInt + 1 ≤ 2147483647) → ∀ x3 : Int32, x3.toInt = a2.toInt + 1 → R113 a1 x3  s)) ∧ ((s.2.1 217 (s.2.1 234 x2.toInt.toNat).toInt.toNat).toInt = a1.toInt → P (some (.int a2)) s)))))))
set_option maxRecDepth 20000 in
theorem lk_203_113 {d N0 : Nat} {R113 : Int32 → Int32 → yS → Prop} {a1 : Int32} {a2 : Int32} {s : yS} {P : Option Value → yS → Prop} (r113 : ∀ a1 a2 s, R113 a1 a2 s → Lb d N0 3 (some .int) xE_203 (xE_203.drop 113) [.ref 213, .int a1, .int a2, .null, .null] [] s P) (h : ub_203_113 (Par d) R113 a1 a2 s P) : Lb d (N0 + 1) 3 (some .int) xE_203 (xE_203.drop 113) [.ref 213, .int a1, .int a2, .null, .null] [] s P := by
  unfold ub_203_113 at h
  refine lb_ld rfl rfl rfl ?_
  refine Lb_w (lb_ld rfl rfl rfl ?_)
  refine Lb_w (lb_get rfl rfl ?_)
  change Lb _ _ _ _ _ _ _ [.ref 233, .int a2] _ _
  refine Lb_w (lb_ld rfl rfl rfl ?_)
  refine Lb_w (lb_get rfl rfl ?_)
  change Lb _ _ _ _ _ _ _ [.int (s.1 75), .ref 233, .int a2] _ _
  refine Lb_w (lb_ial rfl rfl (fun hk => ?_))
  change Lb _ _ _ _ _ _ _ [.int (s.2.1 233 (s.1 75).toInt.toNat), .int a2] _ _
  replace h := h (kc_in (x := s.1 75) rfl hk)
  refine Lb_w (lb_brP rfl rfl ⟨fun hc => ?_, fun hc => ?_⟩)
  · replace h := h.1 ((i_le (x := s.2.1 233 (s.1 75).toInt.toNat) (y := a2) rfl rfl).mp hc)
    refine Lb_w (lb_c [.int (-1)] (xo_push (.int (-1))) rfl rfl ?_)
    exact Lb_w (lb_retI rfl h)
  · replace h := h.2 (fun q => hc ((i_le (x := s.2.1 233 (s.1 75).toInt.toNat) (y := a2) rfl rfl).mpr q))
    refine Lb_w (lb_ld rfl rfl rfl ?_)
    refine Lb_w (lb_get rfl rfl ?_)
    change Lb _ _ _ _ _ _ _ [.ref 217] _ _
    refine Lb_w (lb_ld rfl rfl rfl ?_)
    refine Lb_w (lb_get rfl rfl ?_)
    change Lb _ _ _ _ _ _ _ [.ref 234, .ref 217] _ _
    refine Lb_w (lb_c [.int 24, .ref 234, .ref 217] (xo_push (.int 24)) rfl rfl ?_)
    refine Lb_w (lb_ld rfl rfl rfl ?_)
    refine Lb_w (lb_get rfl rfl ?_)
    change Lb _ _ _ _ _ _ _ [.int (s.1 75), .int 24, .ref 234, .ref 217] _ _
    refine Lb_w (lb_ca [.int (24 * (s.1 75)), .ref 234, .ref 217] xo_imul rfl rfl (fun _ hk => ?_))
    replace hk := kc_mul (x := 24) (y := s.1 75) (show (24 : Int32).toInt = 24 by decide) rfl hk
    replace h := h hk _ (i_mul (x := 24) (y := s.1 75) (show (24 : Int32).toInt = 24 by decide) rfl hk)
    refine Lb_w (lb_ld rfl rfl rfl ?_)
    refine Lb_w (lb_ca [.int ((24 * (s.1 75)) + a2), .ref 234, .ref 217] xo_iadd rfl rfl (fun _ hk => ?_))
    replace hk := kc_add (x := (24 * (s.1 75))) (y := a2) rfl rfl hk
    replace h := h hk _ (i_add (x := (24 * (s.1 75))) (y := a2) rfl rfl hk)
    refine Lb_w (lb_ial rfl rfl (fun hk => ?_))
    change Lb _ _ _ _ _ _ _ [.int (s.2.1 234 ((24 * (s.1 75)) + a2).toInt.toNat), .ref 217] _ _
    replace h := h (kc_in (x := ((24 * (s.1 75)) + a2)) rfl hk)
    refine Lb_w (lb_ial rfl rfl (fun hk => ?_))
    change Lb _ _ _ _ _ _ _ [.int (s.2.1 217 (s.2.1 234 ((24 * (s.1 75)) + a2).toInt.toNat).toInt.toNat)] _ _
    replace h := h (kc_in (x := s.2.1 234 ((24 * (s.1 75)) + a2).toInt.toNat) rfl hk)
    refine Lb_w (lb_ld rfl rfl rfl ?_)
    refine Lb_w (lb_brN rfl rfl ⟨fun hc => ?_, fun hc => ?_⟩)
    · replace h := h.1 (fun q => hc ((i_eq (x := s.2.1 217 (s.2.1 234 ((24 * (s.1 75)) + a2).toInt.toNat).toInt.toNat) (y := a1) rfl rfl).mpr q))
      refine Lb_w (lb_inc [.ref 213, .int a1, .int (a2 + 1), .null, .null] rfl rfl rfl rfl (fun hk => ?_))
      replace hk := kc_inc (x := a2) (n := 1) rfl hk
      replace h := h hk _ (i_add (x := a2) (y := 1) rfl (show (1 : Int32).toInt = 1 by decide) hk)
      refine Lb_w (lb_go rfl ?_)
      exact r113 a1 (a2 + 1)  s h
    · replace h := h.2 ((i_eq (x := s.2.1 217 (s.2.1 234 ((24 * (s.1 75)) + a2).toInt.toNat).toInt.toNat) (y := a1) rfl rfl).mp hc)
      refine Lb_w (lb_ld rfl rfl rfl ?_)
      exact Lb_w (lb_retI rfl h)
def ubl_203_113 (T : Nat → List Value → yS → (Option Value → yS → Prop) → Prop)  (a1 : Int32) (a2 : Int32) (s : yS) (P : Option Value → yS → Prop) : Prop :=
  ∃ (I : Int32 → Int32 → yS → Prop), I a1 a2 s ∧ ∀ (a1 : Int32) (a2 : Int32) (s : yS), I a1 a2 s → ub_203_113 T I a1 a2 s P
theorem lkl_203_113 {d N0 : Nat}  {a1 : Int32} {a2 : Int32} {s : yS} {P : Option Value → yS → Prop}  (h : ubl_203_113 (Par d)  a1 a2 s P) : Lb d N0 3 (some .int) xE_203 (xE_203.drop 113) [.ref 213, .int a1, .int a2, .null, .null] [] s P := by
  obtain ⟨I, h0, h1⟩ := h
  have key : ∀ (m : Nat), m ≤ N0 → ∀ (a1 : Int32) (a2 : Int32) (s : yS), I a1 a2 s → Lb d m 3 (some .int) xE_203 (xE_203.drop 113) [.ref 213, .int a1, .int a2, .null, .null] [] s P := by
    intro m
    induction m with
    | zero => exact fun _ a1 a2 s _ => Lb_0
    | succ m ih =>
      intro hm
      replace hm : m ≤ N0 := Nat.le_of_succ_le hm
      replace ih := ih hm
      intro a1 a2 s hI
      exact lk_203_113 ih (h1 a1 a2 s hI)
  exact key N0 (Nat.le_refl _) a1 a2 s h0
def ub_203_111 (T : Nat → List Value → yS → (Option Value → yS → Prop) → Prop)  (a1 : Int32) (a2 : Int32) (s : yS) (P : Option Value → yS → Prop) : Prop :=
  ubl_203_113 T  a1 0  s P
set_option maxRecDepth 20000 in
theorem lk_203_111 {d N0 : Nat}  {a1 : Int32} {a2 : Int32} {s : yS} {P : Option Value → yS → Prop}  (h : ub_203_111 (Par d)  a1 a2 s P) : Lb d N0 3 (some .int) xE_203 (xE_203.drop 111) [.ref 213, .int a1, .int a2, .null, .null] [] s P := by
  unfold ub_203_111 at h
  refine Lb_w (lb_c [.int 0] (xo_push (.int 0)) rfl rfl ?_)
  refine Lb_w (lb_st [.ref 213, .int a1, .int 0, .null, .null] rfl rfl rfl ?_)
  exact lkl_203_113  h
def ub_203_84 (T : Nat → List Value → yS → (Option Value → yS → Prop) → Prop)  (a1 : Int32) (a2 : Int32) (s : yS) (P : Option Value → yS → Prop) : Prop :=
  ((s.1 78).toInt < 0 → ub_203_111 T  a1 a2  s P) ∧ (¬ ((s.1 78).toInt < 0) → T 200 [.ref 213, .int (s.1 78), .int a1] s (fun v2 s1 => ∃ x3, v2 = some (.int x3) ∧ ((x3.toInt < 0 → ub_203_111 T  a1 a2  s1 P) ∧ (¬ (x3.toInt < 0) → ((-2147483648 ≤ 60 * (s1.1 75).toInt ∧ 60 * (s1.1 75).toInt ≤ 2147483647) → ∀ x4 : Int32, x4.toInt = 60 * (s1.1 75).toInt → ((-2147483648 ≤ (s1.1 78).toInt - x4.toInt ∧ (s1.1 78).toInt - x4.toInt ≤ 2147483647) → ∀ x5 : Int32, x5.toInt = (s1.1 78).toInt - x4.toInt → ((-2147483648 ≤ 6 * x5.toInt ∧ 6 * x5.toInt ≤ 2147483647) → ∀ x6 : Int32, x6.toInt = 6 * x5.toInt → ((-2147483648 ≤ 4000 + x6.toInt ∧ 4000 + x6.toInt ≤ 2147483647) → ∀ x7 : Int32, x7.toInt = 4000 + x6.toInt → T 200 [.ref 213, .int (s1.1 78), .int a1] s1 (fun v9 s8 => ∃ x10, v9 = some (.int x10) ∧ (((-2147483648 ≤ x7.toInt + x10.toInt ∧ x7.toInt + x10.toInt ≤ 2147483647) → ∀ x11 : Int32, x11.toInt = x7.toInt + x10.toInt → P (some (.int x11)) s8)))))))))))
set_option maxRecDepth 20000 in
theorem lk_203_84 {d N0 : Nat}  {a1 : Int32} {a2 : Int32} {s : yS} {P : Option Value → yS → Prop}  (h : ub_203_84 (Par d)  a1 a2 s P) : Lb d N0 3 (some .int) xE_203 (xE_203.drop 84) [.ref 213, .int a1, .int a2, .null, .null] [] s P := by
  unfold ub_203_84 at h
  refine Lb_w (lb_ld rfl rfl rfl ?_)
  refine Lb_w (lb_get rfl rfl ?_)
  change Lb _ _ _ _ _ _ _ [.int (s.1 78)] _ _
  refine Lb_w (lb_brP rfl rfl ⟨fun hc => ?_, fun hc => ?_⟩)
  · replace h := h.1 ((i_lt (x := s.1 78) (y := 0) rfl (show (0 : Int32).toInt = 0 by decide)).mp hc)
    exact lk_203_111  h
  · replace h := h.2 (fun q => hc ((i_lt (x := s.1 78) (y := 0) rfl (show (0 : Int32).toInt = 0 by decide)).mpr q))
    refine Lb_w (lb_ld rfl rfl rfl ?_)
    refine Lb_w (lb_ld rfl rfl rfl ?_)
    refine Lb_w (lb_get rfl rfl ?_)
    change Lb _ _ _ _ _ _ _ [.int (s.1 78), .ref 213] _ _
    refine Lb_w (lb_ld rfl rfl rfl ?_)
    refine Lb_w (lb_call [.ref 213, .int (s.1 78), .int a1] [] rfl rfl rfl (Par.imp h (fun v2 s1 h => ?_)))
    obtain ⟨x3, rfl, h⟩ := h
    change Lb _ _ _ _ _ _ _ [.int x3] _ _
    refine Lb_w (lb_brP rfl rfl ⟨fun hc => ?_, fun hc => ?_⟩)
    · replace h := h.1 ((i_lt (x := x3) (y := 0) rfl (show (0 : Int32).toInt = 0 by decide)).mp hc)
      exact lk_203_111  h
    · replace h := h.2 (fun q => hc ((i_lt (x := x3) (y := 0) rfl (show (0 : Int32).toInt = 0 by decide)).mpr q))
      refine Lb_w (lb_c [.int 4000] (xo_push (.int 4000)) rfl rfl ?_)
      refine Lb_w (lb_c [.int 6, .int 4000] (xo_push (.int 6)) rfl rfl ?_)
      refine Lb_w (lb_ld rfl rfl rfl ?_)
      refine Lb_w (lb_get rfl rfl ?_)
      change Lb _ _ _ _ _ _ _ [.int (s1.1 78), .int 6, .int 4000] _ _
      refine Lb_w (lb_c [.int 60, .int (s1.1 78), .int 6, .int 4000] (xo_push (.int 60)) rfl rfl ?_)
      refine Lb_w (lb_ld rfl rfl rfl ?_)
      refine Lb_w (lb_get rfl rfl ?_)
      change Lb _ _ _ _ _ _ _ [.int (s1.1 75), .int 60, .int (s1.1 78), .int 6, .int 4000] _ _
      refine Lb_w (lb_ca [.int (60 * (s1.1 75)), .int (s1.1 78), .int 6, .int 4000] xo_imul rfl rfl (fun _ hk => ?_))
      replace hk := kc_mul (x := 60) (y := s1.1 75) (show (60 : Int32).toInt = 60 by decide) rfl hk
      replace h := h hk _ (i_mul (x := 60) (y := s1.1 75) (show (60 : Int32).toInt = 60 by decide) rfl hk)
      refine Lb_w (lb_ca [.int ((s1.1 78) - (60 * (s1.1 75))), .int 6, .int 4000] xo_isub rfl rfl (fun _ hk => ?_))
      replace hk := kc_sub (x := s1.1 78) (y := (60 * (s1.1 75))) rfl rfl hk
      replace h := h hk _ (i_sub (x := s1.1 78) (y := (60 * (s1.1 75))) rfl rfl hk)
      refine Lb_w (lb_ca [.int (6 * ((s1.1 78) - (60 * (s1.1 75)))), .int 4000] xo_imul rfl rfl (fun _ hk => ?_))
      replace hk := kc_mul (x := 6) (y := ((s1.1 78) - (60 * (s1.1 75)))) (show (6 : Int32).toInt = 6 by decide) rfl hk
      replace h := h hk _ (i_mul (x := 6) (y := ((s1.1 78) - (60 * (s1.1 75)))) (show (6 : Int32).toInt = 6 by decide) rfl hk)
      refine Lb_w (lb_ca [.int (4000 + (6 * ((s1.1 78) - (60 * (s1.1 75)))))] xo_iadd rfl rfl (fun _ hk => ?_))
      replace hk := kc_add (x := 4000) (y := (6 * ((s1.1 78) - (60 * (s1.1 75))))) (show (4000 : Int32).toInt = 4000 by decide) rfl hk
      replace h := h hk _ (i_add (x := 4000) (y := (6 * ((s1.1 78) - (60 * (s1.1 75))))) (show (4000 : Int32).toInt = 4000 by decide) rfl hk)
      refine Lb_w (lb_ld rfl rfl rfl ?_)
      refine Lb_w (lb_ld rfl rfl rfl ?_)
      refine Lb_w (lb_get rfl rfl ?_)
      change Lb _ _ _ _ _ _ _ [.int (s1.1 78), .ref 213, .int (4000 + (6 * ((s1.1 78) - (60 * (s1.1 75)))))] _ _
      refine Lb_w (lb_ld rfl rfl rfl ?_)
      refine Lb_w (lb_call [.ref 213, .int (s1.1 78), .int a1] [.int (4000 + (6 * ((s1.1 78) - (60 * (s1.1 75)))))] rfl rfl rfl (Par.imp h (fun v9 s8 h => ?_)))
      obtain ⟨x10, rfl, h⟩ := h
      change Lb _ _ _ _ _ _ _ [.int x10, .int (4000 + (6 * ((s1.1 78) - (60 * (s1.1 75)))))] _ _
      refine Lb_w (lb_ca [.int ((4000 + (6 * ((s1.1 78) - (60 * (s1.1 75))))) + x10)] xo_iadd rfl rfl (fun _ hk => ?_))
      replace hk := kc_add (x := (4000 + (6 * ((s1.1 78) - (60 * (s1.1 75)))))) (y := x10) rfl rfl hk
      replace h := h hk _ (i_add (x := (4000 + (6 * ((s1.1 78) - (60 * (s1.1 75)))))) (y := x10) rfl rfl hk)
      exact Lb_w (lb_retI rfl h)
def ub_203_44 (T : Nat → List Value → yS → (Option Value → yS → Prop) → Prop) (R44 : Int32 → Int32 → yS → Prop) (a1 : Int32) (a2 : Int32) (s : yS) (P : Option Value → yS → Prop) : Prop :=
  ((s.1 76).toInt < 0 → ub_203_84 T  a1 a2  s P) ∧ (¬ ((s.1 76).toInt < 0) → ((0 ≤ (s.1 76).toInt ∧ (s.1 76).toInt < 48) → ((s.2.1 236 (s.1 76).toInt.toNat).toInt ≤ a2.toInt → ub_203_84 T  a1 a2  s P) ∧ (¬ ((s.2.1 236 (s.1 76).toInt.toNat).toInt ≤ a2.toInt) → ((-2147483648 ≤ 6 * (s.1 76).toInt ∧ 6 * (s.1 76).toInt ≤ 2147483647) → ∀ x1 : Int32, x1.toInt = 6 * (s.1 76).toInt → ((-2147483648 ≤ x1.toInt + a2.toInt ∧ x1.toInt + a2.toInt ≤ 2147483647) → ∀ x2 : Int32, x2.toInt = x1.toInt + a2.toInt → ((0 ≤ x2.toInt ∧ x2.toInt < 288) → ((0 ≤ (s.2.1 237 x2.toInt.toNat).toInt ∧ (s.2.1 237 x2.toInt.toNat).toInt < 12006) → (¬ ((s.2.1 217 (s.2.1 237 x2.toInt.toNat).toInt.toNat).toInt = a1.toInt) → ((-2147483648 ≤ a2.toInt + 1 ∧ a2.toInt + 1 ≤ 2147483647) → ∀ x3 : Int32, x3.toInt = a2.toInt + 1 → R44 a1 x3  s)) ∧ ((s.2.1 217 (s.2.1 237 x2.toInt.toNat).toInt.toNat).toInt = a1.toInt → ((-2147483648 ≤ 24 * (s.1 75).toInt ∧ 24 * (s.1 75).toInt ≤ 2147483647) → ∀ x4 : Int32, x4.toInt = 24 * (s.1 75).toInt → ((-2147483648 ≤ (s.1 76).toInt - x4.toInt ∧ (s.1 76).toInt - x4.toInt ≤ 2147483647) → ∀ x5 : Int32, x5.toInt = (s.1 76).toInt - x4.toInt → ((-2147483648 ≤ 6 * x5.toInt ∧ 6 * x5.toInt ≤ 2147483647) → ∀ x6 : Int32, x6.toInt = 6 * x5.toInt → ((-2147483648 ≤ 1000 + x6.toInt ∧ 1000 + x6.toInt ≤ 2147483647) → ∀ x7 : Int32, x7.toInt = 1000 + x6.toInt → ((-2147483648 ≤ x7.toInt + a2.toInt ∧ x7.toInt + a2.toInt ≤ 2147483647) → ∀ x8 : Int32, x8.toInt = x7.toInt + a2.toInt → P (some (.int x8)) s)))))))))))))
set_option maxRecDepth 20000 in
theorem lk_203_44 {d N0 : Nat} {R44 : Int32 → Int32 → yS → Prop} {a1 : Int32} {a2 : Int32} {s : yS} {P : Option Value → yS → Prop} (r44 : ∀ a1 a2 s, R44 a1 a2 s → Lb d N0 3 (some .int) xE_203 (xE_203.drop 44) [.ref 213, .int a1, .int a2, .null, .null] [] s P) (h : ub_203_44 (Par d) R44 a1 a2 s P) : Lb d (N0 + 1) 3 (some .int) xE_203 (xE_203.drop 44) [.ref 213, .int a1, .int a2, .null, .null] [] s P := by
  unfold ub_203_44 at h
  refine lb_ld rfl rfl rfl ?_
  refine Lb_w (lb_get rfl rfl ?_)
  change Lb _ _ _ _ _ _ _ [.int (s.1 76)] _ _
  refine Lb_w (lb_brP rfl rfl ⟨fun hc => ?_, fun hc => ?_⟩)
  · replace h := h.1 ((i_lt (x := s.1 76) (y := 0) rfl (show (0 : Int32).toInt = 0 by decide)).mp hc)
    exact lk_203_84  h
  · replace h := h.2 (fun q => hc ((i_lt (x := s.1 76) (y := 0) rfl (show (0 : Int32).toInt = 0 by decide)).mpr q))
    refine Lb_w (lb_ld rfl rfl rfl ?_)
    refine Lb_w (lb_ld rfl rfl rfl ?_)
    refine Lb_w (lb_get rfl rfl ?_)
    change Lb _ _ _ _ _ _ _ [.ref 236, .int a2] _ _
    refine Lb_w (lb_ld rfl rfl rfl ?_)
    refine Lb_w (lb_get rfl rfl ?_)
    change Lb _ _ _ _ _ _ _ [.int (s.1 76), .ref 236, .int a2] _ _
    refine Lb_w (lb_ial rfl rfl (fun hk => ?_))
    change Lb _ _ _ _ _ _ _ [.int (s.2.1 236 (s.1 76).toInt.toNat), .int a2] _ _
    replace h := h (kc_in (x := s.1 76) rfl hk)
    refine Lb_w (lb_brP rfl rfl ⟨fun hc => ?_, fun hc => ?_⟩)
    · replace h := h.1 ((i_le (x := s.2.1 236 (s.1 76).toInt.toNat) (y := a2) rfl rfl).mp hc)
      exact lk_203_84  h
    · replace h := h.2 (fun q => hc ((i_le (x := s.2.1 236 (s.1 76).toInt.toNat) (y := a2) rfl rfl).mpr q))
      refine Lb_w (lb_ld rfl rfl rfl ?_)
      refine Lb_w (lb_get rfl rfl ?_)
      change Lb _ _ _ _ _ _ _ [.ref 217] _ _
      refine Lb_w (lb_ld rfl rfl rfl ?_)
      refine Lb_w (lb_get rfl rfl ?_)
      change Lb _ _ _ _ _ _ _ [.ref 237, .ref 217] _ _
      refine Lb_w (lb_c [.int 6, .ref 237, .ref 217] (xo_push (.int 6)) rfl rfl ?_)
      refine Lb_w (lb_ld rfl rfl rfl ?_)
      refine Lb_w (lb_get rfl rfl ?_)
      change Lb _ _ _ _ _ _ _ [.int (s.1 76), .int 6, .ref 237, .ref 217] _ _
      refine Lb_w (lb_ca [.int (6 * (s.1 76)), .ref 237, .ref 217] xo_imul rfl rfl (fun _ hk => ?_))
      replace hk := kc_mul (x := 6) (y := s.1 76) (show (6 : Int32).toInt = 6 by decide) rfl hk
      replace h := h hk _ (i_mul (x := 6) (y := s.1 76) (show (6 : Int32).toInt = 6 by decide) rfl hk)
      refine Lb_w (lb_ld rfl rfl rfl ?_)
      refine Lb_w (lb_ca [.int ((6 * (s.1 76)) + a2), .ref 237, .ref 217] xo_iadd rfl rfl (fun _ hk => ?_))
      replace hk := kc_add (x := (6 * (s.1 76))) (y := a2) rfl rfl hk
      replace h := h hk _ (i_add (x := (6 * (s.1 76))) (y := a2) rfl rfl hk)
      refine Lb_w (lb_ial rfl rfl (fun hk => ?_))
      change Lb _ _ _ _ _ _ _ [.int (s.2.1 237 ((6 * (s.1 76)) + a2).toInt.toNat), .ref 217] _ _
      replace h := h (kc_in (x := ((6 * (s.1 76)) + a2)) rfl hk)
      refine Lb_w (lb_ial rfl rfl (fun hk => ?_))
      change Lb _ _ _ _ _ _ _ [.int (s.2.1 217 (s.2.1 237 ((6 * (s.1 76)) + a2).toInt.toNat).toInt.toNat)] _ _
      replace h := h (kc_in (x := s.2.1 237 ((6 * (s.1 76)) + a2).toInt.toNat) rfl hk)
      refine Lb_w (lb_ld rfl rfl rfl ?_)
      refine Lb_w (lb_brN rfl rfl ⟨fun hc => ?_, fun hc => ?_⟩)
      · replace h := h.1 (fun q => hc ((i_eq (x := s.2.1 217 (s.2.1 237 ((6 * (s.1 76)) + a2).toInt.toNat).toInt.toNat) (y := a1) rfl rfl).mpr q))
        refine Lb_w (lb_inc [.ref 213, .int a1, .int (a2 + 1), .null, .null] rfl rfl rfl rfl (fun hk => ?_))
        replace hk := kc_inc (x := a2) (n := 1) rfl hk
        replace h := h hk _ (i_add (x := a2) (y := 1) rfl (show (1 : Int32).toInt = 1 by decide) hk)
        refine Lb_w (lb_go rfl ?_)
        exact r44 a1 (a2 + 1)  s h
      · replace h := h.2 ((i_eq (x := s.2.1 217 (s.2.1 237 ((6 * (s.1 76)) + a2).toInt.toNat).toInt.toNat) (y := a1) rfl rfl).mp hc)
        refine Lb_w (lb_c [.int 1000] (xo_push (.int 1000)) rfl rfl ?_)
        refine Lb_w (lb_c [.int 6, .int 1000] (xo_push (.int 6)) rfl rfl ?_)
        refine Lb_w (lb_ld rfl rfl rfl ?_)
        refine Lb_w (lb_get rfl rfl ?_)
        change Lb _ _ _ _ _ _ _ [.int (s.1 76), .int 6, .int 1000] _ _
        refine Lb_w (lb_c [.int 24, .int (s.1 76), .int 6, .int 1000] (xo_push (.int 24)) rfl rfl ?_)
        refine Lb_w (lb_ld rfl rfl rfl ?_)
        refine Lb_w (lb_get rfl rfl ?_)
        change Lb _ _ _ _ _ _ _ [.int (s.1 75), .int 24, .int (s.1 76), .int 6, .int 1000] _ _
        refine Lb_w (lb_ca [.int (24 * (s.1 75)), .int (s.1 76), .int 6, .int 1000] xo_imul rfl rfl (fun _ hk => ?_))
        replace hk := kc_mul (x := 24) (y := s.1 75) (show (24 : Int32).toInt = 24 by decide) rfl hk
        replace h := h hk _ (i_mul (x := 24) (y := s.1 75) (show (24 : Int32).toInt = 24 by decide) rfl hk)
        refine Lb_w (lb_ca [.int ((s.1 76) - (24 * (s.1 75))), .int 6, .int 1000] xo_isub rfl rfl (fun _ hk => ?_))
        replace hk := kc_sub (x := s.1 76) (y := (24 * (s.1 75))) rfl rfl hk
        replace h := h hk _ (i_sub (x := s.1 76) (y := (24 * (s.1 75))) rfl rfl hk)
        refine Lb_w (lb_ca [.int (6 * ((s.1 76) - (24 * (s.1 75)))), .int 1000] xo_imul rfl rfl (fun _ hk => ?_))
        replace hk := kc_mul (x := 6) (y := ((s.1 76) - (24 * (s.1 75)))) (show (6 : Int32).toInt = 6 by decide) rfl hk
        replace h := h hk _ (i_mul (x := 6) (y := ((s.1 76) - (24 * (s.1 75)))) (show (6 : Int32).toInt = 6 by decide) rfl hk)
        refine Lb_w (lb_ca [.int (1000 + (6 * ((s.1 76) - (24 * (s.1 75)))))] xo_iadd rfl rfl (fun _ hk => ?_))
        replace hk := kc_add (x := 1000) (y := (6 * ((s.1 76) - (24 * (s.1 75))))) (show (1000 : Int32).toInt = 1000 by decide) rfl hk
        replace h := h hk _ (i_add (x := 1000) (y := (6 * ((s.1 76) - (24 * (s.1 75))))) (show (1000 : Int32).toInt = 1000 by decide) rfl hk)
        refine Lb_w (lb_ld rfl rfl rfl ?_)
        refine Lb_w (lb_ca [.int ((1000 + (6 * ((s.1 76) - (24 * (s.1 75))))) + a2)] xo_iadd rfl rfl (fun _ hk => ?_))
        replace hk := kc_add (x := (1000 + (6 * ((s.1 76) - (24 * (s.1 75)))))) (y := a2) rfl rfl hk
        replace h := h hk _ (i_add (x := (1000 + (6 * ((s.1 76) - (24 * (s.1 75)))))) (y := a2) rfl rfl hk)
        exact Lb_w (lb_retI rfl h)
def ubl_203_44 (T : Nat → List Value → yS → (Option Value → yS → Prop) → Prop)  (a1 : Int32) (a2 : Int32) (s : yS) (P : Option Value → yS → Prop) : Prop :=
  ∃ (I : Int32 → Int32 → yS → Prop), I a1 a2 s ∧ ∀ (a1 : Int32) (a2 : Int32) (s : yS), I a1 a2 s → ub_203_44 T I a1 a2 s P
theorem lkl_203_44 {d N0 : Nat}  {a1 : Int32} {a2 : Int32} {s : yS} {P : Option Value → yS → Prop}  (h : ubl_203_44 (Par d)  a1 a2 s P) : Lb d N0 3 (some .int) xE_203 (xE_203.drop 44) [.ref 213, .int a1, .int a2, .null, .null] [] s P := by
  obtain ⟨I, h0, h1⟩ := h
  have key : ∀ (m : Nat), m ≤ N0 → ∀ (a1 : Int32) (a2 : Int32) (s : yS), I a1 a2 s → Lb d m 3 (some .int) xE_203 (xE_203.drop 44) [.ref 213, .int a1, .int a2, .null, .null] [] s P := by
    intro m
    induction m with
    | zero => exact fun _ a1 a2 s _ => Lb_0
    | succ m ih =>
      intro hm
      replace hm : m ≤ N0 := Nat.le_of_succ_le hm
      replace ih := ih hm
      intro a1 a2 s hI
      exact lk_203_44 ih (h1 a1 a2 s hI)
  exact key N0 (Nat.le_refl _) a1 a2 s h0
def ub_203_42 (T : Nat → List Value → yS → (Option Value → yS → Prop) → Prop)  (a1 : Int32) (a2 : Int32) (s : yS) (P : Option Value → yS → Prop) : Prop :=
  ubl_203_44 T  a1 0  s P
set_option maxRecDepth 20000 in
theorem lk_203_42 {d N0 : Nat}  {a1 : Int32} {a2 : Int32} {s : yS} {P : Option Value → yS → Prop}  (h : ub_203_42 (Par d)  a1 a2 s P) : Lb d N0 3 (some .int) xE_203 (xE_203.drop 42) [.ref 213, .int a1, .int a2, .null, .null] [] s P := by
  unfold ub_203_42 at h
  refine Lb_w (lb_c [.int 0] (xo_push (.int 0)) rfl rfl ?_)
  refine Lb_w (lb_st [.ref 213, .int a1, .int 0, .null, .null] rfl rfl rfl ?_)
  exact lkl_203_44  h
def ub_203_2 (T : Nat → List Value → yS → (Option Value → yS → Prop) → Prop) (R2 : Int32 → Int32 → yS → Prop) (a1 : Int32) (a2 : Int32) (s : yS) (P : Option Value → yS → Prop) : Prop :=
  ((s.1 77).toInt < 0 → ub_203_42 T  a1 a2  s P) ∧ (¬ ((s.1 77).toInt < 0) → ((0 ≤ (s.1 77).toInt ∧ (s.1 77).toInt < 408) → ((s.2.1 245 (s.1 77).toInt.toNat).toInt ≤ a2.toInt → ub_203_42 T  a1 a2  s P) ∧ (¬ ((s.2.1 245 (s.1 77).toInt.toNat).toInt ≤ a2.toInt) → ((-2147483648 ≤ 6 * (s.1 77).toInt ∧ 6 * (s.1 77).toInt ≤ 2147483647) → ∀ x1 : Int32, x1.toInt = 6 * (s.1 77).toInt → ((-2147483648 ≤ x1.toInt + a2.toInt ∧ x1.toInt + a2.toInt ≤ 2147483647) → ∀ x2 : Int32, x2.toInt = x1.toInt + a2.toInt → ((0 ≤ x2.toInt ∧ x2.toInt < 2448) → ((0 ≤ (s.2.1 246 x2.toInt.toNat).toInt ∧ (s.2.1 246 x2.toInt.toNat).toInt < 12006) → (¬ ((s.2.1 217 (s.2.1 246 x2.toInt.toNat).toInt.toNat).toInt = a1.toInt) → ((-2147483648 ≤ a2.toInt + 1 ∧ a2.toInt + 1 ≤ 2147483647) → ∀ x3 : Int32, x3.toInt = a2.toInt + 1 → R2 a1 x3  s)) ∧ ((s.2.1 217 (s.2.1 246 x2.toInt.toNat).toInt.toNat).toInt = a1.toInt → ((-2147483648 ≤ 204 * (s.1 75).toInt ∧ 204 * (s.1 75).toInt ≤ 2147483647) → ∀ x4 : Int32, x4.toInt = 204 * (s.1 75).toInt → ((-2147483648 ≤ (s.1 77).toInt - x4.toInt ∧ (s.1 77).toInt - x4.toInt ≤ 2147483647) → ∀ x5 : Int32, x5.toInt = (s.1 77).toInt - x4.toInt → ((-2147483648 ≤ 6 * x5.toInt ∧ 6 * x5.toInt ≤ 2147483647) → ∀ x6 : Int32, x6.toInt = 6 * x5.toInt → ((-2147483648 ≤ 2000 + x6.toInt ∧ 2000 + x6.toInt ≤ 2147483647) → ∀ x7 : Int32, x7.toInt = 2000 + x6.toInt → ((-2147483648 ≤ x7.toInt + a2.toInt ∧ x7.toInt + a2.toInt ≤ 2147483647) → ∀ x8 : Int32, x8.toInt = x7.toInt + a2.toInt → P (some (.int x8)) s)))))))))))))
set_option maxRecDepth 20000 in
theorem lk_203_2 {d N0 : Nat} {R2 : Int32 → Int32 → yS → Prop} {a1 : Int32} {a2 : Int32} {s : yS} {P : Option Value → yS → Prop} (r2 : ∀ a1 a2 s, R2 a1 a2 s → Lb d N0 3 (some .int) xE_203 (xE_203.drop 2) [.ref 213, .int a1, .int a2, .null, .null] [] s P) (h : ub_203_2 (Par d) R2 a1 a2 s P) : Lb d (N0 + 1) 3 (some .int) xE_203 (xE_203.drop 2) [.ref 213, .int a1, .int a2, .null, .null] [] s P := by
  unfold ub_203_2 at h
  refine lb_ld rfl rfl rfl ?_
  refine Lb_w (lb_get rfl rfl ?_)
  change Lb _ _ _ _ _ _ _ [.int (s.1 77)] _ _
  refine Lb_w (lb_brP rfl rfl ⟨fun hc => ?_, fun hc => ?_⟩)
  · replace h := h.1 ((i_lt (x := s.1 77) (y := 0) rfl (show (0 : Int32).toInt = 0 by decide)).mp hc)
    exact lk_203_42  h
  · replace h := h.2 (fun q => hc ((i_lt (x := s.1 77) (y := 0) rfl (show (0 : Int32).toInt = 0 by decide)).mpr q))
    refine Lb_w (lb_ld rfl rfl rfl ?_)
    refine Lb_w (lb_ld rfl rfl rfl ?_)
    refine Lb_w (lb_get rfl rfl ?_)
    change Lb _ _ _ _ _ _ _ [.ref 245, .int a2] _ _
    refine Lb_w (lb_ld rfl rfl rfl ?_)
    refine Lb_w (lb_get rfl rfl ?_)
    change Lb _ _ _ _ _ _ _ [.int (s.1 77), .ref 245, .int a2] _ _
    refine Lb_w (lb_ial rfl rfl (fun hk => ?_))
    change Lb _ _ _ _ _ _ _ [.int (s.2.1 245 (s.1 77).toInt.toNat), .int a2] _ _
    replace h := h (kc_in (x := s.1 77) rfl hk)
    refine Lb_w (lb_brP rfl rfl ⟨fun hc => ?_, fun hc => ?_⟩)
    · replace h := h.1 ((i_le (x := s.2.1 245 (s.1 77).toInt.toNat) (y := a2) rfl rfl).mp hc)
      exact lk_203_42  h
    · replace h := h.2 (fun q => hc ((i_le (x := s.2.1 245 (s.1 77).toInt.toNat) (y := a2) rfl rfl).mpr q))
      refine Lb_w (lb_ld rfl rfl rfl ?_)
      refine Lb_w (lb_get rfl rfl ?_)
      change Lb _ _ _ _ _ _ _ [.ref 217] _ _
      refine Lb_w (lb_ld rfl rfl rfl ?_)
      refine Lb_w (lb_get rfl rfl ?_)
      change Lb _ _ _ _ _ _ _ [.ref 246, .ref 217] _ _
      refine Lb_w (lb_c [.int 6, .ref 246, .ref 217] (xo_push (.int 6)) rfl rfl ?_)
      refine Lb_w (lb_ld rfl rfl rfl ?_)
      refine Lb_w (lb_get rfl rfl ?_)
      change Lb _ _ _ _ _ _ _ [.int (s.1 77), .int 6, .ref 246, .ref 217] _ _
      refine Lb_w (lb_ca [.int (6 * (s.1 77)), .ref 246, .ref 217] xo_imul rfl rfl (fun _ hk => ?_))
      replace hk := kc_mul (x := 6) (y := s.1 77) (show (6 : Int32).toInt = 6 by decide) rfl hk
      replace h := h hk _ (i_mul (x := 6) (y := s.1 77) (show (6 : Int32).toInt = 6 by decide) rfl hk)
      refine Lb_w (lb_ld rfl rfl rfl ?_)
      refine Lb_w (lb_ca [.int ((6 * (s.1 77)) + a2), .ref 246, .ref 217] xo_iadd rfl rfl (fun _ hk => ?_))
      replace hk := kc_add (x := (6 * (s.1 77))) (y := a2) rfl rfl hk
      replace h := h hk _ (i_add (x := (6 * (s.1 77))) (y := a2) rfl rfl hk)
      refine Lb_w (lb_ial rfl rfl (fun hk => ?_))
      change Lb _ _ _ _ _ _ _ [.int (s.2.1 246 ((6 * (s.1 77)) + a2).toInt.toNat), .ref 217] _ _
      replace h := h (kc_in (x := ((6 * (s.1 77)) + a2)) rfl hk)
      refine Lb_w (lb_ial rfl rfl (fun hk => ?_))
      change Lb _ _ _ _ _ _ _ [.int (s.2.1 217 (s.2.1 246 ((6 * (s.1 77)) + a2).toInt.toNat).toInt.toNat)] _ _
      replace h := h (kc_in (x := s.2.1 246 ((6 * (s.1 77)) + a2).toInt.toNat) rfl hk)
      refine Lb_w (lb_ld rfl rfl rfl ?_)
      refine Lb_w (lb_brN rfl rfl ⟨fun hc => ?_, fun hc => ?_⟩)
      · replace h := h.1 (fun q => hc ((i_eq (x := s.2.1 217 (s.2.1 246 ((6 * (s.1 77)) + a2).toInt.toNat).toInt.toNat) (y := a1) rfl rfl).mpr q))
        refine Lb_w (lb_inc [.ref 213, .int a1, .int (a2 + 1), .null, .null] rfl rfl rfl rfl (fun hk => ?_))
        replace hk := kc_inc (x := a2) (n := 1) rfl hk
        replace h := h hk _ (i_add (x := a2) (y := 1) rfl (show (1 : Int32).toInt = 1 by decide) hk)
        refine Lb_w (lb_go rfl ?_)
        exact r2 a1 (a2 + 1)  s h
      · replace h := h.2 ((i_eq (x := s.2.1 217 (s.2.1 246 ((6 * (s.1 77)) + a2).toInt.toNat).toInt.toNat) (y := a1) rfl rfl).mp hc)
        refine Lb_w (lb_c [.int 2000] (xo_push (.int 2000)) rfl rfl ?_)
        refine Lb_w (lb_c [.int 6, .int 2000] (xo_push (.int 6)) rfl rfl ?_)
        refine Lb_w (lb_ld rfl rfl rfl ?_)
        refine Lb_w (lb_get rfl rfl ?_)
        change Lb _ _ _ _ _ _ _ [.int (s.1 77), .int 6, .int 2000] _ _
        refine Lb_w (lb_c [.int 204, .int (s.1 77), .int 6, .int 2000] (xo_push (.int 204)) rfl rfl ?_)
        refine Lb_w (lb_ld rfl rfl rfl ?_)
        refine Lb_w (lb_get rfl rfl ?_)
        change Lb _ _ _ _ _ _ _ [.int (s.1 75), .int 204, .int (s.1 77), .int 6, .int 2000] _ _
        refine Lb_w (lb_ca [.int (204 * (s.1 75)), .int (s.1 77), .int 6, .int 2000] xo_imul rfl rfl (fun _ hk => ?_))
        replace hk := kc_mul (x := 204) (y := s.1 75) (show (204 : Int32).toInt = 204 by decide) rfl hk
        replace h := h hk _ (i_mul (x := 204) (y := s.1 75) (show (204 : Int32).toInt = 204 by decide) rfl hk)
        refine Lb_w (lb_ca [.int ((s.1 77) - (204 * (s.1 75))), .int 6, .int 2000] xo_isub rfl rfl (fun _ hk => ?_))
        replace hk := kc_sub (x := s.1 77) (y := (204 * (s.1 75))) rfl rfl hk
        replace h := h hk _ (i_sub (x := s.1 77) (y := (204 * (s.1 75))) rfl rfl hk)
        refine Lb_w (lb_ca [.int (6 * ((s.1 77) - (204 * (s.1 75)))), .int 2000] xo_imul rfl rfl (fun _ hk => ?_))
        replace hk := kc_mul (x := 6) (y := ((s.1 77) - (204 * (s.1 75)))) (show (6 : Int32).toInt = 6 by decide) rfl hk
        replace h := h hk _ (i_mul (x := 6) (y := ((s.1 77) - (204 * (s.1 75)))) (show (6 : Int32).toInt = 6 by decide) rfl hk)
        refine Lb_w (lb_ca [.int (2000 + (6 * ((s.1 77) - (204 * (s.1 75)))))] xo_iadd rfl rfl (fun _ hk => ?_))
        replace hk := kc_add (x := 2000) (y := (6 * ((s.1 77) - (204 * (s.1 75))))) (show (2000 : Int32).toInt = 2000 by decide) rfl hk
        replace h := h hk _ (i_add (x := 2000) (y := (6 * ((s.1 77) - (204 * (s.1 75))))) (show (2000 : Int32).toInt = 2000 by decide) rfl hk)
        refine Lb_w (lb_ld rfl rfl rfl ?_)
        refine Lb_w (lb_ca [.int ((2000 + (6 * ((s.1 77) - (204 * (s.1 75))))) + a2)] xo_iadd rfl rfl (fun _ hk => ?_))
        replace hk := kc_add (x := (2000 + (6 * ((s.1 77) - (204 * (s.1 75)))))) (y := a2) rfl rfl hk
        replace h := h hk _ (i_add (x := (2000 + (6 * ((s.1 77) - (204 * (s.1 75)))))) (y := a2) rfl rfl hk)
        exact Lb_w (lb_retI rfl h)
def ubl_203_2 (T : Nat → List Value → yS → (Option Value → yS → Prop) → Prop)  (a1 : Int32) (a2 : Int32) (s : yS) (P : Option Value → yS → Prop) : Prop :=
  ∃ (I : Int32 → Int32 → yS → Prop), I a1 a2 s ∧ ∀ (a1 : Int32) (a2 : Int32) (s : yS), I a1 a2 s → ub_203_2 T I a1 a2 s P
theorem lkl_203_2 {d N0 : Nat}  {a1 : Int32} {a2 : Int32} {s : yS} {P : Option Value → yS → Prop}  (h : ubl_203_2 (Par d)  a1 a2 s P) : Lb d N0 3 (some .int) xE_203 (xE_203.drop 2) [.ref 213, .int a1, .int a2, .null, .null] [] s P := by
  obtain ⟨I, h0, h1⟩ := h
  have key : ∀ (m : Nat), m ≤ N0 → ∀ (a1 : Int32) (a2 : Int32) (s : yS), I a1 a2 s → Lb d m 3 (some .int) xE_203 (xE_203.drop 2) [.ref 213, .int a1, .int a2, .null, .null] [] s P := by
    intro m
    induction m with
    | zero => exact fun _ a1 a2 s _ => Lb_0
    | succ m ih =>
      intro hm
      replace hm : m ≤ N0 := Nat.le_of_succ_le hm
      replace ih := ih hm
      intro a1 a2 s hI
      exact lk_203_2 ih (h1 a1 a2 s hI)
  exact key N0 (Nat.le_refl _) a1 a2 s h0
def ub_203_0 (T : Nat → List Value → yS → (Option Value → yS → Prop) → Prop)  (a1 : Int32) (s : yS) (P : Option Value → yS → Prop) : Prop :=
  ubl_203_2 T  a1 0  s P
set_option maxRecDepth 20000 in
theorem lk_203_0 {d N0 : Nat}  {a1 : Int32} {s : yS} {P : Option Value → yS → Prop}  (h : ub_203_0 (Par d)  a1 s P) : Lb d N0 3 (some .int) xE_203 (xE_203.drop 0) [.ref 213, .int a1, .null, .null, .null] [] s P := by
  unfold ub_203_0 at h
  refine Lb_w (lb_c [.int 0] (xo_push (.int 0)) rfl rfl ?_)
  refine Lb_w (lb_st [.ref 213, .int a1, .int 0, .null, .null] rfl rfl rfl ?_)
  exact lkl_203_2  h
theorem pb_203 {d : Nat} {a1 : Int32} {s : yS} {P : Option Value → yS → Prop} (h : ub_203_0 (Par d) a1 s P) : Par (d + 1) 203 [.ref 213, .int a1] s P := par_of (E := xE_203) (ml := 3) (ret := some .int) rfl (fun _ => lk_203_0 h)
/-! resolve -/
def ub_204_141 (T : Nat → List Value → yS → (Option Value → yS → Prop) → Prop)  (a1 : Int32) (a2 : Int32) (a3 : Int32) (a4 : Int32) (a5 : Int32) (s : yS) (P : Option Value → yS → Prop) : Prop :=
  P none s
set_option maxRecDepth 20000 in
theorem lk_204_141 {d N0 : Nat}  {a1 : Int32} {a2 : Int32} {a3 : Int32} {a4 : Int32} {a5 : Int32} {s : yS} {P : Option Value → yS → Prop}  (h : ub_204_141 (Par d)  a1 a2 a3 a4 a5 s P) : Lb d N0 6 (none) xE_204 (xE_204.drop 141) [.ref 213, .int a1, .int a2, .int a3, .int a4, .int a5, .null, .null, .null] [] s P := by
  unfold ub_204_141 at h
  exact Lb_w (lb_ret0 rfl h)
def ub_204_117 (T : Nat → List Value → yS → (Option Value → yS → Prop) → Prop)  (a1 : Int32) (a2 : Int32) (a3 : Int32) (a4 : Int32) (a5 : Int32) (s : yS) (P : Option Value → yS → Prop) : Prop :=
  ((0 ≤ a1.toInt ∧ a1.toInt < 12006) → ((-2147483648 ≤ (s.1 65).toInt - (s.2.1 231 a1.toInt.toNat).toInt ∧ (s.1 65).toInt - (s.2.1 231 a1.toInt.toNat).toInt ≤ 2147483647) → ∀ x1 : Int32, x1.toInt = (s.1 65).toInt - (s.2.1 231 a1.toInt.toNat).toInt → ((0 ≤ a1.toInt ∧ a1.toInt < 12006) → ∀ s2, s2 = sa s 232 a1.toInt.toNat x1 → ((0 ≤ a1.toInt ∧ a1.toInt < 12006) → ((s2.2.1 232 a1.toInt.toNat).toInt ≤ 60 → ub_204_141 T  a1 a2 a3 a4 a5  s2 P) ∧ (¬ ((s2.2.1 232 a1.toInt.toNat).toInt ≤ 60) → ((0 ≤ a1.toInt ∧ a1.toInt < 12006) → T 163 [.ref 213, .int 9, .int (s2.2.1 222 a1.toInt.toNat)] s2 (fun v4 s3 => v4 = none ∧ (ub_204_141 T  a1 a2 a3 a4 a5  s3 P))))))))
set_option maxRecDepth 20000 in
theorem lk_204_117 {d N0 : Nat}  {a1 : Int32} {a2 : Int32} {a3 : Int32} {a4 : Int32} {a5 : Int32} {s : yS} {P : Option Value → yS → Prop}  (h : ub_204_117 (Par d)  a1 a2 a3 a4 a5 s P) : Lb d N0 6 (none) xE_204 (xE_204.drop 117) [.ref 213, .int a1, .int a2, .int a3, .int a4, .int a5, .null, .null, .null] [] s P := by
  unfold ub_204_117 at h
  refine Lb_w (lb_ld rfl rfl rfl ?_)
  refine Lb_w (lb_get rfl rfl ?_)
  change Lb _ _ _ _ _ _ _ [.ref 232] _ _
  refine Lb_w (lb_ld rfl rfl rfl ?_)
  refine Lb_w (lb_ld rfl rfl rfl ?_)
  refine Lb_w (lb_get rfl rfl ?_)
  change Lb _ _ _ _ _ _ _ [.int (s.1 65), .int a1, .ref 232] _ _
  refine Lb_w (lb_ld rfl rfl rfl ?_)
  refine Lb_w (lb_get rfl rfl ?_)
  change Lb _ _ _ _ _ _ _ [.ref 231, .int (s.1 65), .int a1, .ref 232] _ _
  refine Lb_w (lb_ld rfl rfl rfl ?_)
  refine Lb_w (lb_ial rfl rfl (fun hk => ?_))
  change Lb _ _ _ _ _ _ _ [.int (s.2.1 231 a1.toInt.toNat), .int (s.1 65), .int a1, .ref 232] _ _
  replace h := h (kc_in (x := a1) rfl hk)
  refine Lb_w (lb_ca [.int ((s.1 65) - (s.2.1 231 a1.toInt.toNat)), .int a1, .ref 232] xo_isub rfl rfl (fun _ hk => ?_))
  replace hk := kc_sub (x := s.1 65) (y := s.2.1 231 a1.toInt.toNat) rfl rfl hk
  replace h := h hk _ (i_sub (x := s.1 65) (y := s.2.1 231 a1.toInt.toNat) rfl rfl hk)
  refine Lb_w (lb_ias rfl rfl (fun hk => ?_))
  replace h := h (kc_in (x := a1) rfl hk)
  replace h := h _ rfl
  refine Lb_w (lb_ld rfl rfl rfl ?_)
  refine Lb_w (lb_get rfl rfl ?_)
  change Lb _ _ _ _ _ _ _ [.ref 232] _ _
  refine Lb_w (lb_ld rfl rfl rfl ?_)
  refine Lb_w (lb_ial rfl rfl (fun hk => ?_))
  change Lb _ _ _ _ _ _ _ [.int ((sa s 232 a1.toInt.toNat ((s.1 65) - (s.2.1 231 a1.toInt.toNat))).2.1 232 a1.toInt.toNat)] _ _
  replace h := h (kc_in (x := a1) rfl hk)
  refine Lb_w (lb_c [.int 60, .int ((sa s 232 a1.toInt.toNat ((s.1 65) - (s.2.1 231 a1.toInt.toNat))).2.1 232 a1.toInt.toNat)] (xo_push (.int 60)) rfl rfl ?_)
  refine Lb_w (lb_brP rfl rfl ⟨fun hc => ?_, fun hc => ?_⟩)
  · replace h := h.1 ((i_le (x := (sa s 232 a1.toInt.toNat ((s.1 65) - (s.2.1 231 a1.toInt.toNat))).2.1 232 a1.toInt.toNat) (y := 60) rfl (show (60 : Int32).toInt = 60 by decide)).mp hc)
    exact lk_204_141  h
  · replace h := h.2 (fun q => hc ((i_le (x := (sa s 232 a1.toInt.toNat ((s.1 65) - (s.2.1 231 a1.toInt.toNat))).2.1 232 a1.toInt.toNat) (y := 60) rfl (show (60 : Int32).toInt = 60 by decide)).mpr q))
    refine Lb_w (lb_ld rfl rfl rfl ?_)
    refine Lb_w (lb_c [.int 9, .ref 213] (xo_push (.int 9)) rfl rfl ?_)
    refine Lb_w (lb_ld rfl rfl rfl ?_)
    refine Lb_w (lb_get rfl rfl ?_)
    change Lb _ _ _ _ _ _ _ [.ref 222, .int 9, .ref 213] _ _
    refine Lb_w (lb_ld rfl rfl rfl ?_)
    refine Lb_w (lb_ial rfl rfl (fun hk => ?_))
    change Lb _ _ _ _ _ _ _ [.int ((sa s 232 a1.toInt.toNat ((s.1 65) - (s.2.1 231 a1.toInt.toNat))).2.1 222 a1.toInt.toNat), .int 9, .ref 213] _ _
    replace h := h (kc_in (x := a1) rfl hk)
    refine Lb_w (lb_call [.ref 213, .int 9, .int ((sa s 232 a1.toInt.toNat ((s.1 65) - (s.2.1 231 a1.toInt.toNat))).2.1 222 a1.toInt.toNat)] [] rfl rfl rfl (Par.imp h (fun v4 s3 h => ?_)))
    obtain ⟨rfl, h⟩ := h
    change Lb _ _ _ _ _ _ _ [] _ _
    exact lk_204_141  h
def ub_204_102 (T : Nat → List Value → yS → (Option Value → yS → Prop) → Prop) (R102 : Int32 → Int32 → Int32 → Int32 → Int32 → yS → Prop) (a1 : Int32) (a2 : Int32) (a3 : Int32) (a4 : Int32) (a5 : Int32) (s : yS) (P : Option Value → yS → Prop) : Prop :=
  (a5.toInt < 0 → ub_204_117 T  a1 a2 a3 a4 a5  s P) ∧ (¬ (a5.toInt < 0) → (¬ ((s.1 8).toInt = 0) → ub_204_117 T  a1 a2 a3 a4 a5  s P) ∧ ((s.1 8).toInt = 0 → T 204 [.ref 213, .int a5, .int a2] s (fun v2 s1 => v2 = none ∧ (((0 ≤ a5.toInt ∧ a5.toInt < 12006) → R102 a1 a2 a3 a4 (s1.2.1 225 a5.toInt.toNat)  s1)))))
set_option maxRecDepth 20000 in
theorem lk_204_102 {d N0 : Nat} {R102 : Int32 → Int32 → Int32 → Int32 → Int32 → yS → Prop} {a1 : Int32} {a2 : Int32} {a3 : Int32} {a4 : Int32} {a5 : Int32} {s : yS} {P : Option Value → yS → Prop} (r102 : ∀ a1 a2 a3 a4 a5 s, R102 a1 a2 a3 a4 a5 s → Lb d N0 6 (none) xE_204 (xE_204.drop 102) [.ref 213, .int a1, .int a2, .int a3, .int a4, .int a5, .null, .null, .null] [] s P) (h : ub_204_102 (Par d) R102 a1 a2 a3 a4 a5 s P) : Lb d (N0 + 1) 6 (none) xE_204 (xE_204.drop 102) [.ref 213, .int a1, .int a2, .int a3, .int a4, .int a5, .null, .null, .null] [] s P := by
  unfold ub_204_102 at h
  refine lb_ld rfl rfl rfl ?_
  refine Lb_w (lb_brP rfl rfl ⟨fun hc => ?_, fun hc => ?_⟩)
  · replace h := h.1 ((i_lt (x := a5) (y := 0) rfl (show (0 : Int32).toInt = 0 by decide)).mp hc)
    exact lk_204_117  h
  · replace h := h.2 (fun q => hc ((i_lt (x := a5) (y := 0) rfl (show (0 : Int32).toInt = 0 by decide)).mpr q))
    refine Lb_w (lb_ld rfl rfl rfl ?_)
    refine Lb_w (lb_get rfl rfl ?_)
    change Lb _ _ _ _ _ _ _ [.int (s.1 8)] _ _
    refine Lb_w (lb_brN rfl rfl ⟨fun hc => ?_, fun hc => ?_⟩)
    · replace h := h.1 (fun q => hc ((i_eq (x := s.1 8) (y := 0) rfl (show (0 : Int32).toInt = 0 by decide)).mpr q))
      exact lk_204_117  h
    · replace h := h.2 ((i_eq (x := s.1 8) (y := 0) rfl (show (0 : Int32).toInt = 0 by decide)).mp hc)
      refine Lb_w (lb_ld rfl rfl rfl ?_)
      refine Lb_w (lb_ld rfl rfl rfl ?_)
      refine Lb_w (lb_ld rfl rfl rfl ?_)
      refine Lb_w (lb_call [.ref 213, .int a5, .int a2] [] rfl rfl rfl (Par.imp h (fun v2 s1 h => ?_)))
      obtain ⟨rfl, h⟩ := h
      change Lb _ _ _ _ _ _ _ [] _ _
      refine Lb_w (lb_ld rfl rfl rfl ?_)
      refine Lb_w (lb_get rfl rfl ?_)
      change Lb _ _ _ _ _ _ _ [.ref 225] _ _
      refine Lb_w (lb_ld rfl rfl rfl ?_)
      refine Lb_w (lb_ial rfl rfl (fun hk => ?_))
      change Lb _ _ _ _ _ _ _ [.int (s1.2.1 225 a5.toInt.toNat)] _ _
      replace h := h (kc_in (x := a5) rfl hk)
      refine Lb_w (lb_st [.ref 213, .int a1, .int a2, .int a3, .int a4, .int (s1.2.1 225 a5.toInt.toNat), .null, .null, .null] rfl rfl rfl ?_)
      refine Lb_w (lb_go rfl ?_)
      exact r102 a1 a2 a3 a4 (s1.2.1 225 a5.toInt.toNat)  s1 h
def ubl_204_102 (T : Nat → List Value → yS → (Option Value → yS → Prop) → Prop)  (a1 : Int32) (a2 : Int32) (a3 : Int32) (a4 : Int32) (a5 : Int32) (s : yS) (P : Option Value → yS → Prop) : Prop :=
  ∃ (I : Int32 → Int32 → Int32 → Int32 → Int32 → yS → Prop), I a1 a2 a3 a4 a5 s ∧ ∀ (a1 : Int32) (a2 : Int32) (a3 : Int32) (a4 : Int32) (a5 : Int32) (s : yS), I a1 a2 a3 a4 a5 s → ub_204_102 T I a1 a2 a3 a4 a5 s P
theorem lkl_204_102 {d N0 : Nat}  {a1 : Int32} {a2 : Int32} {a3 : Int32} {a4 : Int32} {a5 : Int32} {s : yS} {P : Option Value → yS → Prop}  (h : ubl_204_102 (Par d)  a1 a2 a3 a4 a5 s P) : Lb d N0 6 (none) xE_204 (xE_204.drop 102) [.ref 213, .int a1, .int a2, .int a3, .int a4, .int a5, .null, .null, .null] [] s P := by
  obtain ⟨I, h0, h1⟩ := h
  have key : ∀ (m : Nat), m ≤ N0 → ∀ (a1 : Int32) (a2 : Int32) (a3 : Int32) (a4 : Int32) (a5 : Int32) (s : yS), I a1 a2 a3 a4 a5 s → Lb d m 6 (none) xE_204 (xE_204.drop 102) [.ref 213, .int a1, .int a2, .int a3, .int a4, .int a5, .null, .null, .null] [] s P := by
    intro m
    induction m with
    | zero => exact fun _ a1 a2 a3 a4 a5 s _ => Lb_0
    | succ m ih =>
      intro hm
      replace hm : m ≤ N0 := Nat.le_of_succ_le hm
      replace ih := ih hm
      intro a1 a2 a3 a4 a5 s hI
      exact lk_204_102 ih (h1 a1 a2 a3 a4 a5 s hI)
  exact key N0 (Nat.le_refl _) a1 a2 a3 a4 a5 s h0
def ub_204_68 (T : Nat → List Value → yS → (Option Value → yS → Prop) → Prop)  (a1 : Int32) (a2 : Int32) (a3 : Int32) (a4 : Int32) (s : yS) (P : Option Value → yS → Prop) : Prop :=
  ((s.1 8).toInt ≤ 0 → ((0 ≤ a1.toInt ∧ a1.toInt < 12006) → ∀ s1, s1 = sa s 231 a1.toInt.toNat (s.1 65) → ((-2147483648 ≤ 8 * a4.toInt ∧ 8 * a4.toInt ≤ 2147483647) → ∀ x2 : Int32, x2.toInt = 8 * a4.toInt → ((0 ≤ a1.toInt ∧ a1.toInt < 12006) → ((-2147483648 ≤ x2.toInt + (s1.2.1 226 a1.toInt.toNat).toInt ∧ x2.toInt + (s1.2.1 226 a1.toInt.toNat).toInt ≤ 2147483647) → ∀ x3 : Int32, x3.toInt = x2.toInt + (s1.2.1 226 a1.toInt.toNat).toInt → ((0 ≤ (s1.1 65).toInt ∧ (s1.1 65).toInt < 200000) → ∀ s4, s4 = sa s1 264 (s1.1 65).toInt.toNat x3 → ((-2147483648 ≤ (s4.1 65).toInt + 1 ∧ (s4.1 65).toInt + 1 ≤ 2147483647) → ∀ x5 : Int32, x5.toInt = (s4.1 65).toInt + 1 → ∀ s6, s6 = sf s4 65 x5 → ((0 ≤ a1.toInt ∧ a1.toInt < 12006) → ubl_204_102 T  a1 a2 a3 a4 (s6.2.1 224 a1.toInt.toNat)  s6 P)))))))) ∧ (¬ ((s.1 8).toInt ≤ 0) → P none s)
set_option maxRecDepth 20000 in
theorem lk_204_68 {d N0 : Nat}  {a1 : Int32} {a2 : Int32} {a3 : Int32} {a4 : Int32} {s : yS} {P : Option Value → yS → Prop}  (h : ub_204_68 (Par d)  a1 a2 a3 a4 s P) : Lb d N0 6 (none) xE_204 (xE_204.drop 68) [.ref 213, .int a1, .int a2, .int a3, .int a4, .null, .null, .null, .null] [] s P := by
  unfold ub_204_68 at h
  refine Lb_w (lb_ld rfl rfl rfl ?_)
  refine Lb_w (lb_get rfl rfl ?_)
  change Lb _ _ _ _ _ _ _ [.int (s.1 8)] _ _
  refine Lb_w (lb_brP rfl rfl ⟨fun hc => ?_, fun hc => ?_⟩)
  · replace h := h.1 ((i_le (x := s.1 8) (y := 0) rfl (show (0 : Int32).toInt = 0 by decide)).mp hc)
    refine Lb_w (lb_ld rfl rfl rfl ?_)
    refine Lb_w (lb_get rfl rfl ?_)
    change Lb _ _ _ _ _ _ _ [.ref 231] _ _
    refine Lb_w (lb_ld rfl rfl rfl ?_)
    refine Lb_w (lb_ld rfl rfl rfl ?_)
    refine Lb_w (lb_get rfl rfl ?_)
    change Lb _ _ _ _ _ _ _ [.int (s.1 65), .int a1, .ref 231] _ _
    refine Lb_w (lb_ias rfl rfl (fun hk => ?_))
    replace h := h (kc_in (x := a1) rfl hk)
    replace h := h _ rfl
    refine Lb_w (lb_ld rfl rfl rfl ?_)
    refine Lb_w (lb_get rfl rfl ?_)
    change Lb _ _ _ _ _ _ _ [.ref 264] _ _
    refine Lb_w (lb_ld rfl rfl rfl ?_)
    refine Lb_w (lb_get rfl rfl ?_)
    change Lb _ _ _ _ _ _ _ [.int ((sa s 231 a1.toInt.toNat (s.1 65)).1 65), .ref 264] _ _
    refine Lb_w (lb_c [.int 8, .int ((sa s 231 a1.toInt.toNat (s.1 65)).1 65), .ref 264] (xo_push (.int 8)) rfl rfl ?_)
    refine Lb_w (lb_ld rfl rfl rfl ?_)
    refine Lb_w (lb_ca [.int (8 * a4), .int ((sa s 231 a1.toInt.toNat (s.1 65)).1 65), .ref 264] xo_imul rfl rfl (fun _ hk => ?_))
    replace hk := kc_mul (x := 8) (y := a4) (show (8 : Int32).toInt = 8 by decide) rfl hk
    replace h := h hk _ (i_mul (x := 8) (y := a4) (show (8 : Int32).toInt = 8 by decide) rfl hk)
    refine Lb_w (lb_ld rfl rfl rfl ?_)
    refine Lb_w (lb_get rfl rfl ?_)
    change Lb _ _ _ _ _ _ _ [.ref 226, .int (8 * a4), .int ((sa s 231 a1.toInt.toNat (s.1 65)).1 65), .ref 264] _ _
    refine Lb_w (lb_ld rfl rfl rfl ?_)
    refine Lb_w (lb_ial rfl rfl (fun hk => ?_))
    change Lb _ _ _ _ _ _ _ [.int ((sa s 231 a1.toInt.toNat (s.1 65)).2.1 226 a1.toInt.toNat), .int (8 * a4), .int ((sa s 231 a1.toInt.toNat (s.1 65)).1 65), .ref 264] _ _
    replace h := h (kc_in (x := a1) rfl hk)
    refine Lb_w (lb_ca [.int ((8 * a4) + ((sa s 231 a1.toInt.toNat (s.1 65)).2.1 226 a1.toInt.toNat)), .int ((sa s 231 a1.toInt.toNat (s.1 65)).1 65), .ref 264] xo_iadd rfl rfl (fun _ hk => ?_))
    replace hk := kc_add (x := (8 * a4)) (y := (sa s 231 a1.toInt.toNat (s.1 65)).2.1 226 a1.toInt.toNat) rfl rfl hk
    replace h := h hk _ (i_add (x := (8 * a4)) (y := (sa s 231 a1.toInt.toNat (s.1 65)).2.1 226 a1.toInt.toNat) rfl rfl hk)
    refine Lb_w (lb_ias rfl rfl (fun hk => ?_))
    replace h := h (kc_in (x := (sa s 231 a1.toInt.toNat (s.1 65)).1 65) rfl hk)
    replace h := h _ rfl
    refine Lb_w (lb_ld rfl rfl rfl ?_)
    refine Lb_w (lb_c [.ref 213, .ref 213] xo_dup rfl rfl ?_)
    refine Lb_w (lb_get rfl rfl ?_)
    change Lb _ _ _ _ _ _ _ [.int ((sa (sa s 231 a1.toInt.toNat (s.1 65)) 264 ((sa s 231 a1.toInt.toNat (s.1 65)).1 65).toInt.toNat ((8 * a4) + ((sa s 231 a1.toInt.toNat (s.1 65)).2.1 226 a1.toInt.toNat))).1 65), .ref 213] _ _
    refine Lb_w (lb_c [.int 1, .int ((sa (sa s 231 a1.toInt.toNat (s.1 65)) 264 ((sa s 231 a1.toInt.toNat (s.1 65)).1 65).toInt.toNat ((8 * a4) + ((sa s 231 a1.toInt.toNat (s.1 65)).2.1 226 a1.toInt.toNat))).1 65), .ref 213] (xo_push (.int 1)) rfl rfl ?_)
    refine Lb_w (lb_ca [.int (((sa (sa s 231 a1.toInt.toNat (s.1 65)) 264 ((sa s 231 a1.toInt.toNat (s.1 65)).1 65).toInt.toNat ((8 * a4) + ((sa s 231 a1.toInt.toNat (s.1 65)).2.1 226 a1.toInt.toNat))).1 65) + 1), .ref 213] xo_iadd rfl rfl (fun _ hk => ?_))
    replace hk := kc_add (x := (sa (sa s 231 a1.toInt.toNat (s.1 65)) 264 ((sa s 231 a1.toInt.toNat (s.1 65)).1 65).toInt.toNat ((8 * a4) + ((sa s 231 a1.toInt.toNat (s.1 65)).2.1 226 a1.toInt.toNat))).1 65) (y := 1) rfl (show (1 : Int32).toInt = 1 by decide) hk
    replace h := h hk _ (i_add (x := (sa (sa s 231 a1.toInt.toNat (s.1 65)) 264 ((sa s 231 a1.toInt.toNat (s.1 65)).1 65).toInt.toNat ((8 * a4) + ((sa s 231 a1.toInt.toNat (s.1 65)).2.1 226 a1.toInt.toNat))).1 65) (y := 1) rfl (show (1 : Int32).toInt = 1 by decide) hk)
    refine Lb_w (lb_put rfl rfl (fun hk => ?_))
    replace h := h _ rfl
    refine Lb_w (lb_ld rfl rfl rfl ?_)
    refine Lb_w (lb_get rfl rfl ?_)
    change Lb _ _ _ _ _ _ _ [.ref 224] _ _
    refine Lb_w (lb_ld rfl rfl rfl ?_)
    refine Lb_w (lb_ial rfl rfl (fun hk => ?_))
    change Lb _ _ _ _ _ _ _ [.int ((sf (sa (sa s 231 a1.toInt.toNat (s.1 65)) 264 ((sa s 231 a1.toInt.toNat (s.1 65)).1 65).toInt.toNat ((8 * a4) + ((sa s 231 a1.toInt.toNat (s.1 65)).2.1 226 a1.toInt.toNat))) 65 (((sa (sa s 231 a1.toInt.toNat (s.1 65)) 264 ((sa s 231 a1.toInt.toNat (s.1 65)).1 65).toInt.toNat ((8 * a4) + ((sa s 231 a1.toInt.toNat (s.1 65)).2.1 226 a1.toInt.toNat))).1 65) + 1)).2.1 224 a1.toInt.toNat)] _ _
    replace h := h (kc_in (x := a1) rfl hk)
    refine Lb_w (lb_st [.ref 213, .int a1, .int a2, .int a3, .int a4, .int ((sf (sa (sa s 231 a1.toInt.toNat (s.1 65)) 264 ((sa s 231 a1.toInt.toNat (s.1 65)).1 65).toInt.toNat ((8 * a4) + ((sa s 231 a1.toInt.toNat (s.1 65)).2.1 226 a1.toInt.toNat))) 65 (((sa (sa s 231 a1.toInt.toNat (s.1 65)) 264 ((sa s 231 a1.toInt.toNat (s.1 65)).1 65).toInt.toNat ((8 * a4) + ((sa s 231 a1.toInt.toNat (s.1 65)).2.1 226 a1.toInt.toNat))).1 65) + 1)).2.1 224 a1.toInt.toNat), .null, .null, .null] rfl rfl rfl ?_)
    exact lkl_204_102  h
  · replace h := h.2 (fun q => hc ((i_le (x := s.1 8) (y := 0) rfl (show (0 : Int32).toInt = 0 by decide)).mpr q))
    exact Lb_w (lb_ret0 rfl h)
def ub_204_60 (T : Nat → List Value → yS → (Option Value → yS → Prop) → Prop)  (a1 : Int32) (a2 : Int32) (a3 : Int32) (a4 : Int32) (t0 : Int32) (t1 : Int32) (s : yS) (P : Option Value → yS → Prop) : Prop :=
  (t0.toInt = t1.toInt → ub_204_68 T  a1 a2 a3 a4  s P) ∧ (¬ (t0.toInt = t1.toInt) → ((0 ≤ a1.toInt ∧ a1.toInt < 12006) → T 163 [.ref 213, .int 4, .int (s.2.1 222 a1.toInt.toNat)] s (fun v2 s1 => v2 = none ∧ (ub_204_68 T  a1 a2 a3 a4  s1 P))))
set_option maxRecDepth 20000 in
theorem lk_204_60 {d N0 : Nat}  {a1 : Int32} {a2 : Int32} {a3 : Int32} {a4 : Int32} {t0 : Int32} {t1 : Int32} {s : yS} {P : Option Value → yS → Prop}  (h : ub_204_60 (Par d)  a1 a2 a3 a4 t0 t1 s P) : Lb d N0 6 (none) xE_204 (xE_204.drop 60) [.ref 213, .int a1, .int a2, .int a3, .int a4, .null, .null, .null, .null] [.int t1, .int t0] s P := by
  unfold ub_204_60 at h
  refine Lb_w (lb_brP rfl rfl ⟨fun hc => ?_, fun hc => ?_⟩)
  · replace h := h.1 ((i_eq (x := t0) (y := t1) rfl rfl).mp hc)
    exact lk_204_68  h
  · replace h := h.2 (fun q => hc ((i_eq (x := t0) (y := t1) rfl rfl).mpr q))
    refine Lb_w (lb_ld rfl rfl rfl ?_)
    refine Lb_w (lb_c [.int 4, .ref 213] (xo_push (.int 4)) rfl rfl ?_)
    refine Lb_w (lb_ld rfl rfl rfl ?_)
    refine Lb_w (lb_get rfl rfl ?_)
    change Lb _ _ _ _ _ _ _ [.ref 222, .int 4, .ref 213] _ _
    refine Lb_w (lb_ld rfl rfl rfl ?_)
    refine Lb_w (lb_ial rfl rfl (fun hk => ?_))
    change Lb _ _ _ _ _ _ _ [.int (s.2.1 222 a1.toInt.toNat), .int 4, .ref 213] _ _
    replace h := h (kc_in (x := a1) rfl hk)
    refine Lb_w (lb_call [.ref 213, .int 4, .int (s.2.1 222 a1.toInt.toNat)] [] rfl rfl rfl (Par.imp h (fun v2 s1 h => ?_)))
    obtain ⟨rfl, h⟩ := h
    change Lb _ _ _ _ _ _ _ [] _ _
    exact lk_204_68  h
def ub_204_31 (T : Nat → List Value → yS → (Option Value → yS → Prop) → Prop)  (a1 : Int32) (a2 : Int32) (a3 : Int32) (t0 : Int32) (s : yS) (P : Option Value → yS → Prop) : Prop :=
  (0 ≤ t0.toInt → ((0 ≤ a1.toInt ∧ a1.toInt < 12006) → (t0.toInt < 1000 → ((-2147483648 ≤ 24 * (s.1 75).toInt ∧ 24 * (s.1 75).toInt ≤ 2147483647) → ∀ x1 : Int32, x1.toInt = 24 * (s.1 75).toInt → ((-2147483648 ≤ x1.toInt + t0.toInt ∧ x1.toInt + t0.toInt ≤ 2147483647) → ∀ x2 : Int32, x2.toInt = x1.toInt + t0.toInt → ((0 ≤ x2.toInt ∧ x2.toInt < 48) → ub_204_60 T  a1 a2 a3 t0 (s.2.1 226 a1.toInt.toNat) (s.2.1 236 x2.toInt.toNat) s P)))) ∧ (¬ (t0.toInt < 1000) → ub_204_60 T  a1 a2 a3 t0 (s.2.1 226 a1.toInt.toNat) 0 s P))) ∧ (¬ (0 ≤ t0.toInt) → ((0 ≤ a1.toInt ∧ a1.toInt < 12006) → T 163 [.ref 213, .int 2, .int (s.2.1 222 a1.toInt.toNat)] s (fun v4 s3 => v4 = none ∧ (ub_204_68 T  a1 a2 a3 t0  s3 P))))
set_option maxRecDepth 20000 in
theorem lk_204_31 {d N0 : Nat}  {a1 : Int32} {a2 : Int32} {a3 : Int32} {t0 : Int32} {s : yS} {P : Option Value → yS → Prop}  (h : ub_204_31 (Par d)  a1 a2 a3 t0 s P) : Lb d N0 6 (none) xE_204 (xE_204.drop 31) [.ref 213, .int a1, .int a2, .int a3, .null, .null, .null, .null, .null] [.int t0] s P := by
  unfold ub_204_31 at h
  refine Lb_w (lb_st [.ref 213, .int a1, .int a2, .int a3, .int t0, .null, .null, .null, .null] rfl rfl rfl ?_)
  refine Lb_w (lb_ld rfl rfl rfl ?_)
  refine Lb_w (lb_brP rfl rfl ⟨fun hc => ?_, fun hc => ?_⟩)
  · replace h := h.1 ((i_le (x := 0) (y := t0) (show (0 : Int32).toInt = 0 by decide) rfl).mp hc)
    refine Lb_w (lb_ld rfl rfl rfl ?_)
    refine Lb_w (lb_get rfl rfl ?_)
    change Lb _ _ _ _ _ _ _ [.ref 226] _ _
    refine Lb_w (lb_ld rfl rfl rfl ?_)
    refine Lb_w (lb_ial rfl rfl (fun hk => ?_))
    change Lb _ _ _ _ _ _ _ [.int (s.2.1 226 a1.toInt.toNat)] _ _
    replace h := h (kc_in (x := a1) rfl hk)
    refine Lb_w (lb_ld rfl rfl rfl ?_)
    refine Lb_w (lb_c [.int 1000, .int t0, .int (s.2.1 226 a1.toInt.toNat)] (xo_push (.int 1000)) rfl rfl ?_)
    refine Lb_w (lb_brP rfl rfl ⟨fun hc => ?_, fun hc => ?_⟩)
    · replace h := h.1 ((i_lt (x := t0) (y := 1000) rfl (show (1000 : Int32).toInt = 1000 by decide)).mp hc)
      refine Lb_w (lb_ld rfl rfl rfl ?_)
      refine Lb_w (lb_get rfl rfl ?_)
      change Lb _ _ _ _ _ _ _ [.ref 236, .int (s.2.1 226 a1.toInt.toNat)] _ _
      refine Lb_w (lb_c [.int 24, .ref 236, .int (s.2.1 226 a1.toInt.toNat)] (xo_push (.int 24)) rfl rfl ?_)
      refine Lb_w (lb_ld rfl rfl rfl ?_)
      refine Lb_w (lb_get rfl rfl ?_)
      change Lb _ _ _ _ _ _ _ [.int (s.1 75), .int 24, .ref 236, .int (s.2.1 226 a1.toInt.toNat)] _ _
      refine Lb_w (lb_ca [.int (24 * (s.1 75)), .ref 236, .int (s.2.1 226 a1.toInt.toNat)] xo_imul rfl rfl (fun _ hk => ?_))
      replace hk := kc_mul (x := 24) (y := s.1 75) (show (24 : Int32).toInt = 24 by decide) rfl hk
      replace h := h hk _ (i_mul (x := 24) (y := s.1 75) (show (24 : Int32).toInt = 24 by decide) rfl hk)
      refine Lb_w (lb_ld rfl rfl rfl ?_)
      refine Lb_w (lb_ca [.int ((24 * (s.1 75)) + t0), .ref 236, .int (s.2.1 226 a1.toInt.toNat)] xo_iadd rfl rfl (fun _ hk => ?_))
      replace hk := kc_add (x := (24 * (s.1 75))) (y := t0) rfl rfl hk
      replace h := h hk _ (i_add (x := (24 * (s.1 75))) (y := t0) rfl rfl hk)
      refine Lb_w (lb_ial rfl rfl (fun hk => ?_))
      change Lb _ _ _ _ _ _ _ [.int (s.2.1 236 ((24 * (s.1 75)) + t0).toInt.toNat), .int (s.2.1 226 a1.toInt.toNat)] _ _
      replace h := h (kc_in (x := ((24 * (s.1 75)) + t0)) rfl hk)
      exact lk_204_60  h
    · replace h := h.2 (fun q => hc ((i_lt (x := t0) (y := 1000) rfl (show (1000 : Int32).toInt = 1000 by decide)).mpr q))
      refine Lb_w (lb_c [.int 0, .int (s.2.1 226 a1.toInt.toNat)] (xo_push (.int 0)) rfl rfl ?_)
      refine Lb_w (lb_go rfl ?_)
      exact lk_204_60  h
  · replace h := h.2 (fun q => hc ((i_le (x := 0) (y := t0) (show (0 : Int32).toInt = 0 by decide) rfl).mpr q))
    refine Lb_w (lb_ld rfl rfl rfl ?_)
    refine Lb_w (lb_c [.int 2, .ref 213] (xo_push (.int 2)) rfl rfl ?_)
    refine Lb_w (lb_ld rfl rfl rfl ?_)
    refine Lb_w (lb_get rfl rfl ?_)
    change Lb _ _ _ _ _ _ _ [.ref 222, .int 2, .ref 213] _ _
    refine Lb_w (lb_ld rfl rfl rfl ?_)
    refine Lb_w (lb_ial rfl rfl (fun hk => ?_))
    change Lb _ _ _ _ _ _ _ [.int (s.2.1 222 a1.toInt.toNat), .int 2, .ref 213] _ _
    replace h := h (kc_in (x := a1) rfl hk)
    refine Lb_w (lb_call [.ref 213, .int 2, .int (s.2.1 222 a1.toInt.toNat)] [] rfl rfl rfl (Par.imp h (fun v4 s3 h => ?_)))
    obtain ⟨rfl, h⟩ := h
    change Lb _ _ _ _ _ _ _ [] _ _
    refine Lb_w (lb_go rfl ?_)
    exact lk_204_68  h
def ub_204_23 (T : Nat → List Value → yS → (Option Value → yS → Prop) → Prop)  (a1 : Int32) (a2 : Int32) (t0 : Int32) (s : yS) (P : Option Value → yS → Prop) : Prop :=
  (0 ≤ t0.toInt → T 203 [.ref 213, .int t0] s (fun v2 s1 => ∃ x3, v2 = some (.int x3) ∧ (ub_204_31 T  a1 a2 t0 x3 s1 P))) ∧ (¬ (0 ≤ t0.toInt) → ub_204_31 T  a1 a2 t0 (-1) s P)
set_option maxRecDepth 20000 in
theorem lk_204_23 {d N0 : Nat}  {a1 : Int32} {a2 : Int32} {t0 : Int32} {s : yS} {P : Option Value → yS → Prop}  (h : ub_204_23 (Par d)  a1 a2 t0 s P) : Lb d N0 6 (none) xE_204 (xE_204.drop 23) [.ref 213, .int a1, .int a2, .null, .null, .null, .null, .null, .null] [.int t0] s P := by
  unfold ub_204_23 at h
  refine Lb_w (lb_st [.ref 213, .int a1, .int a2, .int t0, .null, .null, .null, .null, .null] rfl rfl rfl ?_)
  refine Lb_w (lb_ld rfl rfl rfl ?_)
  refine Lb_w (lb_brP rfl rfl ⟨fun hc => ?_, fun hc => ?_⟩)
  · replace h := h.1 ((i_le (x := 0) (y := t0) (show (0 : Int32).toInt = 0 by decide) rfl).mp hc)
    refine Lb_w (lb_ld rfl rfl rfl ?_)
    refine Lb_w (lb_ld rfl rfl rfl ?_)
    refine Lb_w (lb_call [.ref 213, .int t0] [] rfl rfl rfl (Par.imp h (fun v2 s1 h => ?_)))
    obtain ⟨x3, rfl, h⟩ := h
    change Lb _ _ _ _ _ _ _ [.int x3] _ _
    exact lk_204_31  h
  · replace h := h.2 (fun q => hc ((i_le (x := 0) (y := t0) (show (0 : Int32).toInt = 0 by decide) rfl).mpr q))
    refine Lb_w (lb_c [.int (-1)] (xo_push (.int (-1))) rfl rfl ?_)
    refine Lb_w (lb_go rfl ?_)
    exact lk_204_31  h
def ub_204_0 (T : Nat → List Value → yS → (Option Value → yS → Prop) → Prop)  (a1 : Int32) (a2 : Int32) (s : yS) (P : Option Value → yS → Prop) : Prop :=
  ((s.1 8).toInt ≤ 0 → (a2.toInt = 0 → ((0 ≤ a1.toInt ∧ a1.toInt < 12006) → ((0 ≤ (s.2.1 222 a1.toInt.toNat).toInt ∧ (s.2.1 222 a1.toInt.toNat).toInt < 12006) → ub_204_23 T  a1 a2 (s.2.1 217 (s.2.1 222 a1.toInt.toNat).toInt.toNat) s P))) ∧ (¬ (a2.toInt = 0) → ((0 ≤ a1.toInt ∧ a1.toInt < 12006) → ((0 ≤ (s.2.1 222 a1.toInt.toNat).toInt ∧ (s.2.1 222 a1.toInt.toNat).toInt < 12006) → T 205 [.ref 213, .int (s.2.1 217 (s.2.1 222 a1.toInt.toNat).toInt.toNat)] s (fun v2 s1 => ∃ x3, v2 = some (.int x3) ∧ (ub_204_23 T  a1 a2 x3 s1 P)))))) ∧ (¬ ((s.1 8).toInt ≤ 0) → P none s)
set_option maxRecDepth 20000 in
theorem lk_204_0 {d N0 : Nat}  {a1 : Int32} {a2 : Int32} {s : yS} {P : Option Value → yS → Prop}  (h : ub_204_0 (Par d)  a1 a2 s P) : Lb d N0 6 (none) xE_204 (xE_204.drop 0) [.ref 213, .int a1, .int a2, .null, .null, .null, .null, .null, .null] [] s P := by
  unfold ub_204_0 at h
  refine Lb_w (lb_ld rfl rfl rfl ?_)
  refine Lb_w (lb_get rfl rfl ?_)
  change Lb _ _ _ _ _ _ _ [.int (s.1 8)] _ _
  refine Lb_w (lb_brP rfl rfl ⟨fun hc => ?_, fun hc => ?_⟩)
  · replace h := h.1 ((i_le (x := s.1 8) (y := 0) rfl (show (0 : Int32).toInt = 0 by decide)).mp hc)
    refine Lb_w (lb_ld rfl rfl rfl ?_)
    refine Lb_w (lb_brP rfl rfl ⟨fun hc => ?_, fun hc => ?_⟩)
    · replace h := h.1 ((i_eq (x := a2) (y := 0) rfl (show (0 : Int32).toInt = 0 by decide)).mp hc)
      refine Lb_w (lb_ld rfl rfl rfl ?_)
      refine Lb_w (lb_get rfl rfl ?_)
      change Lb _ _ _ _ _ _ _ [.ref 217] _ _
      refine Lb_w (lb_ld rfl rfl rfl ?_)
      refine Lb_w (lb_get rfl rfl ?_)
      change Lb _ _ _ _ _ _ _ [.ref 222, .ref 217] _ _
      refine Lb_w (lb_ld rfl rfl rfl ?_)
      refine Lb_w (lb_ial rfl rfl (fun hk => ?_))
      change Lb _ _ _ _ _ _ _ [.int (s.2.1 222 a1.toInt.toNat), .ref 217] _ _
      replace h := h (kc_in (x := a1) rfl hk)
      refine Lb_w (lb_ial rfl rfl (fun hk => ?_))
      change Lb _ _ _ _ _ _ _ [.int (s.2.1 217 (s.2.1 222 a1.toInt.toNat).toInt.toNat)] _ _
      replace h := h (kc_in (x := s.2.1 222 a1.toInt.toNat) rfl hk)
      exact lk_204_23  h
    · replace h := h.2 (fun q => hc ((i_eq (x := a2) (y := 0) rfl (show (0 : Int32).toInt = 0 by decide)).mpr q))
      refine Lb_w (lb_ld rfl rfl rfl ?_)
      refine Lb_w (lb_ld rfl rfl rfl ?_)
      refine Lb_w (lb_get rfl rfl ?_)
      change Lb _ _ _ _ _ _ _ [.ref 217, .ref 213] _ _
      refine Lb_w (lb_ld rfl rfl rfl ?_)
      refine Lb_w (lb_get rfl rfl ?_)
      change Lb _ _ _ _ _ _ _ [.ref 222, .ref 217, .ref 213] _ _
      refine Lb_w (lb_ld rfl rfl rfl ?_)
      refine Lb_w (lb_ial rfl rfl (fun hk => ?_))
      change Lb _ _ _ _ _ _ _ [.int (s.2.1 222 a1.toInt.toNat), .ref 217, .ref 213] _ _
      replace h := h (kc_in (x := a1) rfl hk)
      refine Lb_w (lb_ial rfl rfl (fun hk => ?_))
      change Lb _ _ _ _ _ _ _ [.int (s.2.1 217 (s.2.1 222 a1.toInt.toNat).toInt.toNat), .ref 213] _ _
      replace h := h (kc_in (x := s.2.1 222 a1.toInt.toNat) rfl hk)
      refine Lb_w (lb_call [.ref 213, .int (s.2.1 217 (s.2.1 222 a1.toInt.toNat).toInt.toNat)] [] rfl rfl rfl (Par.imp h (fun v2 s1 h => ?_)))
      obtain ⟨x3, rfl, h⟩ := h
      change Lb _ _ _ _ _ _ _ [.int x3] _ _
      refine Lb_w (lb_go rfl ?_)
      exact lk_204_23  h
  · replace h := h.2 (fun q => hc ((i_le (x := s.1 8) (y := 0) rfl (show (0 : Int32).toInt = 0 by decide)).mpr q))
    exact Lb_w (lb_ret0 rfl h)
theorem pb_204 {d : Nat} {a1 : Int32} {a2 : Int32} {s : yS} {P : Option Value → yS → Prop} (h : ub_204_0 (Par d) a1 a2 s P) : Par (d + 1) 204 [.ref 213, .int a1, .int a2] s P := par_of (E := xE_204) (ml := 6) (ret := none) rfl (fun _ => lk_204_0 h)
/-! wordNow -/
def ub_205_48 (T : Nat → List Value → yS → (Option Value → yS → Prop) → Prop) (R4 : Int32 → Int32 → Int32 → yS → Prop) (a1 : Int32) (a2 : Int32) (a3 : Int32) (t0 : Int32) (s : yS) (P : Option Value → yS → Prop) : Prop :=
  ((-2147483648 ≤ a3.toInt + 1 ∧ a3.toInt + 1 ≤ 2147483647) → ∀ x1 : Int32, x1.toInt = a3.toInt + 1 → R4 a1 t0 x1  s)
set_option maxRecDepth 20000 in
theorem lk_205_48 {d N0 : Nat} {R4 : Int32 → Int32 → Int32 → yS → Prop} {a1 : Int32} {a2 : Int32} {a3 : Int32} {t0 : Int32} {s : yS} {P : Option Value → yS → Prop} (r4 : ∀ a1 a2 a3 s, R4 a1 a2 a3 s → Lb d N0 4 (some .int) xE_205 (xE_205.drop 4) [.ref 213, .int a1, .int a2, .int a3, .null, .null] [] s P) (h : ub_205_48 (Par d) R4 a1 a2 a3 t0 s P) : Lb d N0 4 (some .int) xE_205 (xE_205.drop 48) [.ref 213, .int a1, .int a2, .int a3, .null, .null] [.int t0] s P := by
  unfold ub_205_48 at h
  refine Lb_w (lb_st [.ref 213, .int a1, .int t0, .int a3, .null, .null] rfl rfl rfl ?_)
  refine Lb_w (lb_inc [.ref 213, .int a1, .int t0, .int (a3 + 1), .null, .null] rfl rfl rfl rfl (fun hk => ?_))
  replace hk := kc_inc (x := a3) (n := 1) rfl hk
  replace h := h hk _ (i_add (x := a3) (y := 1) rfl (show (1 : Int32).toInt = 1 by decide) hk)
  refine Lb_w (lb_go rfl ?_)
  exact r4 a1 t0 (a3 + 1)  s h
def ub_205_47 (T : Nat → List Value → yS → (Option Value → yS → Prop) → Prop) (R4 : Int32 → Int32 → Int32 → yS → Prop) (a1 : Int32) (a2 : Int32) (a3 : Int32) (s : yS) (P : Option Value → yS → Prop) : Prop :=
  ub_205_48 T R4 a1 a2 a3 a2 s P
set_option maxRecDepth 20000 in
theorem lk_205_47 {d N0 : Nat} {R4 : Int32 → Int32 → Int32 → yS → Prop} {a1 : Int32} {a2 : Int32} {a3 : Int32} {s : yS} {P : Option Value → yS → Prop} (r4 : ∀ a1 a2 a3 s, R4 a1 a2 a3 s → Lb d N0 4 (some .int) xE_205 (xE_205.drop 4) [.ref 213, .int a1, .int a2, .int a3, .null, .null] [] s P) (h : ub_205_47 (Par d) R4 a1 a2 a3 s P) : Lb d N0 4 (some .int) xE_205 (xE_205.drop 47) [.ref 213, .int a1, .int a2, .int a3, .null, .null] [] s P := by
  unfold ub_205_47 at h
  refine Lb_w (lb_ld rfl rfl rfl ?_)
  exact lk_205_48 r4 h
def ub_205_4 (T : Nat → List Value → yS → (Option Value → yS → Prop) → Prop) (R4 : Int32 → Int32 → Int32 → yS → Prop) (a1 : Int32) (a2 : Int32) (a3 : Int32) (s : yS) (P : Option Value → yS → Prop) : Prop :=
  ((0 ≤ (s.1 29).toInt ∧ (s.1 29).toInt < 3) → ((s.2.1 220 (s.1 29).toInt.toNat).toInt ≤ a3.toInt → P (some (.int a2)) s) ∧ (¬ ((s.2.1 220 (s.1 29).toInt.toNat).toInt ≤ a3.toInt) → ((-2147483648 ≤ 2100 * (s.1 29).toInt ∧ 2100 * (s.1 29).toInt ≤ 2147483647) → ∀ x1 : Int32, x1.toInt = 2100 * (s.1 29).toInt → ((-2147483648 ≤ x1.toInt + a3.toInt ∧ x1.toInt + a3.toInt ≤ 2147483647) → ∀ x2 : Int32, x2.toInt = x1.toInt + a3.toInt → ((0 ≤ x2.toInt ∧ x2.toInt < 6300) → ((-2147483648 ≤ 4200 + a1.toInt ∧ 4200 + a1.toInt ≤ 2147483647) → ∀ x3 : Int32, x3.toInt = 4200 + a1.toInt → ((0 ≤ x3.toInt ∧ x3.toInt < 6300) → (¬ ((lg_cmp (s.2.2 218 x2.toInt.toNat) (s.2.2 218 x3.toInt.toNat)).toInt = 0) → ub_205_47 T R4 a1 a2 a3  s P) ∧ ((lg_cmp (s.2.2 218 x2.toInt.toNat) (s.2.2 218 x3.toInt.toNat)).toInt = 0 → ((-2147483648 ≤ 2100 * (s.1 29).toInt ∧ 2100 * (s.1 29).toInt ≤ 2147483647) → ∀ x4 : Int32, x4.toInt = 2100 * (s.1 29).toInt → ((-2147483648 ≤ x4.toInt + a3.toInt ∧ x4.toInt + a3.toInt ≤ 2147483647) → ∀ x5 : Int32, x5.toInt = x4.toInt + a3.toInt → ((0 ≤ x5.toInt ∧ x5.toInt < 6300) → ((-2147483648 ≤ 4200 + a1.toInt ∧ 4200 + a1.toInt ≤ 2147483647) → ∀ x6 : Int32, x6.toInt = 4200 + a1.toInt → ((0 ≤ x6.toInt ∧ x6.toInt < 6300) → (¬ ((lg_cmp (s.2.2 219 x5.toInt.toNat) (s.2.2 219 x6.toInt.toNat)).toInt = 0) → ub_205_47 T R4 a1 a2 a3  s P) ∧ ((lg_cmp (s.2.2 219 x5.toInt.toNat) (s.2.2 219 x6.toInt.toNat)).toInt = 0 → ub_205_48 T R4 a1 a2 a3 a3 s P))))))))))))))
set_option maxRecDepth 20000 in
theorem lk_205_4 {d N0 : Nat} {R4 : Int32 → Int32 → Int32 → yS → Prop} {a1 : Int32} {a2 : Int32} {a3 : Int32} {s : yS} {P : Option Value → yS → Prop} (r4 : ∀ a1 a2 a3 s, R4 a1 a2 a3 s → Lb d N0 4 (some .int) xE_205 (xE_205.drop 4) [.ref 213, .int a1, .int a2, .int a3, .null, .null] [] s P) (h : ub_205_4 (Par d) R4 a1 a2 a3 s P) : Lb d (N0 + 1) 4 (some .int) xE_205 (xE_205.drop 4) [.ref 213, .int a1, .int a2, .int a3, .null, .null] [] s P := by
  unfold ub_205_4 at h
  refine lb_ld rfl rfl rfl ?_
  refine Lb_w (lb_ld rfl rfl rfl ?_)
  refine Lb_w (lb_get rfl rfl ?_)
  change Lb _ _ _ _ _ _ _ [.ref 220, .int a3] _ _
  refine Lb_w (lb_ld rfl rfl rfl ?_)
  refine Lb_w (lb_get rfl rfl ?_)
  change Lb _ _ _ _ _ _ _ [.int (s.1 29), .ref 220, .int a3] _ _
  refine Lb_w (lb_ial rfl rfl (fun hk => ?_))
  change Lb _ _ _ _ _ _ _ [.int (s.2.1 220 (s.1 29).toInt.toNat), .int a3] _ _
  replace h := h (kc_in (x := s.1 29) rfl hk)
  refine Lb_w (lb_brP rfl rfl ⟨fun hc => ?_, fun hc => ?_⟩)
  · replace h := h.1 ((i_le (x := s.2.1 220 (s.1 29).toInt.toNat) (y := a3) rfl rfl).mp hc)
    refine Lb_w (lb_ld rfl rfl rfl ?_)
    exact Lb_w (lb_retI rfl h)
  · replace h := h.2 (fun q => hc ((i_le (x := s.2.1 220 (s.1 29).toInt.toNat) (y := a3) rfl rfl).mpr q))
    refine Lb_w (lb_ld rfl rfl rfl ?_)
    refine Lb_w (lb_get rfl rfl ?_)
    change Lb _ _ _ _ _ _ _ [.ref 218] _ _
    refine Lb_w (lb_c [.int 2100, .ref 218] (xo_push (.int 2100)) rfl rfl ?_)
    refine Lb_w (lb_ld rfl rfl rfl ?_)
    refine Lb_w (lb_get rfl rfl ?_)
    change Lb _ _ _ _ _ _ _ [.int (s.1 29), .int 2100, .ref 218] _ _
    refine Lb_w (lb_ca [.int (2100 * (s.1 29)), .ref 218] xo_imul rfl rfl (fun _ hk => ?_))
    replace hk := kc_mul (x := 2100) (y := s.1 29) (show (2100 : Int32).toInt = 2100 by decide) rfl hk
    replace h := h hk _ (i_mul (x := 2100) (y := s.1 29) (show (2100 : Int32).toInt = 2100 by decide) rfl hk)
    refine Lb_w (lb_ld rfl rfl rfl ?_)
    refine Lb_w (lb_ca [.int ((2100 * (s.1 29)) + a3), .ref 218] xo_iadd rfl rfl (fun _ hk => ?_))
    replace hk := kc_add (x := (2100 * (s.1 29))) (y := a3) rfl rfl hk
    replace h := h hk _ (i_add (x := (2100 * (s.1 29))) (y := a3) rfl rfl hk)
    refine Lb_w (lb_lal rfl rfl (fun hk => ?_))
    change Lb _ _ _ _ _ _ _ [.long (s.2.2 218 ((2100 * (s.1 29)) + a3).toInt.toNat)] _ _
    replace h := h (kc_in (x := ((2100 * (s.1 29)) + a3)) rfl hk)
    refine Lb_w (lb_ld rfl rfl rfl ?_)
    refine Lb_w (lb_get rfl rfl ?_)
    change Lb _ _ _ _ _ _ _ [.ref 218, .long (s.2.2 218 ((2100 * (s.1 29)) + a3).toInt.toNat)] _ _
    refine Lb_w (lb_c [.int 4200, .ref 218, .long (s.2.2 218 ((2100 * (s.1 29)) + a3).toInt.toNat)] (xo_push (.int 4200)) rfl rfl ?_)
    refine Lb_w (lb_ld rfl rfl rfl ?_)
    refine Lb_w (lb_ca [.int (4200 + a1), .ref 218, .long (s.2.2 218 ((2100 * (s.1 29)) + a3).toInt.toNat)] xo_iadd rfl rfl (fun _ hk => ?_))
    replace hk := kc_add (x := 4200) (y := a1) (show (4200 : Int32).toInt = 4200 by decide) rfl hk
    replace h := h hk _ (i_add (x := 4200) (y := a1) (show (4200 : Int32).toInt = 4200 by decide) rfl hk)
    refine Lb_w (lb_lal rfl rfl (fun hk => ?_))
    change Lb _ _ _ _ _ _ _ [.long (s.2.2 218 (4200 + a1).toInt.toNat), .long (s.2.2 218 ((2100 * (s.1 29)) + a3).toInt.toNat)] _ _
    replace h := h (kc_in (x := (4200 + a1)) rfl hk)
    refine Lb_w (lb_c [.int (lg_cmp (s.2.2 218 ((2100 * (s.1 29)) + a3).toInt.toNat) (s.2.2 218 (4200 + a1).toInt.toNat))] xo_lcmp rfl rfl ?_)
    refine Lb_w (lb_brN rfl rfl ⟨fun hc => ?_, fun hc => ?_⟩)
    · replace h := h.1 (fun q => hc ((i_eq (x := lg_cmp (s.2.2 218 ((2100 * (s.1 29)) + a3).toInt.toNat) (s.2.2 218 (4200 + a1).toInt.toNat)) (y := 0) rfl (show (0 : Int32).toInt = 0 by decide)).mpr q))
      exact lk_205_47 r4 h
    · replace h := h.2 ((i_eq (x := lg_cmp (s.2.2 218 ((2100 * (s.1 29)) + a3).toInt.toNat) (s.2.2 218 (4200 + a1).toInt.toNat)) (y := 0) rfl (show (0 : Int32).toInt = 0 by decide)).mp hc)
      refine Lb_w (lb_ld rfl rfl rfl ?_)
      refine Lb_w (lb_get rfl rfl ?_)
      change Lb _ _ _ _ _ _ _ [.ref 219] _ _
      refine Lb_w (lb_c [.int 2100, .ref 219] (xo_push (.int 2100)) rfl rfl ?_)
      refine Lb_w (lb_ld rfl rfl rfl ?_)
      refine Lb_w (lb_get rfl rfl ?_)
      change Lb _ _ _ _ _ _ _ [.int (s.1 29), .int 2100, .ref 219] _ _
      refine Lb_w (lb_ca [.int (2100 * (s.1 29)), .ref 219] xo_imul rfl rfl (fun _ hk => ?_))
      replace hk := kc_mul (x := 2100) (y := s.1 29) (show (2100 : Int32).toInt = 2100 by decide) rfl hk
      replace h := h hk _ (i_mul (x := 2100) (y := s.1 29) (show (2100 : Int32).toInt = 2100 by decide) rfl hk)
      refine Lb_w (lb_ld rfl rfl rfl ?_)
      refine Lb_w (lb_ca [.int ((2100 * (s.1 29)) + a3), .ref 219] xo_iadd rfl rfl (fun _ hk => ?_))
      replace hk := kc_add (x := (2100 * (s.1 29))) (y := a3) rfl rfl hk
      replace h := h hk _ (i_add (x := (2100 * (s.1 29))) (y := a3) rfl rfl hk)
      refine Lb_w (lb_lal rfl rfl (fun hk => ?_))
      change Lb _ _ _ _ _ _ _ [.long (s.2.2 219 ((2100 * (s.1 29)) + a3).toInt.toNat)] _ _
      replace h := h (kc_in (x := ((2100 * (s.1 29)) + a3)) rfl hk)
      refine Lb_w (lb_ld rfl rfl rfl ?_)
      refine Lb_w (lb_get rfl rfl ?_)
      change Lb _ _ _ _ _ _ _ [.ref 219, .long (s.2.2 219 ((2100 * (s.1 29)) + a3).toInt.toNat)] _ _
      refine Lb_w (lb_c [.int 4200, .ref 219, .long (s.2.2 219 ((2100 * (s.1 29)) + a3).toInt.toNat)] (xo_push (.int 4200)) rfl rfl ?_)
      refine Lb_w (lb_ld rfl rfl rfl ?_)
      refine Lb_w (lb_ca [.int (4200 + a1), .ref 219, .long (s.2.2 219 ((2100 * (s.1 29)) + a3).toInt.toNat)] xo_iadd rfl rfl (fun _ hk => ?_))
      replace hk := kc_add (x := 4200) (y := a1) (show (4200 : Int32).toInt = 4200 by decide) rfl hk
      replace h := h hk _ (i_add (x := 4200) (y := a1) (show (4200 : Int32).toInt = 4200 by decide) rfl hk)
      refine Lb_w (lb_lal rfl rfl (fun hk => ?_))
      change Lb _ _ _ _ _ _ _ [.long (s.2.2 219 (4200 + a1).toInt.toNat), .long (s.2.2 219 ((2100 * (s.1 29)) + a3).toInt.toNat)] _ _
      replace h := h (kc_in (x := (4200 + a1)) rfl hk)
      refine Lb_w (lb_c [.int (lg_cmp (s.2.2 219 ((2100 * (s.1 29)) + a3).toInt.toNat) (s.2.2 219 (4200 + a1).toInt.toNat))] xo_lcmp rfl rfl ?_)
      refine Lb_w (lb_brN rfl rfl ⟨fun hc => ?_, fun hc => ?_⟩)
      · replace h := h.1 (fun q => hc ((i_eq (x := lg_cmp (s.2.2 219 ((2100 * (s.1 29)) + a3).toInt.toNat) (s.2.2 219 (4200 + a1).toInt.toNat)) (y := 0) rfl (show (0 : Int32).toInt = 0 by decide)).mpr q))
        exact lk_205_47 r4 h
      · replace h := h.2 ((i_eq (x := lg_cmp (s.2.2 219 ((2100 * (s.1 29)) + a3).toInt.toNat) (s.2.2 219 (4200 + a1).toInt.toNat)) (y := 0) rfl (show (0 : Int32).toInt = 0 by decide)).mp hc)
        refine Lb_w (lb_ld rfl rfl rfl ?_)
        refine Lb_w (lb_go rfl ?_)
        exact lk_205_48 r4 h
def ubl_205_4 (T : Nat → List Value → yS → (Option Value → yS → Prop) → Prop)  (a1 : Int32) (a2 : Int32) (a3 : Int32) (s : yS) (P : Option Value → yS → Prop) : Prop :=
  ∃ (I : Int32 → Int32 → Int32 → yS → Prop), I a1 a2 a3 s ∧ ∀ (a1 : Int32) (a2 : Int32) (a3 : Int32) (s : yS), I a1 a2 a3 s → ub_205_4 T I a1 a2 a3 s P
theorem lkl_205_4 {d N0 : Nat}  {a1 : Int32} {a2 : Int32} {a3 : Int32} {s : yS} {P : Option Value → yS → Prop}  (h : ubl_205_4 (Par d)  a1 a2 a3 s P) : Lb d N0 4 (some .int) xE_205 (xE_205.drop 4) [.ref 213, .int a1, .int a2, .int a3, .null, .null] [] s P := by
  obtain ⟨I, h0, h1⟩ := h
  have key : ∀ (m : Nat), m ≤ N0 → ∀ (a1 : Int32) (a2 : Int32) (a3 : Int32) (s : yS), I a1 a2 a3 s → Lb d m 4 (some .int) xE_205 (xE_205.drop 4) [.ref 213, .int a1, .int a2, .int a3, .null, .null] [] s P := by
    intro m
    induction m with
    | zero => exact fun _ a1 a2 a3 s _ => Lb_0
    | succ m ih =>
      intro hm
      replace hm : m ≤ N0 := Nat.le_of_succ_le hm
      replace ih := ih hm
      intro a1 a2 a3 s hI
      exact lk_205_4 ih (h1 a1 a2 a3 s hI)
  exact key N0 (Nat.le_refl _) a1 a2 a3 s h0
def ub_205_0 (T : Nat → List Value → yS → (Option Value → yS → Prop) → Prop)  (a1 : Int32) (s : yS) (P : Option Value → yS → Prop) : Prop :=
  ubl_205_4 T  a1 (-1) 0  s P
set_option maxRecDepth 20000 in
theorem lk_205_0 {d N0 : Nat}  {a1 : Int32} {s : yS} {P : Option Value → yS → Prop}  (h : ub_205_0 (Par d)  a1 s P) : Lb d N0 4 (some .int) xE_205 (xE_205.drop 0) [.ref 213, .int a1, .null, .null, .null, .null] [] s P := by
  unfold ub_205_0 at h
  refine Lb_w (lb_c [.int (-1)] (xo_push (.int (-1))) rfl rfl ?_)
  refine Lb_w (lb_st [.ref 213, .int a1, .int (-1), .null, .null, .null] rfl rfl rfl ?_)
  refine Lb_w (lb_c [.int 0] (xo_push (.int 0)) rfl rfl ?_)
  refine Lb_w (lb_st [.ref 213, .int a1, .int (-1), .int 0, .null, .null] rfl rfl rfl ?_)
  exact lkl_205_4  h
theorem pb_205 {d : Nat} {a1 : Int32} {s : yS} {P : Option Value → yS → Prop} (h : ub_205_0 (Par d) a1 s P) : Par (d + 1) 205 [.ref 213, .int a1] s P := par_of (E := xE_205) (ml := 4) (ret := some .int) rfl (fun _ => lk_205_0 h)
/-! place -/
def ub_206_0 (T : Nat → List Value → yS → (Option Value → yS → Prop) → Prop)  (a1 : Int32) (a2 : Int32) (a3 : Int32) (s : yS) (P : Option Value → yS → Prop) : Prop :=
  ∀ s1, s1 = sf s 76 a1 → ∀ s2, s2 = sf s1 77 a2 → ∀ s3, s3 = sf s2 78 a3 → P none s3
set_option maxRecDepth 20000 in
theorem lk_206_0 {d N0 : Nat}  {a1 : Int32} {a2 : Int32} {a3 : Int32} {s : yS} {P : Option Value → yS → Prop}  (h : ub_206_0 (Par d)  a1 a2 a3 s P) : Lb d N0 4 (none) xE_206 (xE_206.drop 0) [.ref 213, .int a1, .int a2, .int a3, .null, .null, .null, .null] [] s P := by
  unfold ub_206_0 at h
  refine Lb_w (lb_ld rfl rfl rfl ?_)
  refine Lb_w (lb_ld rfl rfl rfl ?_)
  refine Lb_w (lb_put rfl rfl (fun hk => ?_))
  replace h := h _ rfl
  refine Lb_w (lb_ld rfl rfl rfl ?_)
  refine Lb_w (lb_ld rfl rfl rfl ?_)
  refine Lb_w (lb_put rfl rfl (fun hk => ?_))
  replace h := h _ rfl
  refine Lb_w (lb_ld rfl rfl rfl ?_)
  refine Lb_w (lb_ld rfl rfl rfl ?_)
  refine Lb_w (lb_put rfl rfl (fun hk => ?_))
  replace h := h _ rfl
  exact Lb_w (lb_ret0 rfl h)
theorem pb_206 {d : Nat} {a1 : Int32} {a2 : Int32} {a3 : Int32} {s : yS} {P : Option Value → yS → Prop} (h : ub_206_0 (Par d) a1 a2 a3 s P) : Par (d + 1) 206 [.ref 213, .int a1, .int a2, .int a3] s P := par_of (E := xE_206) (ml := 4) (ret := none) rfl (fun _ => lk_206_0 h)
/-! boundWords -/
def ub_207_41 (T : Nat → List Value → yS → (Option Value → yS → Prop) → Prop)  (a1 : Int32) (s : yS) (P : Option Value → yS → Prop) : Prop :=
  P none s
set_option maxRecDepth 20000 in
theorem lk_207_41 {d N0 : Nat}  {a1 : Int32} {s : yS} {P : Option Value → yS → Prop}  (h : ub_207_41 (Par d)  a1 s P) : Lb d N0 2 (none) xE_207 (xE_207.drop 41) [.ref 213, .int a1, .null, .null] [] s P := by
  unfold ub_207_41 at h
  exact Lb_w (lb_ret0 rfl h)
def ub_207_34 (T : Nat → List Value → yS → (Option Value → yS → Prop) → Prop)  (a1 : Int32) (s : yS) (P : Option Value → yS → Prop) : Prop :=
  ((0 ≤ a1.toInt ∧ a1.toInt < 12006) → T 163 [.ref 213, .int 6, .int (s.2.1 222 a1.toInt.toNat)] s (fun v2 s1 => v2 = none ∧ (ub_207_41 T  a1  s1 P)))
set_option maxRecDepth 20000 in
theorem lk_207_34 {d N0 : Nat}  {a1 : Int32} {s : yS} {P : Option Value → yS → Prop}  (h : ub_207_34 (Par d)  a1 s P) : Lb d N0 2 (none) xE_207 (xE_207.drop 34) [.ref 213, .int a1, .null, .null] [] s P := by
  unfold ub_207_34 at h
  refine Lb_w (lb_ld rfl rfl rfl ?_)
  refine Lb_w (lb_c [.int 6, .ref 213] (xo_push (.int 6)) rfl rfl ?_)
  refine Lb_w (lb_ld rfl rfl rfl ?_)
  refine Lb_w (lb_get rfl rfl ?_)
  change Lb _ _ _ _ _ _ _ [.ref 222, .int 6, .ref 213] _ _
  refine Lb_w (lb_ld rfl rfl rfl ?_)
  refine Lb_w (lb_ial rfl rfl (fun hk => ?_))
  change Lb _ _ _ _ _ _ _ [.int (s.2.1 222 a1.toInt.toNat), .int 6, .ref 213] _ _
  replace h := h (kc_in (x := a1) rfl hk)
  refine Lb_w (lb_call [.ref 213, .int 6, .int (s.2.1 222 a1.toInt.toNat)] [] rfl rfl rfl (Par.imp h (fun v2 s1 h => ?_)))
  obtain ⟨rfl, h⟩ := h
  change Lb _ _ _ _ _ _ _ [] _ _
  exact lk_207_41  h
def ub_207_0 (T : Nat → List Value → yS → (Option Value → yS → Prop) → Prop)  (a1 : Int32) (s : yS) (P : Option Value → yS → Prop) : Prop :=
  T 204 [.ref 213, .int a1, .int 0] s (fun v2 s1 => v2 = none ∧ ((¬ ((s1.1 8).toInt = 0) → ub_207_41 T  a1  s1 P) ∧ ((s1.1 8).toInt = 0 → ((0 ≤ a1.toInt ∧ a1.toInt < 12006) → ((0 ≤ (s1.2.1 231 a1.toInt.toNat).toInt ∧ (s1.2.1 231 a1.toInt.toNat).toInt < 200000) → T 185 [.int (s1.2.1 264 (s1.2.1 231 a1.toInt.toNat).toInt.toNat)] s1 (fun v4 s3 => ∃ x5, v4 = some (.int x5) ∧ ((1000 ≤ x5.toInt → ub_207_34 T  a1  s3 P) ∧ (¬ (1000 ≤ x5.toInt) → ((-2147483648 ≤ 24 * (s3.1 75).toInt ∧ 24 * (s3.1 75).toInt ≤ 2147483647) → ∀ x6 : Int32, x6.toInt = 24 * (s3.1 75).toInt → ((0 ≤ a1.toInt ∧ a1.toInt < 12006) → ((0 ≤ (s3.2.1 231 a1.toInt.toNat).toInt ∧ (s3.2.1 231 a1.toInt.toNat).toInt < 200000) → T 185 [.int (s3.2.1 264 (s3.2.1 231 a1.toInt.toNat).toInt.toNat)] s3 (fun v8 s7 => ∃ x9, v8 = some (.int x9) ∧ (((-2147483648 ≤ x6.toInt + x9.toInt ∧ x6.toInt + x9.toInt ≤ 2147483647) → ∀ x10 : Int32, x10.toInt = x6.toInt + x9.toInt → ((0 ≤ x10.toInt ∧ x10.toInt < 48) → ((s7.2.1 235 x10.toInt.toNat).toInt = 0 → ub_207_41 T  a1  s7 P) ∧ (¬ ((s7.2.1 235 x10.toInt.toNat).toInt = 0) → ub_207_34 T  a1  s7 P))))))))))))))))
set_option maxRecDepth 20000 in
theorem lk_207_0 {d N0 : Nat}  {a1 : Int32} {s : yS} {P : Option Value → yS → Prop}  (h : ub_207_0 (Par d)  a1 s P) : Lb d N0 2 (none) xE_207 (xE_207.drop 0) [.ref 213, .int a1, .null, .null] [] s P := by
  unfold ub_207_0 at h
  refine Lb_w (lb_ld rfl rfl rfl ?_)
  refine Lb_w (lb_ld rfl rfl rfl ?_)
  refine Lb_w (lb_c [.int 0, .int a1, .ref 213] (xo_push (.int 0)) rfl rfl ?_)
  refine Lb_w (lb_call [.ref 213, .int a1, .int 0] [] rfl rfl rfl (Par.imp h (fun v2 s1 h => ?_)))
  obtain ⟨rfl, h⟩ := h
  change Lb _ _ _ _ _ _ _ [] _ _
  refine Lb_w (lb_ld rfl rfl rfl ?_)
  refine Lb_w (lb_get rfl rfl ?_)
  change Lb _ _ _ _ _ _ _ [.int (s1.1 8)] _ _
  refine Lb_w (lb_brN rfl rfl ⟨fun hc => ?_, fun hc => ?_⟩)
  · replace h := h.1 (fun q => hc ((i_eq (x := s1.1 8) (y := 0) rfl (show (0 : Int32).toInt = 0 by decide)).mpr q))
    exact lk_207_41  h
  · replace h := h.2 ((i_eq (x := s1.1 8) (y := 0) rfl (show (0 : Int32).toInt = 0 by decide)).mp hc)
    refine Lb_w (lb_ld rfl rfl rfl ?_)
    refine Lb_w (lb_get rfl rfl ?_)
    change Lb _ _ _ _ _ _ _ [.ref 264] _ _
    refine Lb_w (lb_ld rfl rfl rfl ?_)
    refine Lb_w (lb_get rfl rfl ?_)
    change Lb _ _ _ _ _ _ _ [.ref 231, .ref 264] _ _
    refine Lb_w (lb_ld rfl rfl rfl ?_)
    refine Lb_w (lb_ial rfl rfl (fun hk => ?_))
    change Lb _ _ _ _ _ _ _ [.int (s1.2.1 231 a1.toInt.toNat), .ref 264] _ _
    replace h := h (kc_in (x := a1) rfl hk)
    refine Lb_w (lb_ial rfl rfl (fun hk => ?_))
    change Lb _ _ _ _ _ _ _ [.int (s1.2.1 264 (s1.2.1 231 a1.toInt.toNat).toInt.toNat)] _ _
    replace h := h (kc_in (x := s1.2.1 231 a1.toInt.toNat) rfl hk)
    refine Lb_w (lb_call [.int (s1.2.1 264 (s1.2.1 231 a1.toInt.toNat).toInt.toNat)] [] rfl rfl rfl (Par.imp h (fun v4 s3 h => ?_)))
    obtain ⟨x5, rfl, h⟩ := h
    change Lb _ _ _ _ _ _ _ [.int x5] _ _
    refine Lb_w (lb_c [.int 1000, .int x5] (xo_push (.int 1000)) rfl rfl ?_)
    refine Lb_w (lb_brP rfl rfl ⟨fun hc => ?_, fun hc => ?_⟩)
    · replace h := h.1 ((i_le (x := 1000) (y := x5) (show (1000 : Int32).toInt = 1000 by decide) rfl).mp hc)
      exact lk_207_34  h
    · replace h := h.2 (fun q => hc ((i_le (x := 1000) (y := x5) (show (1000 : Int32).toInt = 1000 by decide) rfl).mpr q))
      refine Lb_w (lb_ld rfl rfl rfl ?_)
      refine Lb_w (lb_get rfl rfl ?_)
      change Lb _ _ _ _ _ _ _ [.ref 235] _ _
      refine Lb_w (lb_c [.int 24, .ref 235] (xo_push (.int 24)) rfl rfl ?_)
      refine Lb_w (lb_ld rfl rfl rfl ?_)
      refine Lb_w (lb_get rfl rfl ?_)
      change Lb _ _ _ _ _ _ _ [.int (s3.1 75), .int 24, .ref 235] _ _
      refine Lb_w (lb_ca [.int (24 * (s3.1 75)), .ref 235] xo_imul rfl rfl (fun _ hk => ?_))
      replace hk := kc_mul (x := 24) (y := s3.1 75) (show (24 : Int32).toInt = 24 by decide) rfl hk
      replace h := h hk _ (i_mul (x := 24) (y := s3.1 75) (show (24 : Int32).toInt = 24 by decide) rfl hk)
      refine Lb_w (lb_ld rfl rfl rfl ?_)
      refine Lb_w (lb_get rfl rfl ?_)
      change Lb _ _ _ _ _ _ _ [.ref 264, .int (24 * (s3.1 75)), .ref 235] _ _
      refine Lb_w (lb_ld rfl rfl rfl ?_)
      refine Lb_w (lb_get rfl rfl ?_)
      change Lb _ _ _ _ _ _ _ [.ref 231, .ref 264, .int (24 * (s3.1 75)), .ref 235] _ _
      refine Lb_w (lb_ld rfl rfl rfl ?_)
      refine Lb_w (lb_ial rfl rfl (fun hk => ?_))
      change Lb _ _ _ _ _ _ _ [.int (s3.2.1 231 a1.toInt.toNat), .ref 264, .int (24 * (s3.1 75)), .ref 235] _ _
      replace h := h (kc_in (x := a1) rfl hk)
      refine Lb_w (lb_ial rfl rfl (fun hk => ?_))
      change Lb _ _ _ _ _ _ _ [.int (s3.2.1 264 (s3.2.1 231 a1.toInt.toNat).toInt.toNat), .int (24 * (s3.1 75)), .ref 235] _ _
      replace h := h (kc_in (x := s3.2.1 231 a1.toInt.toNat) rfl hk)
      refine Lb_w (lb_call [.int (s3.2.1 264 (s3.2.1 231 a1.toInt.toNat).toInt.toNat)] [.int (24 * (s3.1 75)), .ref 235] rfl rfl rfl (Par.imp h (fun v8 s7 h => ?_)))
      obtain ⟨x9, rfl, h⟩ := h
      change Lb _ _ _ _ _ _ _ [.int x9, .int (24 * (s3.1 75)), .ref 235] _ _
      refine Lb_w (lb_ca [.int ((24 * (s3.1 75)) + x9), .ref 235] xo_iadd rfl rfl (fun _ hk => ?_))
      replace hk := kc_add (x := (24 * (s3.1 75))) (y := x9) rfl rfl hk
      replace h := h hk _ (i_add (x := (24 * (s3.1 75))) (y := x9) rfl rfl hk)
      refine Lb_w (lb_zal rfl rfl (fun hk => ?_))
      change Lb _ _ _ _ _ _ _ [.int (s7.2.1 235 ((24 * (s3.1 75)) + x9).toInt.toNat)] _ _
      replace h := h (kc_in (x := ((24 * (s3.1 75)) + x9)) rfl hk)
      refine Lb_w (lb_brP rfl rfl ⟨fun hc => ?_, fun hc => ?_⟩)
      · replace h := h.1 ((i_eq (x := s7.2.1 235 ((24 * (s3.1 75)) + x9).toInt.toNat) (y := 0) rfl (show (0 : Int32).toInt = 0 by decide)).mp hc)
        exact lk_207_41  h
      · replace h := h.2 (fun q => hc ((i_eq (x := s7.2.1 235 ((24 * (s3.1 75)) + x9).toInt.toNat) (y := 0) rfl (show (0 : Int32).toInt = 0 by decide)).mpr q))
        exact lk_207_34  h
theorem pb_207 {d : Nat} {a1 : Int32} {s : yS} {P : Option Value → yS → Prop} (h : ub_207_0 (Par d) a1 s P) : Par (d + 1) 207 [.ref 213, .int a1] s P := par_of (E := xE_207) (ml := 2) (ret := none) rfl (fun _ => lk_207_0 h)
/-! headWords -/
def ub_208_27 (T : Nat → List Value → yS → (Option Value → yS → Prop) → Prop) (R27 : Int32 → Int32 → Int32 → Int32 → yS → Prop) (a1 : Int32) (a2 : Int32) (a3 : Int32) (a4 : Int32) (s : yS) (P : Option Value → yS → Prop) : Prop :=
  ((0 ≤ a1.toInt ∧ a1.toInt < 408) → ((s.2.1 248 a1.toInt.toNat).toInt ≤ a4.toInt → ((0 ≤ a1.toInt ∧ a1.toInt < 408) → T 204 [.ref 213, .int (s.2.1 251 a1.toInt.toNat), .int 0] s (fun v2 s1 => v2 = none ∧ (P none s1)))) ∧ (¬ ((s.2.1 248 a1.toInt.toNat).toInt ≤ a4.toInt) → ((-2147483648 ≤ 6 * a1.toInt ∧ 6 * a1.toInt ≤ 2147483647) → ∀ x3 : Int32, x3.toInt = 6 * a1.toInt → ((-2147483648 ≤ x3.toInt + a4.toInt ∧ x3.toInt + a4.toInt ≤ 2147483647) → ∀ x4 : Int32, x4.toInt = x3.toInt + a4.toInt → ((0 ≤ x4.toInt ∧ x4.toInt < 2448) → T 204 [.ref 213, .int (s.2.1 250 x4.toInt.toNat), .int 0] s (fun v6 s5 => v6 = none ∧ (((-2147483648 ≤ a4.toInt + 1 ∧ a4.toInt + 1 ≤ 2147483647) → ∀ x7 : Int32, x7.toInt = a4.toInt + 1 → R27 a1 a2 a3 x7  s5))))))))
set_option maxRecDepth 20000 in
theorem lk_208_27 {d N0 : Nat} {R27 : Int32 → Int32 → Int32 → Int32 → yS → Prop} {a1 : Int32} {a2 : Int32} {a3 : Int32} {a4 : Int32} {s : yS} {P : Option Value → yS → Prop} (r27 : ∀ a1 a2 a3 a4 s, R27 a1 a2 a3 a4 s → Lb d N0 5 (none) xE_208 (xE_208.drop 27) [.ref 213, .int a1, .int a2, .int a3, .int a4, .null, .null, .null, .null] [] s P) (h : ub_208_27 (Par d) R27 a1 a2 a3 a4 s P) : Lb d (N0 + 1) 5 (none) xE_208 (xE_208.drop 27) [.ref 213, .int a1, .int a2, .int a3, .int a4, .null, .null, .null, .null] [] s P := by
  unfold ub_208_27 at h
  refine lb_ld rfl rfl rfl ?_
  refine Lb_w (lb_ld rfl rfl rfl ?_)
  refine Lb_w (lb_get rfl rfl ?_)
  change Lb _ _ _ _ _ _ _ [.ref 248, .int a4] _ _
  refine Lb_w (lb_ld rfl rfl rfl ?_)
  refine Lb_w (lb_ial rfl rfl (fun hk => ?_))
  change Lb _ _ _ _ _ _ _ [.int (s.2.1 248 a1.toInt.toNat), .int a4] _ _
  replace h := h (kc_in (x := a1) rfl hk)
  refine Lb_w (lb_brP rfl rfl ⟨fun hc => ?_, fun hc => ?_⟩)
  · replace h := h.1 ((i_le (x := s.2.1 248 a1.toInt.toNat) (y := a4) rfl rfl).mp hc)
    refine Lb_w (lb_ld rfl rfl rfl ?_)
    refine Lb_w (lb_ld rfl rfl rfl ?_)
    refine Lb_w (lb_get rfl rfl ?_)
    change Lb _ _ _ _ _ _ _ [.ref 251, .ref 213] _ _
    refine Lb_w (lb_ld rfl rfl rfl ?_)
    refine Lb_w (lb_ial rfl rfl (fun hk => ?_))
    change Lb _ _ _ _ _ _ _ [.int (s.2.1 251 a1.toInt.toNat), .ref 213] _ _
    replace h := h (kc_in (x := a1) rfl hk)
    refine Lb_w (lb_c [.int 0, .int (s.2.1 251 a1.toInt.toNat), .ref 213] (xo_push (.int 0)) rfl rfl ?_)
    refine Lb_w (lb_call [.ref 213, .int (s.2.1 251 a1.toInt.toNat), .int 0] [] rfl rfl rfl (Par.imp h (fun v2 s1 h => ?_)))
    obtain ⟨rfl, h⟩ := h
    change Lb _ _ _ _ _ _ _ [] _ _
    exact Lb_w (lb_ret0 rfl h)
  · replace h := h.2 (fun q => hc ((i_le (x := s.2.1 248 a1.toInt.toNat) (y := a4) rfl rfl).mpr q))
    refine Lb_w (lb_ld rfl rfl rfl ?_)
    refine Lb_w (lb_ld rfl rfl rfl ?_)
    refine Lb_w (lb_get rfl rfl ?_)
    change Lb _ _ _ _ _ _ _ [.ref 250, .ref 213] _ _
    refine Lb_w (lb_c [.int 6, .ref 250, .ref 213] (xo_push (.int 6)) rfl rfl ?_)
    refine Lb_w (lb_ld rfl rfl rfl ?_)
    refine Lb_w (lb_ca [.int (6 * a1), .ref 250, .ref 213] xo_imul rfl rfl (fun _ hk => ?_))
    replace hk := kc_mul (x := 6) (y := a1) (show (6 : Int32).toInt = 6 by decide) rfl hk
    replace h := h hk _ (i_mul (x := 6) (y := a1) (show (6 : Int32).toInt = 6 by decide) rfl hk)
    refine Lb_w (lb_ld rfl rfl rfl ?_)
    refine Lb_w (lb_ca [.int ((6 * a1) + a4), .ref 250, .ref 213] xo_iadd rfl rfl (fun _ hk => ?_))
    replace hk := kc_add (x := (6 * a1)) (y := a4) rfl rfl hk
    replace h := h hk _ (i_add (x := (6 * a1)) (y := a4) rfl rfl hk)
    refine Lb_w (lb_ial rfl rfl (fun hk => ?_))
    change Lb _ _ _ _ _ _ _ [.int (s.2.1 250 ((6 * a1) + a4).toInt.toNat), .ref 213] _ _
    replace h := h (kc_in (x := ((6 * a1) + a4)) rfl hk)
    refine Lb_w (lb_c [.int 0, .int (s.2.1 250 ((6 * a1) + a4).toInt.toNat), .ref 213] (xo_push (.int 0)) rfl rfl ?_)
    refine Lb_w (lb_call [.ref 213, .int (s.2.1 250 ((6 * a1) + a4).toInt.toNat), .int 0] [] rfl rfl rfl (Par.imp h (fun v6 s5 h => ?_)))
    obtain ⟨rfl, h⟩ := h
    change Lb _ _ _ _ _ _ _ [] _ _
    refine Lb_w (lb_inc [.ref 213, .int a1, .int a2, .int a3, .int (a4 + 1), .null, .null, .null, .null] rfl rfl rfl rfl (fun hk => ?_))
    replace hk := kc_inc (x := a4) (n := 1) rfl hk
    replace h := h hk _ (i_add (x := a4) (y := 1) rfl (show (1 : Int32).toInt = 1 by decide) hk)
    refine Lb_w (lb_go rfl ?_)
    exact r27 a1 a2 a3 (a4 + 1)  s5 h
def ubl_208_27 (T : Nat → List Value → yS → (Option Value → yS → Prop) → Prop)  (a1 : Int32) (a2 : Int32) (a3 : Int32) (a4 : Int32) (s : yS) (P : Option Value → yS → Prop) : Prop :=
  ∃ (I : Int32 → Int32 → Int32 → Int32 → yS → Prop), I a1 a2 a3 a4 s ∧ ∀ (a1 : Int32) (a2 : Int32) (a3 : Int32) (a4 : Int32) (s : yS), I a1 a2 a3 a4 s → ub_208_27 T I a1 a2 a3 a4 s P
theorem lkl_208_27 {d N0 : Nat}  {a1 : Int32} {a2 : Int32} {a3 : Int32} {a4 : Int32} {s : yS} {P : Option Value → yS → Prop}  (h : ubl_208_27 (Par d)  a1 a2 a3 a4 s P) : Lb d N0 5 (none) xE_208 (xE_208.drop 27) [.ref 213, .int a1, .int a2, .int a3, .int a4, .null, .null, .null, .null] [] s P := by
  obtain ⟨I, h0, h1⟩ := h
  have key : ∀ (m : Nat), m ≤ N0 → ∀ (a1 : Int32) (a2 : Int32) (a3 : Int32) (a4 : Int32) (s : yS), I a1 a2 a3 a4 s → Lb d m 5 (none) xE_208 (xE_208.drop 27) [.ref 213, .int a1, .int a2, .int a3, .int a4, .null, .null, .null, .null] [] s P := by
    intro m
    induction m with
    | zero => exact fun _ a1 a2 a3 a4 s _ => Lb_0
    | succ m ih =>
      intro hm
      replace hm : m ≤ N0 := Nat.le_of_succ_le hm
      replace ih := ih hm
      intro a1 a2 a3 a4 s hI
      exact lk_208_27 ih (h1 a1 a2 a3 a4 s hI)
  exact key N0 (Nat.le_refl _) a1 a2 a3 a4 s h0
def ub_208_7 (T : Nat → List Value → yS → (Option Value → yS → Prop) → Prop) (R7 : Int32 → Int32 → Int32 → Int32 → yS → Prop) (a1 : Int32) (a2 : Int32) (a3 : Int32) (a4 : Int32) (s : yS) (P : Option Value → yS → Prop) : Prop :=
  ((0 ≤ a1.toInt ∧ a1.toInt < 408) → ((s.2.1 245 a1.toInt.toNat).toInt ≤ a4.toInt → ubl_208_27 T  a1 a2 a3 0  s P) ∧ (¬ ((s.2.1 245 a1.toInt.toNat).toInt ≤ a4.toInt) → ((-2147483648 ≤ 6 * a1.toInt ∧ 6 * a1.toInt ≤ 2147483647) → ∀ x1 : Int32, x1.toInt = 6 * a1.toInt → ((-2147483648 ≤ x1.toInt + a4.toInt ∧ x1.toInt + a4.toInt ≤ 2147483647) → ∀ x2 : Int32, x2.toInt = x1.toInt + a4.toInt → ((0 ≤ x2.toInt ∧ x2.toInt < 2448) → T 207 [.ref 213, .int (s.2.1 247 x2.toInt.toNat)] s (fun v4 s3 => v4 = none ∧ (((-2147483648 ≤ a4.toInt + 1 ∧ a4.toInt + 1 ≤ 2147483647) → ∀ x5 : Int32, x5.toInt = a4.toInt + 1 → R7 a1 a2 a3 x5  s3))))))))
set_option maxRecDepth 20000 in
theorem lk_208_7 {d N0 : Nat} {R7 : Int32 → Int32 → Int32 → Int32 → yS → Prop} {a1 : Int32} {a2 : Int32} {a3 : Int32} {a4 : Int32} {s : yS} {P : Option Value → yS → Prop} (r7 : ∀ a1 a2 a3 a4 s, R7 a1 a2 a3 a4 s → Lb d N0 5 (none) xE_208 (xE_208.drop 7) [.ref 213, .int a1, .int a2, .int a3, .int a4, .null, .null, .null, .null] [] s P) (h : ub_208_7 (Par d) R7 a1 a2 a3 a4 s P) : Lb d (N0 + 1) 5 (none) xE_208 (xE_208.drop 7) [.ref 213, .int a1, .int a2, .int a3, .int a4, .null, .null, .null, .null] [] s P := by
  unfold ub_208_7 at h
  refine lb_ld rfl rfl rfl ?_
  refine Lb_w (lb_ld rfl rfl rfl ?_)
  refine Lb_w (lb_get rfl rfl ?_)
  change Lb _ _ _ _ _ _ _ [.ref 245, .int a4] _ _
  refine Lb_w (lb_ld rfl rfl rfl ?_)
  refine Lb_w (lb_ial rfl rfl (fun hk => ?_))
  change Lb _ _ _ _ _ _ _ [.int (s.2.1 245 a1.toInt.toNat), .int a4] _ _
  replace h := h (kc_in (x := a1) rfl hk)
  refine Lb_w (lb_brP rfl rfl ⟨fun hc => ?_, fun hc => ?_⟩)
  · replace h := h.1 ((i_le (x := s.2.1 245 a1.toInt.toNat) (y := a4) rfl rfl).mp hc)
    refine Lb_w (lb_c [.int 0] (xo_push (.int 0)) rfl rfl ?_)
    refine Lb_w (lb_st [.ref 213, .int a1, .int a2, .int a3, .int 0, .null, .null, .null, .null] rfl rfl rfl ?_)
    exact lkl_208_27  h
  · replace h := h.2 (fun q => hc ((i_le (x := s.2.1 245 a1.toInt.toNat) (y := a4) rfl rfl).mpr q))
    refine Lb_w (lb_ld rfl rfl rfl ?_)
    refine Lb_w (lb_ld rfl rfl rfl ?_)
    refine Lb_w (lb_get rfl rfl ?_)
    change Lb _ _ _ _ _ _ _ [.ref 247, .ref 213] _ _
    refine Lb_w (lb_c [.int 6, .ref 247, .ref 213] (xo_push (.int 6)) rfl rfl ?_)
    refine Lb_w (lb_ld rfl rfl rfl ?_)
    refine Lb_w (lb_ca [.int (6 * a1), .ref 247, .ref 213] xo_imul rfl rfl (fun _ hk => ?_))
    replace hk := kc_mul (x := 6) (y := a1) (show (6 : Int32).toInt = 6 by decide) rfl hk
    replace h := h hk _ (i_mul (x := 6) (y := a1) (show (6 : Int32).toInt = 6 by decide) rfl hk)
    refine Lb_w (lb_ld rfl rfl rfl ?_)
    refine Lb_w (lb_ca [.int ((6 * a1) + a4), .ref 247, .ref 213] xo_iadd rfl rfl (fun _ hk => ?_))
    replace hk := kc_add (x := (6 * a1)) (y := a4) rfl rfl hk
    replace h := h hk _ (i_add (x := (6 * a1)) (y := a4) rfl rfl hk)
    refine Lb_w (lb_ial rfl rfl (fun hk => ?_))
    change Lb _ _ _ _ _ _ _ [.int (s.2.1 247 ((6 * a1) + a4).toInt.toNat), .ref 213] _ _
    replace h := h (kc_in (x := ((6 * a1) + a4)) rfl hk)
    refine Lb_w (lb_call [.ref 213, .int (s.2.1 247 ((6 * a1) + a4).toInt.toNat)] [] rfl rfl rfl (Par.imp h (fun v4 s3 h => ?_)))
    obtain ⟨rfl, h⟩ := h
    change Lb _ _ _ _ _ _ _ [] _ _
    refine Lb_w (lb_inc [.ref 213, .int a1, .int a2, .int a3, .int (a4 + 1), .null, .null, .null, .null] rfl rfl rfl rfl (fun hk => ?_))
    replace hk := kc_inc (x := a4) (n := 1) rfl hk
    replace h := h hk _ (i_add (x := a4) (y := 1) rfl (show (1 : Int32).toInt = 1 by decide) hk)
    refine Lb_w (lb_go rfl ?_)
    exact r7 a1 a2 a3 (a4 + 1)  s3 h
def ubl_208_7 (T : Nat → List Value → yS → (Option Value → yS → Prop) → Prop)  (a1 : Int32) (a2 : Int32) (a3 : Int32) (a4 : Int32) (s : yS) (P : Option Value → yS → Prop) : Prop :=
  ∃ (I : Int32 → Int32 → Int32 → Int32 → yS → Prop), I a1 a2 a3 a4 s ∧ ∀ (a1 : Int32) (a2 : Int32) (a3 : Int32) (a4 : Int32) (s : yS), I a1 a2 a3 a4 s → ub_208_7 T I a1 a2 a3 a4 s P
theorem lkl_208_7 {d N0 : Nat}  {a1 : Int32} {a2 : Int32} {a3 : Int32} {a4 : Int32} {s : yS} {P : Option Value → yS → Prop}  (h : ubl_208_7 (Par d)  a1 a2 a3 a4 s P) : Lb d N0 5 (none) xE_208 (xE_208.drop 7) [.ref 213, .int a1, .int a2, .int a3, .int a4, .null, .null, .null, .null] [] s P := by
  obtain ⟨I, h0, h1⟩ := h
  have key : ∀ (m : Nat), m ≤ N0 → ∀ (a1 : Int32) (a2 : Int32) (a3 : Int32) (a4 : Int32) (s : yS), I a1 a2 a3 a4 s → Lb d m 5 (none) xE_208 (xE_208.drop 7) [.ref 213, .int a1, .int a2, .int a3, .int a4, .null, .null, .null, .null] [] s P := by
    intro m
    induction m with
    | zero => exact fun _ a1 a2 a3 a4 s _ => Lb_0
    | succ m ih =>
      intro hm
      replace hm : m ≤ N0 := Nat.le_of_succ_le hm
      replace ih := ih hm
      intro a1 a2 a3 a4 s hI
      exact lk_208_7 ih (h1 a1 a2 a3 a4 s hI)
  exact key N0 (Nat.le_refl _) a1 a2 a3 a4 s h0
def ub_208_0 (T : Nat → List Value → yS → (Option Value → yS → Prop) → Prop)  (a1 : Int32) (a2 : Int32) (a3 : Int32) (s : yS) (P : Option Value → yS → Prop) : Prop :=
  T 206 [.ref 213, .int a2, .int a1, .int a3] s (fun v2 s1 => v2 = none ∧ (ubl_208_7 T  a1 a2 a3 0  s1 P))
set_option maxRecDepth 20000 in
theorem lk_208_0 {d N0 : Nat}  {a1 : Int32} {a2 : Int32} {a3 : Int32} {s : yS} {P : Option Value → yS → Prop}  (h : ub_208_0 (Par d)  a1 a2 a3 s P) : Lb d N0 5 (none) xE_208 (xE_208.drop 0) [.ref 213, .int a1, .int a2, .int a3, .null, .null, .null, .null, .null] [] s P := by
  unfold ub_208_0 at h
  refine Lb_w (lb_ld rfl rfl rfl ?_)
  refine Lb_w (lb_ld rfl rfl rfl ?_)
  refine Lb_w (lb_ld rfl rfl rfl ?_)
  refine Lb_w (lb_ld rfl rfl rfl ?_)
  refine Lb_w (lb_call [.ref 213, .int a2, .int a1, .int a3] [] rfl rfl rfl (Par.imp h (fun v2 s1 h => ?_)))
  obtain ⟨rfl, h⟩ := h
  change Lb _ _ _ _ _ _ _ [] _ _
  refine Lb_w (lb_c [.int 0] (xo_push (.int 0)) rfl rfl ?_)
  refine Lb_w (lb_st [.ref 213, .int a1, .int a2, .int a3, .int 0, .null, .null, .null, .null] rfl rfl rfl ?_)
  exact lkl_208_7  h
theorem pb_208 {d : Nat} {a1 : Int32} {a2 : Int32} {a3 : Int32} {s : yS} {P : Option Value → yS → Prop} (h : ub_208_0 (Par d) a1 a2 a3 s P) : Par (d + 1) 208 [.ref 213, .int a1, .int a2, .int a3] s P := par_of (E := xE_208) (ml := 5) (ret := none) rfl (fun _ => lk_208_0 h)
/-! typeWords -/
def ub_209_51 (T : Nat → List Value → yS → (Option Value → yS → Prop) → Prop) (R51 : Int32 → Int32 → yS → Prop) (a1 : Int32) (a2 : Int32) (s : yS) (P : Option Value → yS → Prop) : Prop :=
  ((0 ≤ a1.toInt ∧ a1.toInt < 48) → ((0 ≤ a1.toInt ∧ a1.toInt < 48) → ((-2147483648 ≤ (s.2.1 242 a1.toInt.toNat).toInt + (s.2.1 243 a1.toInt.toNat).toInt ∧ (s.2.1 242 a1.toInt.toNat).toInt + (s.2.1 243 a1.toInt.toNat).toInt ≤ 2147483647) → ∀ x1 : Int32, x1.toInt = (s.2.1 242 a1.toInt.toNat).toInt + (s.2.1 243 a1.toInt.toNat).toInt → (x1.toInt ≤ a2.toInt → P none s) ∧ (¬ (x1.toInt ≤ a2.toInt) → T 208 [.ref 213, .int a2, .int a1, .int (-1)] s (fun v3 s2 => v3 = none ∧ (((-2147483648 ≤ a2.toInt + 1 ∧ a2.toInt + 1 ≤ 2147483647) → ∀ x4 : Int32, x4.toInt = a2.toInt + 1 → R51 a1 x4  s2)))))))
set_option maxRecDepth 20000 in
theorem lk_209_51 {d N0 : Nat} {R51 : Int32 → Int32 → yS → Prop} {a1 : Int32} {a2 : Int32} {s : yS} {P : Option Value → yS → Prop} (r51 : ∀ a1 a2 s, R51 a1 a2 s → Lb d N0 3 (none) xE_209 (xE_209.drop 51) [.ref 213, .int a1, .int a2, .null, .null] [] s P) (h : ub_209_51 (Par d) R51 a1 a2 s P) : Lb d (N0 + 1) 3 (none) xE_209 (xE_209.drop 51) [.ref 213, .int a1, .int a2, .null, .null] [] s P := by
  unfold ub_209_51 at h
  refine lb_ld rfl rfl rfl ?_
  refine Lb_w (lb_ld rfl rfl rfl ?_)
  refine Lb_w (lb_get rfl rfl ?_)
  change Lb _ _ _ _ _ _ _ [.ref 242, .int a2] _ _
  refine Lb_w (lb_ld rfl rfl rfl ?_)
  refine Lb_w (lb_ial rfl rfl (fun hk => ?_))
  change Lb _ _ _ _ _ _ _ [.int (s.2.1 242 a1.toInt.toNat), .int a2] _ _
  replace h := h (kc_in (x := a1) rfl hk)
  refine Lb_w (lb_ld rfl rfl rfl ?_)
  refine Lb_w (lb_get rfl rfl ?_)
  change Lb _ _ _ _ _ _ _ [.ref 243, .int (s.2.1 242 a1.toInt.toNat), .int a2] _ _
  refine Lb_w (lb_ld rfl rfl rfl ?_)
  refine Lb_w (lb_ial rfl rfl (fun hk => ?_))
  change Lb _ _ _ _ _ _ _ [.int (s.2.1 243 a1.toInt.toNat), .int (s.2.1 242 a1.toInt.toNat), .int a2] _ _
  replace h := h (kc_in (x := a1) rfl hk)
  refine Lb_w (lb_ca [.int ((s.2.1 242 a1.toInt.toNat) + (s.2.1 243 a1.toInt.toNat)), .int a2] xo_iadd rfl rfl (fun _ hk => ?_))
  replace hk := kc_add (x := s.2.1 242 a1.toInt.toNat) (y := s.2.1 243 a1.toInt.toNat) rfl rfl hk
  replace h := h hk _ (i_add (x := s.2.1 242 a1.toInt.toNat) (y := s.2.1 243 a1.toInt.toNat) rfl rfl hk)
  refine Lb_w (lb_brP rfl rfl ⟨fun hc => ?_, fun hc => ?_⟩)
  · replace h := h.1 ((i_le (x := ((s.2.1 242 a1.toInt.toNat) + (s.2.1 243 a1.toInt.toNat))) (y := a2) rfl rfl).mp hc)
    exact Lb_w (lb_ret0 rfl h)
  · replace h := h.2 (fun q => hc ((i_le (x := ((s.2.1 242 a1.toInt.toNat) + (s.2.1 243 a1.toInt.toNat))) (y := a2) rfl rfl).mpr q))
    refine Lb_w (lb_ld rfl rfl rfl ?_)
    refine Lb_w (lb_ld rfl rfl rfl ?_)
    refine Lb_w (lb_ld rfl rfl rfl ?_)
    refine Lb_w (lb_c [.int (-1), .int a1, .int a2, .ref 213] (xo_push (.int (-1))) rfl rfl ?_)
    refine Lb_w (lb_call [.ref 213, .int a2, .int a1, .int (-1)] [] rfl rfl rfl (Par.imp h (fun v3 s2 h => ?_)))
    obtain ⟨rfl, h⟩ := h
    change Lb _ _ _ _ _ _ _ [] _ _
    refine Lb_w (lb_inc [.ref 213, .int a1, .int (a2 + 1), .null, .null] rfl rfl rfl rfl (fun hk => ?_))
    replace hk := kc_inc (x := a2) (n := 1) rfl hk
    replace h := h hk _ (i_add (x := a2) (y := 1) rfl (show (1 : Int32).toInt = 1 by decide) hk)
    refine Lb_w (lb_go rfl ?_)
    exact r51 a1 (a2 + 1)  s2 h
def ubl_209_51 (T : Nat → List Value → yS → (Option Value → yS → Prop) → Prop)  (a1 : Int32) (a2 : Int32) (s : yS) (P : Option Value → yS → Prop) : Prop :=
  ∃ (I : Int32 → Int32 → yS → Prop), I a1 a2 s ∧ ∀ (a1 : Int32) (a2 : Int32) (s : yS), I a1 a2 s → ub_209_51 T I a1 a2 s P
theorem lkl_209_51 {d N0 : Nat}  {a1 : Int32} {a2 : Int32} {s : yS} {P : Option Value → yS → Prop}  (h : ubl_209_51 (Par d)  a1 a2 s P) : Lb d N0 3 (none) xE_209 (xE_209.drop 51) [.ref 213, .int a1, .int a2, .null, .null] [] s P := by
  obtain ⟨I, h0, h1⟩ := h
  have key : ∀ (m : Nat), m ≤ N0 → ∀ (a1 : Int32) (a2 : Int32) (s : yS), I a1 a2 s → Lb d m 3 (none) xE_209 (xE_209.drop 51) [.ref 213, .int a1, .int a2, .null, .null] [] s P := by
    intro m
    induction m with
    | zero => exact fun _ a1 a2 s _ => Lb_0
    | succ m ih =>
      intro hm
      replace hm : m ≤ N0 := Nat.le_of_succ_le hm
      replace ih := ih hm
      intro a1 a2 s hI
      exact lk_209_51 ih (h1 a1 a2 s hI)
  exact key N0 (Nat.le_refl _) a1 a2 s h0
def ub_209_27 (T : Nat → List Value → yS → (Option Value → yS → Prop) → Prop) (R27 : Int32 → Int32 → yS → Prop) (a1 : Int32) (a2 : Int32) (s : yS) (P : Option Value → yS → Prop) : Prop :=
  ((0 ≤ a1.toInt ∧ a1.toInt < 48) → ((s.2.1 239 a1.toInt.toNat).toInt ≤ a2.toInt → ((0 ≤ a1.toInt ∧ a1.toInt < 48) → ubl_209_51 T  a1 (s.2.1 242 a1.toInt.toNat)  s P)) ∧ (¬ ((s.2.1 239 a1.toInt.toNat).toInt ≤ a2.toInt) → ((-2147483648 ≤ 6 * a1.toInt ∧ 6 * a1.toInt ≤ 2147483647) → ∀ x1 : Int32, x1.toInt = 6 * a1.toInt → ((-2147483648 ≤ x1.toInt + a2.toInt ∧ x1.toInt + a2.toInt ≤ 2147483647) → ∀ x2 : Int32, x2.toInt = x1.toInt + a2.toInt → ((0 ≤ x2.toInt ∧ x2.toInt < 288) → T 204 [.ref 213, .int (s.2.1 241 x2.toInt.toNat), .int 0] s (fun v4 s3 => v4 = none ∧ (((-2147483648 ≤ a2.toInt + 1 ∧ a2.toInt + 1 ≤ 2147483647) → ∀ x5 : Int32, x5.toInt = a2.toInt + 1 → R27 a1 x5  s3))))))))
set_option maxRecDepth 20000 in
theorem lk_209_27 {d N0 : Nat} {R27 : Int32 → Int32 → yS → Prop} {a1 : Int32} {a2 : Int32} {s : yS} {P : Option Value → yS → Prop} (r27 : ∀ a1 a2 s, R27 a1 a2 s → Lb d N0 3 (none) xE_209 (xE_209.drop 27) [.ref 213, .int a1, .int a2, .null, .null] [] s P) (h : ub_209_27 (Par d) R27 a1 a2 s P) : Lb d (N0 + 1) 3 (none) xE_209 (xE_209.drop 27) [.ref 213, .int a1, .int a2, .null, .null] [] s P := by
  unfold ub_209_27 at h
  refine lb_ld rfl rfl rfl ?_
  refine Lb_w (lb_ld rfl rfl rfl ?_)
  refine Lb_w (lb_get rfl rfl ?_)
  change Lb _ _ _ _ _ _ _ [.ref 239, .int a2] _ _
  refine Lb_w (lb_ld rfl rfl rfl ?_)
  refine Lb_w (lb_ial rfl rfl (fun hk => ?_))
  change Lb _ _ _ _ _ _ _ [.int (s.2.1 239 a1.toInt.toNat), .int a2] _ _
  replace h := h (kc_in (x := a1) rfl hk)
  refine Lb_w (lb_brP rfl rfl ⟨fun hc => ?_, fun hc => ?_⟩)
  · replace h := h.1 ((i_le (x := s.2.1 239 a1.toInt.toNat) (y := a2) rfl rfl).mp hc)
    refine Lb_w (lb_ld rfl rfl rfl ?_)
    refine Lb_w (lb_get rfl rfl ?_)
    change Lb _ _ _ _ _ _ _ [.ref 242] _ _
    refine Lb_w (lb_ld rfl rfl rfl ?_)
    refine Lb_w (lb_ial rfl rfl (fun hk => ?_))
    change Lb _ _ _ _ _ _ _ [.int (s.2.1 242 a1.toInt.toNat)] _ _
    replace h := h (kc_in (x := a1) rfl hk)
    refine Lb_w (lb_st [.ref 213, .int a1, .int (s.2.1 242 a1.toInt.toNat), .null, .null] rfl rfl rfl ?_)
    exact lkl_209_51  h
  · replace h := h.2 (fun q => hc ((i_le (x := s.2.1 239 a1.toInt.toNat) (y := a2) rfl rfl).mpr q))
    refine Lb_w (lb_ld rfl rfl rfl ?_)
    refine Lb_w (lb_ld rfl rfl rfl ?_)
    refine Lb_w (lb_get rfl rfl ?_)
    change Lb _ _ _ _ _ _ _ [.ref 241, .ref 213] _ _
    refine Lb_w (lb_c [.int 6, .ref 241, .ref 213] (xo_push (.int 6)) rfl rfl ?_)
    refine Lb_w (lb_ld rfl rfl rfl ?_)
    refine Lb_w (lb_ca [.int (6 * a1), .ref 241, .ref 213] xo_imul rfl rfl (fun _ hk => ?_))
    replace hk := kc_mul (x := 6) (y := a1) (show (6 : Int32).toInt = 6 by decide) rfl hk
    replace h := h hk _ (i_mul (x := 6) (y := a1) (show (6 : Int32).toInt = 6 by decide) rfl hk)
    refine Lb_w (lb_ld rfl rfl rfl ?_)
    refine Lb_w (lb_ca [.int ((6 * a1) + a2), .ref 241, .ref 213] xo_iadd rfl rfl (fun _ hk => ?_))
    replace hk := kc_add (x := (6 * a1)) (y := a2) rfl rfl hk
    replace h := h hk _ (i_add (x := (6 * a1)) (y := a2) rfl rfl hk)
    refine Lb_w (lb_ial rfl rfl (fun hk => ?_))
    change Lb _ _ _ _ _ _ _ [.int (s.2.1 241 ((6 * a1) + a2).toInt.toNat), .ref 213] _ _
    replace h := h (kc_in (x := ((6 * a1) + a2)) rfl hk)
    refine Lb_w (lb_c [.int 0, .int (s.2.1 241 ((6 * a1) + a2).toInt.toNat), .ref 213] (xo_push (.int 0)) rfl rfl ?_)
    refine Lb_w (lb_call [.ref 213, .int (s.2.1 241 ((6 * a1) + a2).toInt.toNat), .int 0] [] rfl rfl rfl (Par.imp h (fun v4 s3 h => ?_)))
    obtain ⟨rfl, h⟩ := h
    change Lb _ _ _ _ _ _ _ [] _ _
    refine Lb_w (lb_inc [.ref 213, .int a1, .int (a2 + 1), .null, .null] rfl rfl rfl rfl (fun hk => ?_))
    replace hk := kc_inc (x := a2) (n := 1) rfl hk
    replace h := h hk _ (i_add (x := a2) (y := 1) rfl (show (1 : Int32).toInt = 1 by decide) hk)
    refine Lb_w (lb_go rfl ?_)
    exact r27 a1 (a2 + 1)  s3 h
def ubl_209_27 (T : Nat → List Value → yS → (Option Value → yS → Prop) → Prop)  (a1 : Int32) (a2 : Int32) (s : yS) (P : Option Value → yS → Prop) : Prop :=
  ∃ (I : Int32 → Int32 → yS → Prop), I a1 a2 s ∧ ∀ (a1 : Int32) (a2 : Int32) (s : yS), I a1 a2 s → ub_209_27 T I a1 a2 s P
theorem lkl_209_27 {d N0 : Nat}  {a1 : Int32} {a2 : Int32} {s : yS} {P : Option Value → yS → Prop}  (h : ubl_209_27 (Par d)  a1 a2 s P) : Lb d N0 3 (none) xE_209 (xE_209.drop 27) [.ref 213, .int a1, .int a2, .null, .null] [] s P := by
  obtain ⟨I, h0, h1⟩ := h
  have key : ∀ (m : Nat), m ≤ N0 → ∀ (a1 : Int32) (a2 : Int32) (s : yS), I a1 a2 s → Lb d m 3 (none) xE_209 (xE_209.drop 27) [.ref 213, .int a1, .int a2, .null, .null] [] s P := by
    intro m
    induction m with
    | zero => exact fun _ a1 a2 s _ => Lb_0
    | succ m ih =>
      intro hm
      replace hm : m ≤ N0 := Nat.le_of_succ_le hm
      replace ih := ih hm
      intro a1 a2 s hI
      exact lk_209_27 ih (h1 a1 a2 s hI)
  exact key N0 (Nat.le_refl _) a1 a2 s h0
def ub_209_7 (T : Nat → List Value → yS → (Option Value → yS → Prop) → Prop) (R7 : Int32 → Int32 → yS → Prop) (a1 : Int32) (a2 : Int32) (s : yS) (P : Option Value → yS → Prop) : Prop :=
  ((0 ≤ a1.toInt ∧ a1.toInt < 48) → ((s.2.1 236 a1.toInt.toNat).toInt ≤ a2.toInt → ubl_209_27 T  a1 0  s P) ∧ (¬ ((s.2.1 236 a1.toInt.toNat).toInt ≤ a2.toInt) → ((-2147483648 ≤ 6 * a1.toInt ∧ 6 * a1.toInt ≤ 2147483647) → ∀ x1 : Int32, x1.toInt = 6 * a1.toInt → ((-2147483648 ≤ x1.toInt + a2.toInt ∧ x1.toInt + a2.toInt ≤ 2147483647) → ∀ x2 : Int32, x2.toInt = x1.toInt + a2.toInt → ((0 ≤ x2.toInt ∧ x2.toInt < 288) → T 207 [.ref 213, .int (s.2.1 238 x2.toInt.toNat)] s (fun v4 s3 => v4 = none ∧ (((-2147483648 ≤ a2.toInt + 1 ∧ a2.toInt + 1 ≤ 2147483647) → ∀ x5 : Int32, x5.toInt = a2.toInt + 1 → R7 a1 x5  s3))))))))
set_option maxRecDepth 20000 in
theorem lk_209_7 {d N0 : Nat} {R7 : Int32 → Int32 → yS → Prop} {a1 : Int32} {a2 : Int32} {s : yS} {P : Option Value → yS → Prop} (r7 : ∀ a1 a2 s, R7 a1 a2 s → Lb d N0 3 (none) xE_209 (xE_209.drop 7) [.ref 213, .int a1, .int a2, .null, .null] [] s P) (h : ub_209_7 (Par d) R7 a1 a2 s P) : Lb d (N0 + 1) 3 (none) xE_209 (xE_209.drop 7) [.ref 213, .int a1, .int a2, .null, .null] [] s P := by
  unfold ub_209_7 at h
  refine lb_ld rfl rfl rfl ?_
  refine Lb_w (lb_ld rfl rfl rfl ?_)
  refine Lb_w (lb_get rfl rfl ?_)
  change Lb _ _ _ _ _ _ _ [.ref 236, .int a2] _ _
  refine Lb_w (lb_ld rfl rfl rfl ?_)
  refine Lb_w (lb_ial rfl rfl (fun hk => ?_))
  change Lb _ _ _ _ _ _ _ [.int (s.2.1 236 a1.toInt.toNat), .int a2] _ _
  replace h := h (kc_in (x := a1) rfl hk)
  refine Lb_w (lb_brP rfl rfl ⟨fun hc => ?_, fun hc => ?_⟩)
  · replace h := h.1 ((i_le (x := s.2.1 236 a1.toInt.toNat) (y := a2) rfl rfl).mp hc)
    refine Lb_w (lb_c [.int 0] (xo_push (.int 0)) rfl rfl ?_)
    refine Lb_w (lb_st [.ref 213, .int a1, .int 0, .null, .null] rfl rfl rfl ?_)
    exact lkl_209_27  h
  · replace h := h.2 (fun q => hc ((i_le (x := s.2.1 236 a1.toInt.toNat) (y := a2) rfl rfl).mpr q))
    refine Lb_w (lb_ld rfl rfl rfl ?_)
    refine Lb_w (lb_ld rfl rfl rfl ?_)
    refine Lb_w (lb_get rfl rfl ?_)
    change Lb _ _ _ _ _ _ _ [.ref 238, .ref 213] _ _
    refine Lb_w (lb_c [.int 6, .ref 238, .ref 213] (xo_push (.int 6)) rfl rfl ?_)
    refine Lb_w (lb_ld rfl rfl rfl ?_)
    refine Lb_w (lb_ca [.int (6 * a1), .ref 238, .ref 213] xo_imul rfl rfl (fun _ hk => ?_))
    replace hk := kc_mul (x := 6) (y := a1) (show (6 : Int32).toInt = 6 by decide) rfl hk
    replace h := h hk _ (i_mul (x := 6) (y := a1) (show (6 : Int32).toInt = 6 by decide) rfl hk)
    refine Lb_w (lb_ld rfl rfl rfl ?_)
    refine Lb_w (lb_ca [.int ((6 * a1) + a2), .ref 238, .ref 213] xo_iadd rfl rfl (fun _ hk => ?_))
    replace hk := kc_add (x := (6 * a1)) (y := a2) rfl rfl hk
    replace h := h hk _ (i_add (x := (6 * a1)) (y := a2) rfl rfl hk)
    refine Lb_w (lb_ial rfl rfl (fun hk => ?_))
    change Lb _ _ _ _ _ _ _ [.int (s.2.1 238 ((6 * a1) + a2).toInt.toNat), .ref 213] _ _
    replace h := h (kc_in (x := ((6 * a1) + a2)) rfl hk)
    refine Lb_w (lb_call [.ref 213, .int (s.2.1 238 ((6 * a1) + a2).toInt.toNat)] [] rfl rfl rfl (Par.imp h (fun v4 s3 h => ?_)))
    obtain ⟨rfl, h⟩ := h
    change Lb _ _ _ _ _ _ _ [] _ _
    refine Lb_w (lb_inc [.ref 213, .int a1, .int (a2 + 1), .null, .null] rfl rfl rfl rfl (fun hk => ?_))
    replace hk := kc_inc (x := a2) (n := 1) rfl hk
    replace h := h hk _ (i_add (x := a2) (y := 1) rfl (show (1 : Int32).toInt = 1 by decide) hk)
    refine Lb_w (lb_go rfl ?_)
    exact r7 a1 (a2 + 1)  s3 h
def ubl_209_7 (T : Nat → List Value → yS → (Option Value → yS → Prop) → Prop)  (a1 : Int32) (a2 : Int32) (s : yS) (P : Option Value → yS → Prop) : Prop :=
  ∃ (I : Int32 → Int32 → yS → Prop), I a1 a2 s ∧ ∀ (a1 : Int32) (a2 : Int32) (s : yS), I a1 a2 s → ub_209_7 T I a1 a2 s P
theorem lkl_209_7 {d N0 : Nat}  {a1 : Int32} {a2 : Int32} {s : yS} {P : Option Value → yS → Prop}  (h : ubl_209_7 (Par d)  a1 a2 s P) : Lb d N0 3 (none) xE_209 (xE_209.drop 7) [.ref 213, .int a1, .int a2, .null, .null] [] s P := by
  obtain ⟨I, h0, h1⟩ := h
  have key : ∀ (m : Nat), m ≤ N0 → ∀ (a1 : Int32) (a2 : Int32) (s : yS), I a1 a2 s → Lb d m 3 (none) xE_209 (xE_209.drop 7) [.ref 213, .int a1, .int a2, .null, .null] [] s P := by
    intro m
    induction m with
    | zero => exact fun _ a1 a2 s _ => Lb_0
    | succ m ih =>
      intro hm
      replace hm : m ≤ N0 := Nat.le_of_succ_le hm
      replace ih := ih hm
      intro a1 a2 s hI
      exact lk_209_7 ih (h1 a1 a2 s hI)
  exact key N0 (Nat.le_refl _) a1 a2 s h0
def ub_209_0 (T : Nat → List Value → yS → (Option Value → yS → Prop) → Prop)  (a1 : Int32) (s : yS) (P : Option Value → yS → Prop) : Prop :=
  T 206 [.ref 213, .int a1, .int (-1), .int (-1)] s (fun v2 s1 => v2 = none ∧ (ubl_209_7 T  a1 0  s1 P))
set_option maxRecDepth 20000 in
theorem lk_209_0 {d N0 : Nat}  {a1 : Int32} {s : yS} {P : Option Value → yS → Prop}  (h : ub_209_0 (Par d)  a1 s P) : Lb d N0 3 (none) xE_209 (xE_209.drop 0) [.ref 213, .int a1, .null, .null, .null] [] s P := by
  unfold ub_209_0 at h
  refine Lb_w (lb_ld rfl rfl rfl ?_)
  refine Lb_w (lb_ld rfl rfl rfl ?_)
  refine Lb_w (lb_c [.int (-1), .int a1, .ref 213] (xo_push (.int (-1))) rfl rfl ?_)
  refine Lb_w (lb_c [.int (-1), .int (-1), .int a1, .ref 213] (xo_push (.int (-1))) rfl rfl ?_)
  refine Lb_w (lb_call [.ref 213, .int a1, .int (-1), .int (-1)] [] rfl rfl rfl (Par.imp h (fun v2 s1 h => ?_)))
  obtain ⟨rfl, h⟩ := h
  change Lb _ _ _ _ _ _ _ [] _ _
  refine Lb_w (lb_c [.int 0] (xo_push (.int 0)) rfl rfl ?_)
  refine Lb_w (lb_st [.ref 213, .int a1, .int 0, .null, .null] rfl rfl rfl ?_)
  exact lkl_209_7  h
theorem pb_209 {d : Nat} {a1 : Int32} {s : yS} {P : Option Value → yS → Prop} (h : ub_209_0 (Par d) a1 s P) : Par (d + 1) 209 [.ref 213, .int a1] s P := par_of (E := xE_209) (ml := 3) (ret := none) rfl (fun _ => lk_209_0 h)
/-! funcWords -/
def ub_210_68 (T : Nat → List Value → yS → (Option Value → yS → Prop) → Prop)  (a1 : Int32) (a2 : Int32) (s : yS) (P : Option Value → yS → Prop) : Prop :=
  ((0 ≤ a1.toInt ∧ a1.toInt < 120) → ∀ s1, s1 = sa s 261 a1.toInt.toNat a2 → ((0 ≤ a1.toInt ∧ a1.toInt < 120) → T 208 [.ref 213, .int (s1.2.1 257 a1.toInt.toNat), .int (-1), .int a1] s1 (fun v3 s2 => v3 = none ∧ (P none s2))))
set_option maxRecDepth 20000 in
theorem lk_210_68 {d N0 : Nat}  {a1 : Int32} {a2 : Int32} {s : yS} {P : Option Value → yS → Prop}  (h : ub_210_68 (Par d)  a1 a2 s P) : Lb d N0 3 (none) xE_210 (xE_210.drop 68) [.ref 213, .int a1, .int a2, .null, .null] [] s P := by
  unfold ub_210_68 at h
  refine Lb_w (lb_ld rfl rfl rfl ?_)
  refine Lb_w (lb_get rfl rfl ?_)
  change Lb _ _ _ _ _ _ _ [.ref 261] _ _
  refine Lb_w (lb_ld rfl rfl rfl ?_)
  refine Lb_w (lb_ld rfl rfl rfl ?_)
  refine Lb_w (lb_ias rfl rfl (fun hk => ?_))
  replace h := h (kc_in (x := a1) rfl hk)
  replace h := h _ rfl
  refine Lb_w (lb_ld rfl rfl rfl ?_)
  refine Lb_w (lb_ld rfl rfl rfl ?_)
  refine Lb_w (lb_get rfl rfl ?_)
  change Lb _ _ _ _ _ _ _ [.ref 257, .ref 213] _ _
  refine Lb_w (lb_ld rfl rfl rfl ?_)
  refine Lb_w (lb_ial rfl rfl (fun hk => ?_))
  change Lb _ _ _ _ _ _ _ [.int ((sa s 261 a1.toInt.toNat a2).2.1 257 a1.toInt.toNat), .ref 213] _ _
  replace h := h (kc_in (x := a1) rfl hk)
  refine Lb_w (lb_c [.int (-1), .int ((sa s 261 a1.toInt.toNat a2).2.1 257 a1.toInt.toNat), .ref 213] (xo_push (.int (-1))) rfl rfl ?_)
  refine Lb_w (lb_ld rfl rfl rfl ?_)
  refine Lb_w (lb_call [.ref 213, .int ((sa s 261 a1.toInt.toNat a2).2.1 257 a1.toInt.toNat), .int (-1), .int a1] [] rfl rfl rfl (Par.imp h (fun v3 s2 h => ?_)))
  obtain ⟨rfl, h⟩ := h
  change Lb _ _ _ _ _ _ _ [] _ _
  exact Lb_w (lb_ret0 rfl h)
def ub_210_0 (T : Nat → List Value → yS → (Option Value → yS → Prop) → Prop)  (a1 : Int32) (s : yS) (P : Option Value → yS → Prop) : Prop :=
  ((s.1 8).toInt ≤ 0 → T 206 [.ref 213, .int (-1), .int (-1), .int (-1)] s (fun v2 s1 => v2 = none ∧ (((0 ≤ a1.toInt ∧ a1.toInt < 120) → ((0 ≤ (s1.2.1 254 a1.toInt.toNat).toInt ∧ (s1.2.1 254 a1.toInt.toNat).toInt < 12006) → T 203 [.ref 213, .int (s1.2.1 217 (s1.2.1 254 a1.toInt.toNat).toInt.toNat)] s1 (fun v4 s3 => ∃ x5, v4 = some (.int x5) ∧ ((0 ≤ x5.toInt → ((-2147483648 ≤ 24 * (s3.1 75).toInt ∧ 24 * (s3.1 75).toInt ≤ 2147483647) → ∀ x6 : Int32, x6.toInt = 24 * (s3.1 75).toInt → ((-2147483648 ≤ x6.toInt + x5.toInt ∧ x6.toInt + x5.toInt ≤ 2147483647) → ∀ x7 : Int32, x7.toInt = x6.toInt + x5.toInt → ((0 ≤ x7.toInt ∧ x7.toInt < 48) → (¬ ((s3.2.1 235 x7.toInt.toNat).toInt = 0) → ((-2147483648 ≤ 24 * (s3.1 75).toInt ∧ 24 * (s3.1 75).toInt ≤ 2147483647) → ∀ x8 : Int32, x8.toInt = 24 * (s3.1 75).toInt → ((-2147483648 ≤ x8.toInt + x5.toInt ∧ x8.toInt + x5.toInt ≤ 2147483647) → ∀ x9 : Int32, x9.toInt = x8.toInt + x5.toInt → ((0 ≤ x9.toInt ∧ x9.toInt < 48) → ((0 ≤ a1.toInt ∧ a1.toInt < 120) → ((s3.2.1 236 x9.toInt.toNat).toInt = (s3.2.1 255 a1.toInt.toNat).toInt → ub_210_68 T  a1 x5  s3 P) ∧ (¬ ((s3.2.1 236 x9.toInt.toNat).toInt = (s3.2.1 255 a1.toInt.toNat).toInt) → ((0 ≤ a1.toInt ∧ a1.toInt < 120) → T 163 [.ref 213, .int 4, .int (s3.2.1 254 a1.toInt.toNat)] s3 (fun v11 s10 => v11 = none ∧ (ub_210_68 T  a1 x5  s10 P))))))))) ∧ ((s3.2.1 235 x7.toInt.toNat).toInt = 0 → ((0 ≤ a1.toInt ∧ a1.toInt < 120) → T 163 [.ref 213, .int 6, .int (s3.2.1 254 a1.toInt.toNat)] s3 (fun v13 s12 => v13 = none ∧ (ub_210_68 T  a1 x5  s12 P)))))))) ∧ (¬ (0 ≤ x5.toInt) → ((0 ≤ a1.toInt ∧ a1.toInt < 120) → T 163 [.ref 213, .int 2, .int (s3.2.1 254 a1.toInt.toNat)] s3 (fun v15 s14 => v15 = none ∧ (ub_210_68 T  a1 x5  s14 P))))))))))) ∧ (¬ ((s.1 8).toInt ≤ 0) → P none s)
set_option maxRecDepth 20000 in
theorem lk_210_0 {d N0 : Nat}  {a1 : Int32} {s : yS} {P : Option Value → yS → Prop}  (h : ub_210_0 (Par d)  a1 s P) : Lb d N0 3 (none) xE_210 (xE_210.drop 0) [.ref 213, .int a1, .null, .null, .null] [] s P := by
  unfold ub_210_0 at h
  refine Lb_w (lb_ld rfl rfl rfl ?_)
  refine Lb_w (lb_get rfl rfl ?_)
  change Lb _ _ _ _ _ _ _ [.int (s.1 8)] _ _
  refine Lb_w (lb_brP rfl rfl ⟨fun hc => ?_, fun hc => ?_⟩)
  · replace h := h.1 ((i_le (x := s.1 8) (y := 0) rfl (show (0 : Int32).toInt = 0 by decide)).mp hc)
    refine Lb_w (lb_ld rfl rfl rfl ?_)
    refine Lb_w (lb_c [.int (-1), .ref 213] (xo_push (.int (-1))) rfl rfl ?_)
    refine Lb_w (lb_c [.int (-1), .int (-1), .ref 213] (xo_push (.int (-1))) rfl rfl ?_)
    refine Lb_w (lb_c [.int (-1), .int (-1), .int (-1), .ref 213] (xo_push (.int (-1))) rfl rfl ?_)
    refine Lb_w (lb_call [.ref 213, .int (-1), .int (-1), .int (-1)] [] rfl rfl rfl (Par.imp h (fun v2 s1 h => ?_)))
    obtain ⟨rfl, h⟩ := h
    change Lb _ _ _ _ _ _ _ [] _ _
    refine Lb_w (lb_ld rfl rfl rfl ?_)
    refine Lb_w (lb_ld rfl rfl rfl ?_)
    refine Lb_w (lb_get rfl rfl ?_)
    change Lb _ _ _ _ _ _ _ [.ref 217, .ref 213] _ _
    refine Lb_w (lb_ld rfl rfl rfl ?_)
    refine Lb_w (lb_get rfl rfl ?_)
    change Lb _ _ _ _ _ _ _ [.ref 254, .ref 217, .ref 213] _ _
    refine Lb_w (lb_ld rfl rfl rfl ?_)
    refine Lb_w (lb_ial rfl rfl (fun hk => ?_))
    change Lb _ _ _ _ _ _ _ [.int (s1.2.1 254 a1.toInt.toNat), .ref 217, .ref 213] _ _
    replace h := h (kc_in (x := a1) rfl hk)
    refine Lb_w (lb_ial rfl rfl (fun hk => ?_))
    change Lb _ _ _ _ _ _ _ [.int (s1.2.1 217 (s1.2.1 254 a1.toInt.toNat).toInt.toNat), .ref 213] _ _
    replace h := h (kc_in (x := s1.2.1 254 a1.toInt.toNat) rfl hk)
    refine Lb_w (lb_call [.ref 213, .int (s1.2.1 217 (s1.2.1 254 a1.toInt.toNat).toInt.toNat)] [] rfl rfl rfl (Par.imp h (fun v4 s3 h => ?_)))
    obtain ⟨x5, rfl, h⟩ := h
    change Lb _ _ _ _ _ _ _ [.int x5] _ _
    refine Lb_w (lb_st [.ref 213, .int a1, .int x5, .null, .null] rfl rfl rfl ?_)
    refine Lb_w (lb_ld rfl rfl rfl ?_)
    refine Lb_w (lb_brP rfl rfl ⟨fun hc => ?_, fun hc => ?_⟩)
    · replace h := h.1 ((i_le (x := 0) (y := x5) (show (0 : Int32).toInt = 0 by decide) rfl).mp hc)
      refine Lb_w (lb_ld rfl rfl rfl ?_)
      refine Lb_w (lb_get rfl rfl ?_)
      change Lb _ _ _ _ _ _ _ [.ref 235] _ _
      refine Lb_w (lb_c [.int 24, .ref 235] (xo_push (.int 24)) rfl rfl ?_)
      refine Lb_w (lb_ld rfl rfl rfl ?_)
      refine Lb_w (lb_get rfl rfl ?_)
      change Lb _ _ _ _ _ _ _ [.int (s3.1 75), .int 24, .ref 235] _ _
      refine Lb_w (lb_ca [.int (24 * (s3.1 75)), .ref 235] xo_imul rfl rfl (fun _ hk => ?_))
      replace hk := kc_mul (x := 24) (y := s3.1 75) (show (24 : Int32).toInt = 24 by decide) rfl hk
      replace h := h hk _ (i_mul (x := 24) (y := s3.1 75) (show (24 : Int32).toInt = 24 by decide) rfl hk)
      refine Lb_w (lb_ld rfl rfl rfl ?_)
      refine Lb_w (lb_ca [.int ((24 * (s3.1 75)) + x5), .ref 235] xo_iadd rfl rfl (fun _ hk => ?_))
      replace hk := kc_add (x := (24 * (s3.1 75))) (y := x5) rfl rfl hk
      replace h := h hk _ (i_add (x := (24 * (s3.1 75))) (y := x5) rfl rfl hk)
      refine Lb_w (lb_zal rfl rfl (fun hk => ?_))
      change Lb _ _ _ _ _ _ _ [.int (s3.2.1 235 ((24 * (s3.1 75)) + x5).toInt.toNat)] _ _
      replace h := h (kc_in (x := ((24 * (s3.1 75)) + x5)) rfl hk)
      refine Lb_w (lb_brN rfl rfl ⟨fun hc => ?_, fun hc => ?_⟩)
      · replace h := h.1 (fun q => hc ((i_eq (x := s3.2.1 235 ((24 * (s3.1 75)) + x5).toInt.toNat) (y := 0) rfl (show (0 : Int32).toInt = 0 by decide)).mpr q))
        refine Lb_w (lb_ld rfl rfl rfl ?_)
        refine Lb_w (lb_get rfl rfl ?_)
        change Lb _ _ _ _ _ _ _ [.ref 236] _ _
        refine Lb_w (lb_c [.int 24, .ref 236] (xo_push (.int 24)) rfl rfl ?_)
        refine Lb_w (lb_ld rfl rfl rfl ?_)
        refine Lb_w (lb_get rfl rfl ?_)
        change Lb _ _ _ _ _ _ _ [.int (s3.1 75), .int 24, .ref 236] _ _
        refine Lb_w (lb_ca [.int (24 * (s3.1 75)), .ref 236] xo_imul rfl rfl (fun _ hk => ?_))
        replace hk := kc_mul (x := 24) (y := s3.1 75) (show (24 : Int32).toInt = 24 by decide) rfl hk
        replace h := h hk _ (i_mul (x := 24) (y := s3.1 75) (show (24 : Int32).toInt = 24 by decide) rfl hk)
        refine Lb_w (lb_ld rfl rfl rfl ?_)
        refine Lb_w (lb_ca [.int ((24 * (s3.1 75)) + x5), .ref 236] xo_iadd rfl rfl (fun _ hk => ?_))
        replace hk := kc_add (x := (24 * (s3.1 75))) (y := x5) rfl rfl hk
        replace h := h hk _ (i_add (x := (24 * (s3.1 75))) (y := x5) rfl rfl hk)
        refine Lb_w (lb_ial rfl rfl (fun hk => ?_))
        change Lb _ _ _ _ _ _ _ [.int (s3.2.1 236 ((24 * (s3.1 75)) + x5).toInt.toNat)] _ _
        replace h := h (kc_in (x := ((24 * (s3.1 75)) + x5)) rfl hk)
        refine Lb_w (lb_ld rfl rfl rfl ?_)
        refine Lb_w (lb_get rfl rfl ?_)
        change Lb _ _ _ _ _ _ _ [.ref 255, .int (s3.2.1 236 ((24 * (s3.1 75)) + x5).toInt.toNat)] _ _
        refine Lb_w (lb_ld rfl rfl rfl ?_)
        refine Lb_w (lb_ial rfl rfl (fun hk => ?_))
        change Lb _ _ _ _ _ _ _ [.int (s3.2.1 255 a1.toInt.toNat), .int (s3.2.1 236 ((24 * (s3.1 75)) + x5).toInt.toNat)] _ _
        replace h := h (kc_in (x := a1) rfl hk)
        refine Lb_w (lb_brP rfl rfl ⟨fun hc => ?_, fun hc => ?_⟩)
        · replace h := h.1 ((i_eq (x := s3.2.1 236 ((24 * (s3.1 75)) + x5).toInt.toNat) (y := s3.2.1 255 a1.toInt.toNat) rfl rfl).mp hc)
          exact lk_210_68  h
        · replace h := h.2 (fun q => hc ((i_eq (x := s3.2.1 236 ((24 * (s3.1 75)) + x5).toInt.toNat) (y := s3.2.1 255 a1.toInt.toNat) rfl rfl).mpr q))
          refine Lb_w (lb_ld rfl rfl rfl ?_)
          refine Lb_w (lb_c [.int 4, .ref 213] (xo_push (.int 4)) rfl rfl ?_)
          refine Lb_w (lb_ld rfl rfl rfl ?_)
          refine Lb_w (lb_get rfl rfl ?_)
          change Lb _ _ _ _ _ _ _ [.ref 254, .int 4, .ref 213] _ _
          refine Lb_w (lb_ld rfl rfl rfl ?_)
          refine Lb_w (lb_ial rfl rfl (fun hk => ?_))
          change Lb _ _ _ _ _ _ _ [.int (s3.2.1 254 a1.toInt.toNat), .int 4, .ref 213] _ _
          replace h := h (kc_in (x := a1) rfl hk)
          refine Lb_w (lb_call [.ref 213, .int 4, .int (s3.2.1 254 a1.toInt.toNat)] [] rfl rfl rfl (Par.imp h (fun v11 s10 h => ?_)))
          obtain ⟨rfl, h⟩ := h
          change Lb _ _ _ _ _ _ _ [] _ _
          exact lk_210_68  h
      · replace h := h.2 ((i_eq (x := s3.2.1 235 ((24 * (s3.1 75)) + x5).toInt.toNat) (y := 0) rfl (show (0 : Int32).toInt = 0 by decide)).mp hc)
        refine Lb_w (lb_ld rfl rfl rfl ?_)
        refine Lb_w (lb_c [.int 6, .ref 213] (xo_push (.int 6)) rfl rfl ?_)
        refine Lb_w (lb_ld rfl rfl rfl ?_)
        refine Lb_w (lb_get rfl rfl ?_)
        change Lb _ _ _ _ _ _ _ [.ref 254, .int 6, .ref 213] _ _
        refine Lb_w (lb_ld rfl rfl rfl ?_)
        refine Lb_w (lb_ial rfl rfl (fun hk => ?_))
        change Lb _ _ _ _ _ _ _ [.int (s3.2.1 254 a1.toInt.toNat), .int 6, .ref 213] _ _
        replace h := h (kc_in (x := a1) rfl hk)
        refine Lb_w (lb_call [.ref 213, .int 6, .int (s3.2.1 254 a1.toInt.toNat)] [] rfl rfl rfl (Par.imp h (fun v13 s12 h => ?_)))
        obtain ⟨rfl, h⟩ := h
        change Lb _ _ _ _ _ _ _ [] _ _
        refine Lb_w (lb_go rfl ?_)
        exact lk_210_68  h
    · replace h := h.2 (fun q => hc ((i_le (x := 0) (y := x5) (show (0 : Int32).toInt = 0 by decide) rfl).mpr q))
      refine Lb_w (lb_ld rfl rfl rfl ?_)
      refine Lb_w (lb_c [.int 2, .ref 213] (xo_push (.int 2)) rfl rfl ?_)
      refine Lb_w (lb_ld rfl rfl rfl ?_)
      refine Lb_w (lb_get rfl rfl ?_)
      change Lb _ _ _ _ _ _ _ [.ref 254, .int 2, .ref 213] _ _
      refine Lb_w (lb_ld rfl rfl rfl ?_)
      refine Lb_w (lb_ial rfl rfl (fun hk => ?_))
      change Lb _ _ _ _ _ _ _ [.int (s3.2.1 254 a1.toInt.toNat), .int 2, .ref 213] _ _
      replace h := h (kc_in (x := a1) rfl hk)
      refine Lb_w (lb_call [.ref 213, .int 2, .int (s3.2.1 254 a1.toInt.toNat)] [] rfl rfl rfl (Par.imp h (fun v15 s14 h => ?_)))
      obtain ⟨rfl, h⟩ := h
      change Lb _ _ _ _ _ _ _ [] _ _
      refine Lb_w (lb_go rfl ?_)
      exact lk_210_68  h
  · replace h := h.2 (fun q => hc ((i_le (x := s.1 8) (y := 0) rfl (show (0 : Int32).toInt = 0 by decide)).mpr q))
    exact Lb_w (lb_ret0 rfl h)
theorem pb_210 {d : Nat} {a1 : Int32} {s : yS} {P : Option Value → yS → Prop} (h : ub_210_0 (Par d) a1 s P) : Par (d + 1) 210 [.ref 213, .int a1] s P := par_of (E := xE_210) (ml := 3) (ret := none) rfl (fun _ => lk_210_0 h)
