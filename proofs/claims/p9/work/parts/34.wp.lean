/-! typeBounds -/
def w_214_70 (T : Nat → List Value → yS → (Option Value → yS → Prop) → Prop)  (a1 : Int32) (a2 : Int32) (s : yS) (P : Option Value → yS → Prop) : Prop :=
  P none s
set_option maxRecDepth 20000 in
theorem k_214_70 {d : Nat}  {a1 : Int32} {a2 : Int32} {s : yS} {P : Option Value → yS → Prop}  (h : w_214_70 (Tot d)  a1 a2 s P) : Go d 3 (none) xE_214 (xE_214.drop 70) [.ref 213, .int a1, .int a2, .null, .null] [] s P := by
  unfold w_214_70 at h
  exact g_ret0 rfl h
def w_214_51 (T : Nat → List Value → yS → (Option Value → yS → Prop) → Prop) (R51 : Int32 → Int32 → yS → Prop) (a1 : Int32) (a2 : Int32) (s : yS) (P : Option Value → yS → Prop) : Prop :=
  (0 ≤ a1.toInt ∧ a1.toInt < 48) ∧ ((0 ≤ a1.toInt ∧ a1.toInt < 48) ∧ ((-2147483648 ≤ (s.2.1 242 a1.toInt.toNat).toInt + (s.2.1 243 a1.toInt.toNat).toInt ∧ (s.2.1 242 a1.toInt.toNat).toInt + (s.2.1 243 a1.toInt.toNat).toInt ≤ 2147483647) ∧ (∀ x1 : Int32, x1.toInt = (s.2.1 242 a1.toInt.toNat).toInt + (s.2.1 243 a1.toInt.toNat).toInt → (x1.toInt ≤ a2.toInt → w_214_70 T  a1 a2  s P) ∧ (¬ (x1.toInt ≤ a2.toInt) → (¬ ((s.1 8).toInt = 0) → w_214_70 T  a1 a2  s P) ∧ ((s.1 8).toInt = 0 → T 213 [.ref 213, .int a2] s (fun v3 s2 => v3 = none ∧ ((-2147483648 ≤ a2.toInt + 1 ∧ a2.toInt + 1 ≤ 2147483647) ∧ (∀ x4 : Int32, x4.toInt = a2.toInt + 1 → R51 a1 x4  s2))))))))
set_option maxRecDepth 20000 in
theorem k_214_51 {d : Nat} {R51 : Int32 → Int32 → yS → Prop} {a1 : Int32} {a2 : Int32} {s : yS} {P : Option Value → yS → Prop} (r51 : ∀ a1 a2 s, R51 a1 a2 s → Go d 3 (none) xE_214 (xE_214.drop 51) [.ref 213, .int a1, .int a2, .null, .null] [] s P) (h : w_214_51 (Tot d) R51 a1 a2 s P) : Go d 3 (none) xE_214 (xE_214.drop 51) [.ref 213, .int a1, .int a2, .null, .null] [] s P := by
  unfold w_214_51 at h
  refine g_ld rfl rfl rfl ?_
  refine g_ld rfl rfl rfl ?_
  refine g_get rfl rfl ?_
  change Go _ _ _ _ _ _ [.ref 242, .int a2] _ _
  refine g_ld rfl rfl rfl ?_
  refine g_ial rfl rfl (i_in (x := a1) rfl h.1) ?_
  change Go _ _ _ _ _ _ [.int (s.2.1 242 a1.toInt.toNat), .int a2] _ _
  replace h := h.2
  refine g_ld rfl rfl rfl ?_
  refine g_get rfl rfl ?_
  change Go _ _ _ _ _ _ [.ref 243, .int (s.2.1 242 a1.toInt.toNat), .int a2] _ _
  refine g_ld rfl rfl rfl ?_
  refine g_ial rfl rfl (i_in (x := a1) rfl h.1) ?_
  change Go _ _ _ _ _ _ [.int (s.2.1 243 a1.toInt.toNat), .int (s.2.1 242 a1.toInt.toNat), .int a2] _ _
  replace h := h.2
  have ex1 := i_add (x := s.2.1 242 a1.toInt.toNat) (y := s.2.1 243 a1.toInt.toNat) rfl rfl h.1
  have cx1 := ck_add (x := s.2.1 242 a1.toInt.toNat) (y := s.2.1 243 a1.toInt.toNat) rfl rfl h.1
  replace h := h.2 _ ex1
  refine g_ca [.int ((s.2.1 242 a1.toInt.toNat) + (s.2.1 243 a1.toInt.toNat)), .int a2] xo_iadd rfl rfl (fun _ => cx1) ?_
  refine g_brP rfl rfl ⟨fun hc => ?_, fun hc => ?_⟩
  · replace h := h.1 ((i_le (x := ((s.2.1 242 a1.toInt.toNat) + (s.2.1 243 a1.toInt.toNat))) (y := a2) rfl rfl).mp hc)
    exact k_214_70  h
  · replace h := h.2 (fun q => hc ((i_le (x := ((s.2.1 242 a1.toInt.toNat) + (s.2.1 243 a1.toInt.toNat))) (y := a2) rfl rfl).mpr q))
    refine g_ld rfl rfl rfl ?_
    refine g_get rfl rfl ?_
    change Go _ _ _ _ _ _ [.int (s.1 8)] _ _
    refine g_brN rfl rfl ⟨fun hc => ?_, fun hc => ?_⟩
    · replace h := h.1 (fun q => hc ((i_eq (x := s.1 8) (y := 0) rfl (show (0 : Int32).toInt = 0 by decide)).mpr q))
      exact k_214_70  h
    · replace h := h.2 ((i_eq (x := s.1 8) (y := 0) rfl (show (0 : Int32).toInt = 0 by decide)).mp hc)
      refine g_ld rfl rfl rfl ?_
      refine g_ld rfl rfl rfl ?_
      refine g_call [.ref 213, .int a2] [] rfl rfl rfl (Tot.imp h (fun v3 s2 h => ?_))
      obtain ⟨rfl, h⟩ := h
      change Go _ _ _ _ _ _ [] _ _
      have ex4 := i_add (x := a2) (y := 1) rfl (show (1 : Int32).toInt = 1 by decide) h.1
      have cx4 := ck_inc (x := a2) (n := 1) rfl h.1
      replace h := h.2 _ ex4
      refine g_inc [.ref 213, .int a1, .int (a2 + 1), .null, .null] rfl rfl rfl rfl cx4 ?_
      refine g_go rfl ?_
      exact r51 a1 (a2 + 1)  s2 h
def wl_214_51 (T : Nat → List Value → yS → (Option Value → yS → Prop) → Prop)  (a1 : Int32) (a2 : Int32) (s : yS) (P : Option Value → yS → Prop) : Prop :=
  ∃ (I : Int32 → Int32 → yS → Prop) (μ : Int32 → Int32 → yS → Nat), I a1 a2 s ∧ ∀ (a1 : Int32) (a2 : Int32) (s : yS), I a1 a2 s → w_214_51 T (fun a1' a2' s' => I a1' a2' s' ∧ μ a1' a2' s' < μ a1 a2 s) a1 a2 s P
theorem kl_214_51 {d : Nat}  {a1 : Int32} {a2 : Int32} {s : yS} {P : Option Value → yS → Prop}  (h : wl_214_51 (Tot d)  a1 a2 s P) : Go d 3 (none) xE_214 (xE_214.drop 51) [.ref 213, .int a1, .int a2, .null, .null] [] s P := by
  obtain ⟨I, μ, h0, h1⟩ := h
  have key : ∀ (n : Nat) (a1 : Int32) (a2 : Int32) (s : yS), μ a1 a2 s = n → I a1 a2 s → Go d 3 (none) xE_214 (xE_214.drop 51) [.ref 213, .int a1, .int a2, .null, .null] [] s P := by
    intro n
    induction n using Nat.strongRecOn with
    | ind n ih =>
      intro a1 a2 s e hI
      exact k_214_51 (fun a1' a2' s' q => ih _ (by rw [← e]; exact q.2) _ _ _ rfl q.1) (h1 a1 a2 s hI)
  exact key _ a1 a2 s rfl h0
def w_214_46 (T : Nat → List Value → yS → (Option Value → yS → Prop) → Prop)  (a1 : Int32) (a2 : Int32) (s : yS) (P : Option Value → yS → Prop) : Prop :=
  (0 ≤ a1.toInt ∧ a1.toInt < 48) ∧ (wl_214_51 T  a1 (s.2.1 242 a1.toInt.toNat)  s P)
set_option maxRecDepth 20000 in
theorem k_214_46 {d : Nat}  {a1 : Int32} {a2 : Int32} {s : yS} {P : Option Value → yS → Prop}  (h : w_214_46 (Tot d)  a1 a2 s P) : Go d 3 (none) xE_214 (xE_214.drop 46) [.ref 213, .int a1, .int a2, .null, .null] [] s P := by
  unfold w_214_46 at h
  refine g_ld rfl rfl rfl ?_
  refine g_get rfl rfl ?_
  change Go _ _ _ _ _ _ [.ref 242] _ _
  refine g_ld rfl rfl rfl ?_
  refine g_ial rfl rfl (i_in (x := a1) rfl h.1) ?_
  change Go _ _ _ _ _ _ [.int (s.2.1 242 a1.toInt.toNat)] _ _
  replace h := h.2
  refine g_st [.ref 213, .int a1, .int (s.2.1 242 a1.toInt.toNat), .null, .null] rfl rfl rfl ?_
  exact kl_214_51  h
def w_214_25 (T : Nat → List Value → yS → (Option Value → yS → Prop) → Prop) (R25 : Int32 → Int32 → yS → Prop) (a1 : Int32) (a2 : Int32) (s : yS) (P : Option Value → yS → Prop) : Prop :=
  (0 ≤ a1.toInt ∧ a1.toInt < 48) ∧ (((s.2.1 239 a1.toInt.toNat).toInt ≤ a2.toInt → w_214_46 T  a1 a2  s P) ∧ (¬ ((s.2.1 239 a1.toInt.toNat).toInt ≤ a2.toInt) → (¬ ((s.1 8).toInt = 0) → w_214_46 T  a1 a2  s P) ∧ ((s.1 8).toInt = 0 → (-2147483648 ≤ 6 * a1.toInt ∧ 6 * a1.toInt ≤ 2147483647) ∧ (∀ x1 : Int32, x1.toInt = 6 * a1.toInt → (-2147483648 ≤ x1.toInt + a2.toInt ∧ x1.toInt + a2.toInt ≤ 2147483647) ∧ (∀ x2 : Int32, x2.toInt = x1.toInt + a2.toInt → (0 ≤ x2.toInt ∧ x2.toInt < 288) ∧ (T 211 [.ref 213, .int (s.2.1 241 x2.toInt.toNat)] s (fun v4 s3 => v4 = none ∧ ((-2147483648 ≤ a2.toInt + 1 ∧ a2.toInt + 1 ≤ 2147483647) ∧ (∀ x5 : Int32, x5.toInt = a2.toInt + 1 → R25 a1 x5  s3)))))))))
set_option maxRecDepth 20000 in
theorem k_214_25 {d : Nat} {R25 : Int32 → Int32 → yS → Prop} {a1 : Int32} {a2 : Int32} {s : yS} {P : Option Value → yS → Prop} (r25 : ∀ a1 a2 s, R25 a1 a2 s → Go d 3 (none) xE_214 (xE_214.drop 25) [.ref 213, .int a1, .int a2, .null, .null] [] s P) (h : w_214_25 (Tot d) R25 a1 a2 s P) : Go d 3 (none) xE_214 (xE_214.drop 25) [.ref 213, .int a1, .int a2, .null, .null] [] s P := by
  unfold w_214_25 at h
  refine g_ld rfl rfl rfl ?_
  refine g_ld rfl rfl rfl ?_
  refine g_get rfl rfl ?_
  change Go _ _ _ _ _ _ [.ref 239, .int a2] _ _
  refine g_ld rfl rfl rfl ?_
  refine g_ial rfl rfl (i_in (x := a1) rfl h.1) ?_
  change Go _ _ _ _ _ _ [.int (s.2.1 239 a1.toInt.toNat), .int a2] _ _
  replace h := h.2
  refine g_brP rfl rfl ⟨fun hc => ?_, fun hc => ?_⟩
  · replace h := h.1 ((i_le (x := s.2.1 239 a1.toInt.toNat) (y := a2) rfl rfl).mp hc)
    exact k_214_46  h
  · replace h := h.2 (fun q => hc ((i_le (x := s.2.1 239 a1.toInt.toNat) (y := a2) rfl rfl).mpr q))
    refine g_ld rfl rfl rfl ?_
    refine g_get rfl rfl ?_
    change Go _ _ _ _ _ _ [.int (s.1 8)] _ _
    refine g_brN rfl rfl ⟨fun hc => ?_, fun hc => ?_⟩
    · replace h := h.1 (fun q => hc ((i_eq (x := s.1 8) (y := 0) rfl (show (0 : Int32).toInt = 0 by decide)).mpr q))
      exact k_214_46  h
    · replace h := h.2 ((i_eq (x := s.1 8) (y := 0) rfl (show (0 : Int32).toInt = 0 by decide)).mp hc)
      refine g_ld rfl rfl rfl ?_
      refine g_ld rfl rfl rfl ?_
      refine g_get rfl rfl ?_
      change Go _ _ _ _ _ _ [.ref 241, .ref 213] _ _
      refine g_c [.int 6, .ref 241, .ref 213] (xo_push (.int 6)) rfl rfl ?_
      refine g_ld rfl rfl rfl ?_
      have ex1 := i_mul (x := 6) (y := a1) (show (6 : Int32).toInt = 6 by decide) rfl h.1
      have cx1 := ck_mul (x := 6) (y := a1) (show (6 : Int32).toInt = 6 by decide) rfl h.1
      replace h := h.2 _ ex1
      refine g_ca [.int (6 * a1), .ref 241, .ref 213] xo_imul rfl rfl (fun _ => cx1) ?_
      refine g_ld rfl rfl rfl ?_
      have ex2 := i_add (x := (6 * a1)) (y := a2) rfl rfl h.1
      have cx2 := ck_add (x := (6 * a1)) (y := a2) rfl rfl h.1
      replace h := h.2 _ ex2
      refine g_ca [.int ((6 * a1) + a2), .ref 241, .ref 213] xo_iadd rfl rfl (fun _ => cx2) ?_
      refine g_ial rfl rfl (i_in (x := ((6 * a1) + a2)) rfl h.1) ?_
      change Go _ _ _ _ _ _ [.int (s.2.1 241 ((6 * a1) + a2).toInt.toNat), .ref 213] _ _
      replace h := h.2
      refine g_call [.ref 213, .int (s.2.1 241 ((6 * a1) + a2).toInt.toNat)] [] rfl rfl rfl (Tot.imp h (fun v4 s3 h => ?_))
      obtain ⟨rfl, h⟩ := h
      change Go _ _ _ _ _ _ [] _ _
      have ex5 := i_add (x := a2) (y := 1) rfl (show (1 : Int32).toInt = 1 by decide) h.1
      have cx5 := ck_inc (x := a2) (n := 1) rfl h.1
      replace h := h.2 _ ex5
      refine g_inc [.ref 213, .int a1, .int (a2 + 1), .null, .null] rfl rfl rfl rfl cx5 ?_
      refine g_go rfl ?_
      exact r25 a1 (a2 + 1)  s3 h
def wl_214_25 (T : Nat → List Value → yS → (Option Value → yS → Prop) → Prop)  (a1 : Int32) (a2 : Int32) (s : yS) (P : Option Value → yS → Prop) : Prop :=
  ∃ (I : Int32 → Int32 → yS → Prop) (μ : Int32 → Int32 → yS → Nat), I a1 a2 s ∧ ∀ (a1 : Int32) (a2 : Int32) (s : yS), I a1 a2 s → w_214_25 T (fun a1' a2' s' => I a1' a2' s' ∧ μ a1' a2' s' < μ a1 a2 s) a1 a2 s P
theorem kl_214_25 {d : Nat}  {a1 : Int32} {a2 : Int32} {s : yS} {P : Option Value → yS → Prop}  (h : wl_214_25 (Tot d)  a1 a2 s P) : Go d 3 (none) xE_214 (xE_214.drop 25) [.ref 213, .int a1, .int a2, .null, .null] [] s P := by
  obtain ⟨I, μ, h0, h1⟩ := h
  have key : ∀ (n : Nat) (a1 : Int32) (a2 : Int32) (s : yS), μ a1 a2 s = n → I a1 a2 s → Go d 3 (none) xE_214 (xE_214.drop 25) [.ref 213, .int a1, .int a2, .null, .null] [] s P := by
    intro n
    induction n using Nat.strongRecOn with
    | ind n ih =>
      intro a1 a2 s e hI
      exact k_214_25 (fun a1' a2' s' q => ih _ (by rw [← e]; exact q.2) _ _ _ rfl q.1) (h1 a1 a2 s hI)
  exact key _ a1 a2 s rfl h0
def w_214_23 (T : Nat → List Value → yS → (Option Value → yS → Prop) → Prop)  (a1 : Int32) (a2 : Int32) (s : yS) (P : Option Value → yS → Prop) : Prop :=
  wl_214_25 T  a1 0  s P
set_option maxRecDepth 20000 in
theorem k_214_23 {d : Nat}  {a1 : Int32} {a2 : Int32} {s : yS} {P : Option Value → yS → Prop}  (h : w_214_23 (Tot d)  a1 a2 s P) : Go d 3 (none) xE_214 (xE_214.drop 23) [.ref 213, .int a1, .int a2, .null, .null] [] s P := by
  unfold w_214_23 at h
  refine g_c [.int 0] (xo_push (.int 0)) rfl rfl ?_
  refine g_st [.ref 213, .int a1, .int 0, .null, .null] rfl rfl rfl ?_
  exact kl_214_25  h
def w_214_2 (T : Nat → List Value → yS → (Option Value → yS → Prop) → Prop) (R2 : Int32 → Int32 → yS → Prop) (a1 : Int32) (a2 : Int32) (s : yS) (P : Option Value → yS → Prop) : Prop :=
  (0 ≤ a1.toInt ∧ a1.toInt < 48) ∧ (((s.2.1 236 a1.toInt.toNat).toInt ≤ a2.toInt → w_214_23 T  a1 a2  s P) ∧ (¬ ((s.2.1 236 a1.toInt.toNat).toInt ≤ a2.toInt) → (¬ ((s.1 8).toInt = 0) → w_214_23 T  a1 a2  s P) ∧ ((s.1 8).toInt = 0 → (-2147483648 ≤ 6 * a1.toInt ∧ 6 * a1.toInt ≤ 2147483647) ∧ (∀ x1 : Int32, x1.toInt = 6 * a1.toInt → (-2147483648 ≤ x1.toInt + a2.toInt ∧ x1.toInt + a2.toInt ≤ 2147483647) ∧ (∀ x2 : Int32, x2.toInt = x1.toInt + a2.toInt → (0 ≤ x2.toInt ∧ x2.toInt < 288) ∧ (T 211 [.ref 213, .int (s.2.1 238 x2.toInt.toNat)] s (fun v4 s3 => v4 = none ∧ ((-2147483648 ≤ a2.toInt + 1 ∧ a2.toInt + 1 ≤ 2147483647) ∧ (∀ x5 : Int32, x5.toInt = a2.toInt + 1 → R2 a1 x5  s3)))))))))
set_option maxRecDepth 20000 in
theorem k_214_2 {d : Nat} {R2 : Int32 → Int32 → yS → Prop} {a1 : Int32} {a2 : Int32} {s : yS} {P : Option Value → yS → Prop} (r2 : ∀ a1 a2 s, R2 a1 a2 s → Go d 3 (none) xE_214 (xE_214.drop 2) [.ref 213, .int a1, .int a2, .null, .null] [] s P) (h : w_214_2 (Tot d) R2 a1 a2 s P) : Go d 3 (none) xE_214 (xE_214.drop 2) [.ref 213, .int a1, .int a2, .null, .null] [] s P := by
  unfold w_214_2 at h
  refine g_ld rfl rfl rfl ?_
  refine g_ld rfl rfl rfl ?_
  refine g_get rfl rfl ?_
  change Go _ _ _ _ _ _ [.ref 236, .int a2] _ _
  refine g_ld rfl rfl rfl ?_
  refine g_ial rfl rfl (i_in (x := a1) rfl h.1) ?_
  change Go _ _ _ _ _ _ [.int (s.2.1 236 a1.toInt.toNat), .int a2] _ _
  replace h := h.2
  refine g_brP rfl rfl ⟨fun hc => ?_, fun hc => ?_⟩
  · replace h := h.1 ((i_le (x := s.2.1 236 a1.toInt.toNat) (y := a2) rfl rfl).mp hc)
    exact k_214_23  h
  · replace h := h.2 (fun q => hc ((i_le (x := s.2.1 236 a1.toInt.toNat) (y := a2) rfl rfl).mpr q))
    refine g_ld rfl rfl rfl ?_
    refine g_get rfl rfl ?_
    change Go _ _ _ _ _ _ [.int (s.1 8)] _ _
    refine g_brN rfl rfl ⟨fun hc => ?_, fun hc => ?_⟩
    · replace h := h.1 (fun q => hc ((i_eq (x := s.1 8) (y := 0) rfl (show (0 : Int32).toInt = 0 by decide)).mpr q))
      exact k_214_23  h
    · replace h := h.2 ((i_eq (x := s.1 8) (y := 0) rfl (show (0 : Int32).toInt = 0 by decide)).mp hc)
      refine g_ld rfl rfl rfl ?_
      refine g_ld rfl rfl rfl ?_
      refine g_get rfl rfl ?_
      change Go _ _ _ _ _ _ [.ref 238, .ref 213] _ _
      refine g_c [.int 6, .ref 238, .ref 213] (xo_push (.int 6)) rfl rfl ?_
      refine g_ld rfl rfl rfl ?_
      have ex1 := i_mul (x := 6) (y := a1) (show (6 : Int32).toInt = 6 by decide) rfl h.1
      have cx1 := ck_mul (x := 6) (y := a1) (show (6 : Int32).toInt = 6 by decide) rfl h.1
      replace h := h.2 _ ex1
      refine g_ca [.int (6 * a1), .ref 238, .ref 213] xo_imul rfl rfl (fun _ => cx1) ?_
      refine g_ld rfl rfl rfl ?_
      have ex2 := i_add (x := (6 * a1)) (y := a2) rfl rfl h.1
      have cx2 := ck_add (x := (6 * a1)) (y := a2) rfl rfl h.1
      replace h := h.2 _ ex2
      refine g_ca [.int ((6 * a1) + a2), .ref 238, .ref 213] xo_iadd rfl rfl (fun _ => cx2) ?_
      refine g_ial rfl rfl (i_in (x := ((6 * a1) + a2)) rfl h.1) ?_
      change Go _ _ _ _ _ _ [.int (s.2.1 238 ((6 * a1) + a2).toInt.toNat), .ref 213] _ _
      replace h := h.2
      refine g_call [.ref 213, .int (s.2.1 238 ((6 * a1) + a2).toInt.toNat)] [] rfl rfl rfl (Tot.imp h (fun v4 s3 h => ?_))
      obtain ⟨rfl, h⟩ := h
      change Go _ _ _ _ _ _ [] _ _
      have ex5 := i_add (x := a2) (y := 1) rfl (show (1 : Int32).toInt = 1 by decide) h.1
      have cx5 := ck_inc (x := a2) (n := 1) rfl h.1
      replace h := h.2 _ ex5
      refine g_inc [.ref 213, .int a1, .int (a2 + 1), .null, .null] rfl rfl rfl rfl cx5 ?_
      refine g_go rfl ?_
      exact r2 a1 (a2 + 1)  s3 h
def wl_214_2 (T : Nat → List Value → yS → (Option Value → yS → Prop) → Prop)  (a1 : Int32) (a2 : Int32) (s : yS) (P : Option Value → yS → Prop) : Prop :=
  ∃ (I : Int32 → Int32 → yS → Prop) (μ : Int32 → Int32 → yS → Nat), I a1 a2 s ∧ ∀ (a1 : Int32) (a2 : Int32) (s : yS), I a1 a2 s → w_214_2 T (fun a1' a2' s' => I a1' a2' s' ∧ μ a1' a2' s' < μ a1 a2 s) a1 a2 s P
theorem kl_214_2 {d : Nat}  {a1 : Int32} {a2 : Int32} {s : yS} {P : Option Value → yS → Prop}  (h : wl_214_2 (Tot d)  a1 a2 s P) : Go d 3 (none) xE_214 (xE_214.drop 2) [.ref 213, .int a1, .int a2, .null, .null] [] s P := by
  obtain ⟨I, μ, h0, h1⟩ := h
  have key : ∀ (n : Nat) (a1 : Int32) (a2 : Int32) (s : yS), μ a1 a2 s = n → I a1 a2 s → Go d 3 (none) xE_214 (xE_214.drop 2) [.ref 213, .int a1, .int a2, .null, .null] [] s P := by
    intro n
    induction n using Nat.strongRecOn with
    | ind n ih =>
      intro a1 a2 s e hI
      exact k_214_2 (fun a1' a2' s' q => ih _ (by rw [← e]; exact q.2) _ _ _ rfl q.1) (h1 a1 a2 s hI)
  exact key _ a1 a2 s rfl h0
def w_214_0 (T : Nat → List Value → yS → (Option Value → yS → Prop) → Prop)  (a1 : Int32) (s : yS) (P : Option Value → yS → Prop) : Prop :=
  wl_214_2 T  a1 0  s P
set_option maxRecDepth 20000 in
theorem k_214_0 {d : Nat}  {a1 : Int32} {s : yS} {P : Option Value → yS → Prop}  (h : w_214_0 (Tot d)  a1 s P) : Go d 3 (none) xE_214 (xE_214.drop 0) [.ref 213, .int a1, .null, .null, .null] [] s P := by
  unfold w_214_0 at h
  refine g_c [.int 0] (xo_push (.int 0)) rfl rfl ?_
  refine g_st [.ref 213, .int a1, .int 0, .null, .null] rfl rfl rfl ?_
  exact kl_214_2  h
theorem t_214 {d : Nat} {a1 : Int32} {s : yS} {P : Option Value → yS → Prop} (h : w_214_0 (Tot d) a1 s P) : Tot (d + 1) 214 [.ref 213, .int a1] s P := tot_of (E := xE_214) (ml := 3) (ret := none) rfl rfl rfl (k_214_0 h)
/-! selves -/
def w_215_161 (T : Nat → List Value → yS → (Option Value → yS → Prop) → Prop) (R138 : Int32 → Int32 → yS → Prop) (a1 : Int32) (a2 : Int32) (s : yS) (P : Option Value → yS → Prop) : Prop :=
  (-2147483648 ≤ a2.toInt + 1 ∧ a2.toInt + 1 ≤ 2147483647) ∧ (∀ x1 : Int32, x1.toInt = a2.toInt + 1 → R138 a1 x1  s)
set_option maxRecDepth 20000 in
theorem k_215_161 {d : Nat} {R138 : Int32 → Int32 → yS → Prop} {a1 : Int32} {a2 : Int32} {s : yS} {P : Option Value → yS → Prop} (r138 : ∀ a1 a2 s, R138 a1 a2 s → Go d 5 (none) xE_215 (xE_215.drop 138) [.ref 213, .int a1, .int a2, .null, .null, .null] [] s P) (h : w_215_161 (Tot d) R138 a1 a2 s P) : Go d 5 (none) xE_215 (xE_215.drop 161) [.ref 213, .int a1, .int a2, .null, .null, .null] [] s P := by
  unfold w_215_161 at h
  have ex1 := i_add (x := a2) (y := 1) rfl (show (1 : Int32).toInt = 1 by decide) h.1
  have cx1 := ck_inc (x := a2) (n := 1) rfl h.1
  replace h := h.2 _ ex1
  refine g_inc [.ref 213, .int a1, .int (a2 + 1), .null, .null, .null] rfl rfl rfl rfl cx1 ?_
  refine g_go rfl ?_
  exact r138 a1 (a2 + 1)  s h
def w_215_138 (T : Nat → List Value → yS → (Option Value → yS → Prop) → Prop) (R138 : Int32 → Int32 → yS → Prop) (a1 : Int32) (a2 : Int32) (s : yS) (P : Option Value → yS → Prop) : Prop :=
  (0 ≤ (s.1 30).toInt ∧ (s.1 30).toInt < 2) ∧ (((s.2.1 233 (s.1 30).toInt.toNat).toInt ≤ a2.toInt → P none s) ∧ (¬ ((s.2.1 233 (s.1 30).toInt.toNat).toInt ≤ a2.toInt) → (-2147483648 ≤ 25 * a2.toInt ∧ 25 * a2.toInt ≤ 2147483647) ∧ (∀ x1 : Int32, x1.toInt = 25 * a2.toInt → (0 ≤ x1.toInt ∧ x1.toInt < 576) ∧ (((s.2.1 269 x1.toInt.toNat).toInt = 0 → w_215_161 T R138 a1 a2  s P) ∧ (¬ ((s.2.1 269 x1.toInt.toNat).toInt = 0) → (-2147483648 ≤ a1.toInt + a2.toInt ∧ a1.toInt + a2.toInt ≤ 2147483647) ∧ (∀ x2 : Int32, x2.toInt = a1.toInt + a2.toInt → (0 ≤ x2.toInt ∧ x2.toInt < 48) ∧ (T 163 [.ref 213, .int 8, .int (s.2.1 234 x2.toInt.toNat)] s (fun v4 s3 => v4 = none ∧ (w_215_161 T R138 a1 a2  s3 P)))))))))
set_option maxRecDepth 20000 in
theorem k_215_138 {d : Nat} {R138 : Int32 → Int32 → yS → Prop} {a1 : Int32} {a2 : Int32} {s : yS} {P : Option Value → yS → Prop} (r138 : ∀ a1 a2 s, R138 a1 a2 s → Go d 5 (none) xE_215 (xE_215.drop 138) [.ref 213, .int a1, .int a2, .null, .null, .null] [] s P) (h : w_215_138 (Tot d) R138 a1 a2 s P) : Go d 5 (none) xE_215 (xE_215.drop 138) [.ref 213, .int a1, .int a2, .null, .null, .null] [] s P := by
  unfold w_215_138 at h
  refine g_ld rfl rfl rfl ?_
  refine g_ld rfl rfl rfl ?_
  refine g_get rfl rfl ?_
  change Go _ _ _ _ _ _ [.ref 233, .int a2] _ _
  refine g_ld rfl rfl rfl ?_
  refine g_get rfl rfl ?_
  change Go _ _ _ _ _ _ [.int (s.1 30), .ref 233, .int a2] _ _
  refine g_ial rfl rfl (i_in (x := s.1 30) rfl h.1) ?_
  change Go _ _ _ _ _ _ [.int (s.2.1 233 (s.1 30).toInt.toNat), .int a2] _ _
  replace h := h.2
  refine g_brP rfl rfl ⟨fun hc => ?_, fun hc => ?_⟩
  · replace h := h.1 ((i_le (x := s.2.1 233 (s.1 30).toInt.toNat) (y := a2) rfl rfl).mp hc)
    exact g_ret0 rfl h
  · replace h := h.2 (fun q => hc ((i_le (x := s.2.1 233 (s.1 30).toInt.toNat) (y := a2) rfl rfl).mpr q))
    refine g_ld rfl rfl rfl ?_
    refine g_get rfl rfl ?_
    change Go _ _ _ _ _ _ [.ref 269] _ _
    refine g_c [.int 25, .ref 269] (xo_push (.int 25)) rfl rfl ?_
    refine g_ld rfl rfl rfl ?_
    have ex1 := i_mul (x := 25) (y := a2) (show (25 : Int32).toInt = 25 by decide) rfl h.1
    have cx1 := ck_mul (x := 25) (y := a2) (show (25 : Int32).toInt = 25 by decide) rfl h.1
    replace h := h.2 _ ex1
    refine g_ca [.int (25 * a2), .ref 269] xo_imul rfl rfl (fun _ => cx1) ?_
    refine g_zal rfl rfl (i_in (x := (25 * a2)) rfl h.1) ?_
    change Go _ _ _ _ _ _ [.int (s.2.1 269 (25 * a2).toInt.toNat)] _ _
    replace h := h.2
    refine g_brP rfl rfl ⟨fun hc => ?_, fun hc => ?_⟩
    · replace h := h.1 ((i_eq (x := s.2.1 269 (25 * a2).toInt.toNat) (y := 0) rfl (show (0 : Int32).toInt = 0 by decide)).mp hc)
      exact k_215_161 r138 h
    · replace h := h.2 (fun q => hc ((i_eq (x := s.2.1 269 (25 * a2).toInt.toNat) (y := 0) rfl (show (0 : Int32).toInt = 0 by decide)).mpr q))
      refine g_ld rfl rfl rfl ?_
      refine g_c [.int 8, .ref 213] (xo_push (.int 8)) rfl rfl ?_
      refine g_ld rfl rfl rfl ?_
      refine g_get rfl rfl ?_
      change Go _ _ _ _ _ _ [.ref 234, .int 8, .ref 213] _ _
      refine g_ld rfl rfl rfl ?_
      refine g_ld rfl rfl rfl ?_
      have ex2 := i_add (x := a1) (y := a2) rfl rfl h.1
      have cx2 := ck_add (x := a1) (y := a2) rfl rfl h.1
      replace h := h.2 _ ex2
      refine g_ca [.int (a1 + a2), .ref 234, .int 8, .ref 213] xo_iadd rfl rfl (fun _ => cx2) ?_
      refine g_ial rfl rfl (i_in (x := (a1 + a2)) rfl h.1) ?_
      change Go _ _ _ _ _ _ [.int (s.2.1 234 (a1 + a2).toInt.toNat), .int 8, .ref 213] _ _
      replace h := h.2
      refine g_call [.ref 213, .int 8, .int (s.2.1 234 (a1 + a2).toInt.toNat)] [] rfl rfl rfl (Tot.imp h (fun v4 s3 h => ?_))
      obtain ⟨rfl, h⟩ := h
      change Go _ _ _ _ _ _ [] _ _
      exact k_215_161 r138 h
def wl_215_138 (T : Nat → List Value → yS → (Option Value → yS → Prop) → Prop)  (a1 : Int32) (a2 : Int32) (s : yS) (P : Option Value → yS → Prop) : Prop :=
  ∃ (I : Int32 → Int32 → yS → Prop) (μ : Int32 → Int32 → yS → Nat), I a1 a2 s ∧ ∀ (a1 : Int32) (a2 : Int32) (s : yS), I a1 a2 s → w_215_138 T (fun a1' a2' s' => I a1' a2' s' ∧ μ a1' a2' s' < μ a1 a2 s) a1 a2 s P
theorem kl_215_138 {d : Nat}  {a1 : Int32} {a2 : Int32} {s : yS} {P : Option Value → yS → Prop}  (h : wl_215_138 (Tot d)  a1 a2 s P) : Go d 5 (none) xE_215 (xE_215.drop 138) [.ref 213, .int a1, .int a2, .null, .null, .null] [] s P := by
  obtain ⟨I, μ, h0, h1⟩ := h
  have key : ∀ (n : Nat) (a1 : Int32) (a2 : Int32) (s : yS), μ a1 a2 s = n → I a1 a2 s → Go d 5 (none) xE_215 (xE_215.drop 138) [.ref 213, .int a1, .int a2, .null, .null, .null] [] s P := by
    intro n
    induction n using Nat.strongRecOn with
    | ind n ih =>
      intro a1 a2 s e hI
      exact k_215_138 (fun a1' a2' s' q => ih _ (by rw [← e]; exact q.2) _ _ _ rfl q.1) (h1 a1 a2 s hI)
  exact key _ a1 a2 s rfl h0
def w_215_129 (T : Nat → List Value → yS → (Option Value → yS → Prop) → Prop) (R79 : Int32 → Int32 → yS → Prop) (R84 : Int32 → Int32 → Int32 → yS → Prop) (R89 : Int32 → Int32 → Int32 → Int32 → yS → Prop) (a1 : Int32) (a2 : Int32) (a3 : Int32) (a4 : Int32) (t1 : Int32) (t2 : Int32) (s : yS) (P : Option Value → yS → Prop) : Prop :=
  ((0 ≤ t1.toInt ∧ t1.toInt < 576) ∧ (t2.toInt = 0 ∨ t2.toInt = 1)) ∧ (∀ s1, s1 = sa s 269 t1.toInt.toNat t2 → (-2147483648 ≤ a4.toInt + 1 ∧ a4.toInt + 1 ≤ 2147483647) ∧ (∀ x2 : Int32, x2.toInt = a4.toInt + 1 → R89 a1 a2 a3 x2  s1))
set_option maxRecDepth 20000 in
theorem k_215_129 {d : Nat} {R79 : Int32 → Int32 → yS → Prop} {R84 : Int32 → Int32 → Int32 → yS → Prop} {R89 : Int32 → Int32 → Int32 → Int32 → yS → Prop} {a1 : Int32} {a2 : Int32} {a3 : Int32} {a4 : Int32} {t1 : Int32} {t2 : Int32} {s : yS} {P : Option Value → yS → Prop} (r79 : ∀ a1 a2 s, R79 a1 a2 s → Go d 5 (none) xE_215 (xE_215.drop 79) [.ref 213, .int a1, .int a2, .null, .null, .null] [] s P) (r84 : ∀ a1 a2 a3 s, R84 a1 a2 a3 s → Go d 5 (none) xE_215 (xE_215.drop 84) [.ref 213, .int a1, .int a2, .int a3, .null, .null] [] s P) (r89 : ∀ a1 a2 a3 a4 s, R89 a1 a2 a3 a4 s → Go d 5 (none) xE_215 (xE_215.drop 89) [.ref 213, .int a1, .int a2, .int a3, .int a4, .null] [] s P) (h : w_215_129 (Tot d) R79 R84 R89 a1 a2 a3 a4 t1 t2 s P) : Go d 5 (none) xE_215 (xE_215.drop 129) [.ref 213, .int a1, .int a2, .int a3, .int a4, .null] [.int t2, .int t1, .ref 269] s P := by
  unfold w_215_129 at h
  refine g_zas rfl rfl (i_inz (x := t1) (z := t2) rfl h.1.1 rfl h.1.2) ?_
  replace h := h.2
  replace h := h _ rfl
  have ex2 := i_add (x := a4) (y := 1) rfl (show (1 : Int32).toInt = 1 by decide) h.1
  have cx2 := ck_inc (x := a4) (n := 1) rfl h.1
  replace h := h.2 _ ex2
  refine g_inc [.ref 213, .int a1, .int a2, .int a3, .int (a4 + 1), .null] rfl rfl rfl rfl cx2 ?_
  refine g_go rfl ?_
  exact r89 a1 a2 a3 (a4 + 1)  (sa s 269 t1.toInt.toNat t2) h
def w_215_128 (T : Nat → List Value → yS → (Option Value → yS → Prop) → Prop) (R79 : Int32 → Int32 → yS → Prop) (R84 : Int32 → Int32 → Int32 → yS → Prop) (R89 : Int32 → Int32 → Int32 → Int32 → yS → Prop) (a1 : Int32) (a2 : Int32) (a3 : Int32) (a4 : Int32) (t1 : Int32) (s : yS) (P : Option Value → yS → Prop) : Prop :=
  w_215_129 T R79 R84 R89 a1 a2 a3 a4 t1 0 s P
set_option maxRecDepth 20000 in
theorem k_215_128 {d : Nat} {R79 : Int32 → Int32 → yS → Prop} {R84 : Int32 → Int32 → Int32 → yS → Prop} {R89 : Int32 → Int32 → Int32 → Int32 → yS → Prop} {a1 : Int32} {a2 : Int32} {a3 : Int32} {a4 : Int32} {t1 : Int32} {s : yS} {P : Option Value → yS → Prop} (r79 : ∀ a1 a2 s, R79 a1 a2 s → Go d 5 (none) xE_215 (xE_215.drop 79) [.ref 213, .int a1, .int a2, .null, .null, .null] [] s P) (r84 : ∀ a1 a2 a3 s, R84 a1 a2 a3 s → Go d 5 (none) xE_215 (xE_215.drop 84) [.ref 213, .int a1, .int a2, .int a3, .null, .null] [] s P) (r89 : ∀ a1 a2 a3 a4 s, R89 a1 a2 a3 a4 s → Go d 5 (none) xE_215 (xE_215.drop 89) [.ref 213, .int a1, .int a2, .int a3, .int a4, .null] [] s P) (h : w_215_128 (Tot d) R79 R84 R89 a1 a2 a3 a4 t1 s P) : Go d 5 (none) xE_215 (xE_215.drop 128) [.ref 213, .int a1, .int a2, .int a3, .int a4, .null] [.int t1, .ref 269] s P := by
  unfold w_215_128 at h
  refine g_c [.int 0, .int t1, .ref 269] (xo_push (.int 0)) rfl rfl ?_
  exact k_215_129 r79 r84 r89 h
def w_215_126 (T : Nat → List Value → yS → (Option Value → yS → Prop) → Prop) (R79 : Int32 → Int32 → yS → Prop) (R84 : Int32 → Int32 → Int32 → yS → Prop) (R89 : Int32 → Int32 → Int32 → Int32 → yS → Prop) (a1 : Int32) (a2 : Int32) (a3 : Int32) (a4 : Int32) (t1 : Int32) (s : yS) (P : Option Value → yS → Prop) : Prop :=
  w_215_129 T R79 R84 R89 a1 a2 a3 a4 t1 1 s P
set_option maxRecDepth 20000 in
theorem k_215_126 {d : Nat} {R79 : Int32 → Int32 → yS → Prop} {R84 : Int32 → Int32 → Int32 → yS → Prop} {R89 : Int32 → Int32 → Int32 → Int32 → yS → Prop} {a1 : Int32} {a2 : Int32} {a3 : Int32} {a4 : Int32} {t1 : Int32} {s : yS} {P : Option Value → yS → Prop} (r79 : ∀ a1 a2 s, R79 a1 a2 s → Go d 5 (none) xE_215 (xE_215.drop 79) [.ref 213, .int a1, .int a2, .null, .null, .null] [] s P) (r84 : ∀ a1 a2 a3 s, R84 a1 a2 a3 s → Go d 5 (none) xE_215 (xE_215.drop 84) [.ref 213, .int a1, .int a2, .int a3, .null, .null] [] s P) (r89 : ∀ a1 a2 a3 a4 s, R89 a1 a2 a3 a4 s → Go d 5 (none) xE_215 (xE_215.drop 89) [.ref 213, .int a1, .int a2, .int a3, .int a4, .null] [] s P) (h : w_215_126 (Tot d) R79 R84 R89 a1 a2 a3 a4 t1 s P) : Go d 5 (none) xE_215 (xE_215.drop 126) [.ref 213, .int a1, .int a2, .int a3, .int a4, .null] [.int t1, .ref 269] s P := by
  unfold w_215_126 at h
  refine g_c [.int 1, .int t1, .ref 269] (xo_push (.int 1)) rfl rfl ?_
  refine g_go rfl ?_
  exact k_215_129 r79 r84 r89 h
def w_215_89 (T : Nat → List Value → yS → (Option Value → yS → Prop) → Prop) (R79 : Int32 → Int32 → yS → Prop) (R84 : Int32 → Int32 → Int32 → yS → Prop) (R89 : Int32 → Int32 → Int32 → Int32 → yS → Prop) (a1 : Int32) (a2 : Int32) (a3 : Int32) (a4 : Int32) (s : yS) (P : Option Value → yS → Prop) : Prop :=
  (24 ≤ a4.toInt → (-2147483648 ≤ a3.toInt + 1 ∧ a3.toInt + 1 ≤ 2147483647) ∧ (∀ x1 : Int32, x1.toInt = a3.toInt + 1 → R84 a1 a2 x1  s)) ∧ (¬ (24 ≤ a4.toInt) → (-2147483648 ≤ 24 * a3.toInt ∧ 24 * a3.toInt ≤ 2147483647) ∧ (∀ x2 : Int32, x2.toInt = 24 * a3.toInt → (-2147483648 ≤ x2.toInt + a4.toInt ∧ x2.toInt + a4.toInt ≤ 2147483647) ∧ (∀ x3 : Int32, x3.toInt = x2.toInt + a4.toInt → (-2147483648 ≤ 24 * a3.toInt ∧ 24 * a3.toInt ≤ 2147483647) ∧ (∀ x4 : Int32, x4.toInt = 24 * a3.toInt → (-2147483648 ≤ x4.toInt + a4.toInt ∧ x4.toInt + a4.toInt ≤ 2147483647) ∧ (∀ x5 : Int32, x5.toInt = x4.toInt + a4.toInt → (0 ≤ x5.toInt ∧ x5.toInt < 576) ∧ ((¬ ((s.2.1 269 x5.toInt.toNat).toInt = 0) → w_215_126 T R79 R84 R89 a1 a2 a3 a4 x3 s P) ∧ ((s.2.1 269 x5.toInt.toNat).toInt = 0 → (-2147483648 ≤ 24 * a3.toInt ∧ 24 * a3.toInt ≤ 2147483647) ∧ (∀ x6 : Int32, x6.toInt = 24 * a3.toInt → (-2147483648 ≤ x6.toInt + a2.toInt ∧ x6.toInt + a2.toInt ≤ 2147483647) ∧ (∀ x7 : Int32, x7.toInt = x6.toInt + a2.toInt → (0 ≤ x7.toInt ∧ x7.toInt < 576) ∧ (((s.2.1 269 x7.toInt.toNat).toInt = 0 → w_215_128 T R79 R84 R89 a1 a2 a3 a4 x3 s P) ∧ (¬ ((s.2.1 269 x7.toInt.toNat).toInt = 0) → (-2147483648 ≤ 24 * a2.toInt ∧ 24 * a2.toInt ≤ 2147483647) ∧ (∀ x8 : Int32, x8.toInt = 24 * a2.toInt → (-2147483648 ≤ x8.toInt + a4.toInt ∧ x8.toInt + a4.toInt ≤ 2147483647) ∧ (∀ x9 : Int32, x9.toInt = x8.toInt + a4.toInt → (0 ≤ x9.toInt ∧ x9.toInt < 576) ∧ (((s.2.1 269 x9.toInt.toNat).toInt = 0 → w_215_128 T R79 R84 R89 a1 a2 a3 a4 x3 s P) ∧ (¬ ((s.2.1 269 x9.toInt.toNat).toInt = 0) → w_215_126 T R79 R84 R89 a1 a2 a3 a4 x3 s P)))))))))))))))
set_option maxRecDepth 20000 in
theorem k_215_89 {d : Nat} {R79 : Int32 → Int32 → yS → Prop} {R84 : Int32 → Int32 → Int32 → yS → Prop} {R89 : Int32 → Int32 → Int32 → Int32 → yS → Prop} {a1 : Int32} {a2 : Int32} {a3 : Int32} {a4 : Int32} {s : yS} {P : Option Value → yS → Prop} (r79 : ∀ a1 a2 s, R79 a1 a2 s → Go d 5 (none) xE_215 (xE_215.drop 79) [.ref 213, .int a1, .int a2, .null, .null, .null] [] s P) (r84 : ∀ a1 a2 a3 s, R84 a1 a2 a3 s → Go d 5 (none) xE_215 (xE_215.drop 84) [.ref 213, .int a1, .int a2, .int a3, .null, .null] [] s P) (r89 : ∀ a1 a2 a3 a4 s, R89 a1 a2 a3 a4 s → Go d 5 (none) xE_215 (xE_215.drop 89) [.ref 213, .int a1, .int a2, .int a3, .int a4, .null] [] s P) (h : w_215_89 (Tot d) R79 R84 R89 a1 a2 a3 a4 s P) : Go d 5 (none) xE_215 (xE_215.drop 89) [.ref 213, .int a1, .int a2, .int a3, .int a4, .null] [] s P := by
  unfold w_215_89 at h
  refine g_ld rfl rfl rfl ?_
  refine g_c [.int 24, .int a4] (xo_push (.int 24)) rfl rfl ?_
  refine g_brP rfl rfl ⟨fun hc => ?_, fun hc => ?_⟩
  · replace h := h.1 ((i_le (x := 24) (y := a4) (show (24 : Int32).toInt = 24 by decide) rfl).mp hc)
    have ex1 := i_add (x := a3) (y := 1) rfl (show (1 : Int32).toInt = 1 by decide) h.1
    have cx1 := ck_inc (x := a3) (n := 1) rfl h.1
    replace h := h.2 _ ex1
    refine g_inc [.ref 213, .int a1, .int a2, .int (a3 + 1), .int a4, .null] rfl rfl rfl rfl cx1 ?_
    refine g_go rfl ?_
    refine g_fg 4 ?_
    exact r84 a1 a2 (a3 + 1)  s h
  · replace h := h.2 (fun q => hc ((i_le (x := 24) (y := a4) (show (24 : Int32).toInt = 24 by decide) rfl).mpr q))
    refine g_ld rfl rfl rfl ?_
    refine g_get rfl rfl ?_
    change Go _ _ _ _ _ _ [.ref 269] _ _
    refine g_c [.int 24, .ref 269] (xo_push (.int 24)) rfl rfl ?_
    refine g_ld rfl rfl rfl ?_
    have ex2 := i_mul (x := 24) (y := a3) (show (24 : Int32).toInt = 24 by decide) rfl h.1
    have cx2 := ck_mul (x := 24) (y := a3) (show (24 : Int32).toInt = 24 by decide) rfl h.1
    replace h := h.2 _ ex2
    refine g_ca [.int (24 * a3), .ref 269] xo_imul rfl rfl (fun _ => cx2) ?_
    refine g_ld rfl rfl rfl ?_
    have ex3 := i_add (x := (24 * a3)) (y := a4) rfl rfl h.1
    have cx3 := ck_add (x := (24 * a3)) (y := a4) rfl rfl h.1
    replace h := h.2 _ ex3
    refine g_ca [.int ((24 * a3) + a4), .ref 269] xo_iadd rfl rfl (fun _ => cx3) ?_
    refine g_ld rfl rfl rfl ?_
    refine g_get rfl rfl ?_
    change Go _ _ _ _ _ _ [.ref 269, .int ((24 * a3) + a4), .ref 269] _ _
    refine g_c [.int 24, .ref 269, .int ((24 * a3) + a4), .ref 269] (xo_push (.int 24)) rfl rfl ?_
    refine g_ld rfl rfl rfl ?_
    have ex4 := i_mul (x := 24) (y := a3) (show (24 : Int32).toInt = 24 by decide) rfl h.1
    have cx4 := ck_mul (x := 24) (y := a3) (show (24 : Int32).toInt = 24 by decide) rfl h.1
    replace h := h.2 _ ex4
    refine g_ca [.int (24 * a3), .ref 269, .int ((24 * a3) + a4), .ref 269] xo_imul rfl rfl (fun _ => cx4) ?_
    refine g_ld rfl rfl rfl ?_
    have ex5 := i_add (x := (24 * a3)) (y := a4) rfl rfl h.1
    have cx5 := ck_add (x := (24 * a3)) (y := a4) rfl rfl h.1
    replace h := h.2 _ ex5
    refine g_ca [.int ((24 * a3) + a4), .ref 269, .int ((24 * a3) + a4), .ref 269] xo_iadd rfl rfl (fun _ => cx5) ?_
    refine g_zal rfl rfl (i_in (x := ((24 * a3) + a4)) rfl h.1) ?_
    change Go _ _ _ _ _ _ [.int (s.2.1 269 ((24 * a3) + a4).toInt.toNat), .int ((24 * a3) + a4), .ref 269] _ _
    replace h := h.2
    refine g_brN rfl rfl ⟨fun hc => ?_, fun hc => ?_⟩
    · replace h := h.1 (fun q => hc ((i_eq (x := s.2.1 269 ((24 * a3) + a4).toInt.toNat) (y := 0) rfl (show (0 : Int32).toInt = 0 by decide)).mpr q))
      exact k_215_126 r79 r84 r89 h
    · replace h := h.2 ((i_eq (x := s.2.1 269 ((24 * a3) + a4).toInt.toNat) (y := 0) rfl (show (0 : Int32).toInt = 0 by decide)).mp hc)
      refine g_ld rfl rfl rfl ?_
      refine g_get rfl rfl ?_
      change Go _ _ _ _ _ _ [.ref 269, .int ((24 * a3) + a4), .ref 269] _ _
      refine g_c [.int 24, .ref 269, .int ((24 * a3) + a4), .ref 269] (xo_push (.int 24)) rfl rfl ?_
      refine g_ld rfl rfl rfl ?_
      have ex6 := i_mul (x := 24) (y := a3) (show (24 : Int32).toInt = 24 by decide) rfl h.1
      have cx6 := ck_mul (x := 24) (y := a3) (show (24 : Int32).toInt = 24 by decide) rfl h.1
      replace h := h.2 _ ex6
      refine g_ca [.int (24 * a3), .ref 269, .int ((24 * a3) + a4), .ref 269] xo_imul rfl rfl (fun _ => cx6) ?_
      refine g_ld rfl rfl rfl ?_
      have ex7 := i_add (x := (24 * a3)) (y := a2) rfl rfl h.1
      have cx7 := ck_add (x := (24 * a3)) (y := a2) rfl rfl h.1
      replace h := h.2 _ ex7
      refine g_ca [.int ((24 * a3) + a2), .ref 269, .int ((24 * a3) + a4), .ref 269] xo_iadd rfl rfl (fun _ => cx7) ?_
      refine g_zal rfl rfl (i_in (x := ((24 * a3) + a2)) rfl h.1) ?_
      change Go _ _ _ _ _ _ [.int (s.2.1 269 ((24 * a3) + a2).toInt.toNat), .int ((24 * a3) + a4), .ref 269] _ _
      replace h := h.2
      refine g_brP rfl rfl ⟨fun hc => ?_, fun hc => ?_⟩
      · replace h := h.1 ((i_eq (x := s.2.1 269 ((24 * a3) + a2).toInt.toNat) (y := 0) rfl (show (0 : Int32).toInt = 0 by decide)).mp hc)
        exact k_215_128 r79 r84 r89 h
      · replace h := h.2 (fun q => hc ((i_eq (x := s.2.1 269 ((24 * a3) + a2).toInt.toNat) (y := 0) rfl (show (0 : Int32).toInt = 0 by decide)).mpr q))
        refine g_ld rfl rfl rfl ?_
        refine g_get rfl rfl ?_
        change Go _ _ _ _ _ _ [.ref 269, .int ((24 * a3) + a4), .ref 269] _ _
        refine g_c [.int 24, .ref 269, .int ((24 * a3) + a4), .ref 269] (xo_push (.int 24)) rfl rfl ?_
        refine g_ld rfl rfl rfl ?_
        have ex8 := i_mul (x := 24) (y := a2) (show (24 : Int32).toInt = 24 by decide) rfl h.1
        have cx8 := ck_mul (x := 24) (y := a2) (show (24 : Int32).toInt = 24 by decide) rfl h.1
        replace h := h.2 _ ex8
        refine g_ca [.int (24 * a2), .ref 269, .int ((24 * a3) + a4), .ref 269] xo_imul rfl rfl (fun _ => cx8) ?_
        refine g_ld rfl rfl rfl ?_
        have ex9 := i_add (x := (24 * a2)) (y := a4) rfl rfl h.1
        have cx9 := ck_add (x := (24 * a2)) (y := a4) rfl rfl h.1
        replace h := h.2 _ ex9
        refine g_ca [.int ((24 * a2) + a4), .ref 269, .int ((24 * a3) + a4), .ref 269] xo_iadd rfl rfl (fun _ => cx9) ?_
        refine g_zal rfl rfl (i_in (x := ((24 * a2) + a4)) rfl h.1) ?_
        change Go _ _ _ _ _ _ [.int (s.2.1 269 ((24 * a2) + a4).toInt.toNat), .int ((24 * a3) + a4), .ref 269] _ _
        replace h := h.2
        refine g_brP rfl rfl ⟨fun hc => ?_, fun hc => ?_⟩
        · replace h := h.1 ((i_eq (x := s.2.1 269 ((24 * a2) + a4).toInt.toNat) (y := 0) rfl (show (0 : Int32).toInt = 0 by decide)).mp hc)
          exact k_215_128 r79 r84 r89 h
        · replace h := h.2 (fun q => hc ((i_eq (x := s.2.1 269 ((24 * a2) + a4).toInt.toNat) (y := 0) rfl (show (0 : Int32).toInt = 0 by decide)).mpr q))
          exact k_215_126 r79 r84 r89 h
def wl_215_89 (T : Nat → List Value → yS → (Option Value → yS → Prop) → Prop) (R79 : Int32 → Int32 → yS → Prop) (R84 : Int32 → Int32 → Int32 → yS → Prop) (a1 : Int32) (a2 : Int32) (a3 : Int32) (a4 : Int32) (s : yS) (P : Option Value → yS → Prop) : Prop :=
  ∃ (I : Int32 → Int32 → Int32 → Int32 → yS → Prop) (μ : Int32 → Int32 → Int32 → Int32 → yS → Nat), I a1 a2 a3 a4 s ∧ ∀ (a1 : Int32) (a2 : Int32) (a3 : Int32) (a4 : Int32) (s : yS), I a1 a2 a3 a4 s → w_215_89 T R79 R84 (fun a1' a2' a3' a4' s' => I a1' a2' a3' a4' s' ∧ μ a1' a2' a3' a4' s' < μ a1 a2 a3 a4 s) a1 a2 a3 a4 s P
theorem kl_215_89 {d : Nat} {R79 : Int32 → Int32 → yS → Prop} {R84 : Int32 → Int32 → Int32 → yS → Prop} {a1 : Int32} {a2 : Int32} {a3 : Int32} {a4 : Int32} {s : yS} {P : Option Value → yS → Prop} (r79 : ∀ a1 a2 s, R79 a1 a2 s → Go d 5 (none) xE_215 (xE_215.drop 79) [.ref 213, .int a1, .int a2, .null, .null, .null] [] s P) (r84 : ∀ a1 a2 a3 s, R84 a1 a2 a3 s → Go d 5 (none) xE_215 (xE_215.drop 84) [.ref 213, .int a1, .int a2, .int a3, .null, .null] [] s P) (h : wl_215_89 (Tot d) R79 R84 a1 a2 a3 a4 s P) : Go d 5 (none) xE_215 (xE_215.drop 89) [.ref 213, .int a1, .int a2, .int a3, .int a4, .null] [] s P := by
  obtain ⟨I, μ, h0, h1⟩ := h
  have key : ∀ (n : Nat) (a1 : Int32) (a2 : Int32) (a3 : Int32) (a4 : Int32) (s : yS), μ a1 a2 a3 a4 s = n → I a1 a2 a3 a4 s → Go d 5 (none) xE_215 (xE_215.drop 89) [.ref 213, .int a1, .int a2, .int a3, .int a4, .null] [] s P := by
    intro n
    induction n using Nat.strongRecOn with
    | ind n ih =>
      intro a1 a2 a3 a4 s e hI
      exact k_215_89 r79 r84 (fun a1' a2' a3' a4' s' q => ih _ (by rw [← e]; exact q.2) _ _ _ _ _ rfl q.1) (h1 a1 a2 a3 a4 s hI)
  exact key _ a1 a2 a3 a4 s rfl h0
def w_215_84 (T : Nat → List Value → yS → (Option Value → yS → Prop) → Prop) (R79 : Int32 → Int32 → yS → Prop) (R84 : Int32 → Int32 → Int32 → yS → Prop) (a1 : Int32) (a2 : Int32) (a3 : Int32) (s : yS) (P : Option Value → yS → Prop) : Prop :=
  (24 ≤ a3.toInt → (-2147483648 ≤ a2.toInt + 1 ∧ a2.toInt + 1 ≤ 2147483647) ∧ (∀ x1 : Int32, x1.toInt = a2.toInt + 1 → R79 a1 x1  s)) ∧ (¬ (24 ≤ a3.toInt) → wl_215_89 T R79 R84 a1 a2 a3 0  s P)
set_option maxRecDepth 20000 in
theorem k_215_84 {d : Nat} {R79 : Int32 → Int32 → yS → Prop} {R84 : Int32 → Int32 → Int32 → yS → Prop} {a1 : Int32} {a2 : Int32} {a3 : Int32} {s : yS} {P : Option Value → yS → Prop} (r79 : ∀ a1 a2 s, R79 a1 a2 s → Go d 5 (none) xE_215 (xE_215.drop 79) [.ref 213, .int a1, .int a2, .null, .null, .null] [] s P) (r84 : ∀ a1 a2 a3 s, R84 a1 a2 a3 s → Go d 5 (none) xE_215 (xE_215.drop 84) [.ref 213, .int a1, .int a2, .int a3, .null, .null] [] s P) (h : w_215_84 (Tot d) R79 R84 a1 a2 a3 s P) : Go d 5 (none) xE_215 (xE_215.drop 84) [.ref 213, .int a1, .int a2, .int a3, .null, .null] [] s P := by
  unfold w_215_84 at h
  refine g_ld rfl rfl rfl ?_
  refine g_c [.int 24, .int a3] (xo_push (.int 24)) rfl rfl ?_
  refine g_brP rfl rfl ⟨fun hc => ?_, fun hc => ?_⟩
  · replace h := h.1 ((i_le (x := 24) (y := a3) (show (24 : Int32).toInt = 24 by decide) rfl).mp hc)
    have ex1 := i_add (x := a2) (y := 1) rfl (show (1 : Int32).toInt = 1 by decide) h.1
    have cx1 := ck_inc (x := a2) (n := 1) rfl h.1
    replace h := h.2 _ ex1
    refine g_inc [.ref 213, .int a1, .int (a2 + 1), .int a3, .null, .null] rfl rfl rfl rfl cx1 ?_
    refine g_go rfl ?_
    refine g_fg 3 ?_
    exact r79 a1 (a2 + 1)  s h
  · replace h := h.2 (fun q => hc ((i_le (x := 24) (y := a3) (show (24 : Int32).toInt = 24 by decide) rfl).mpr q))
    refine g_c [.int 0] (xo_push (.int 0)) rfl rfl ?_
    refine g_st [.ref 213, .int a1, .int a2, .int a3, .int 0, .null] rfl rfl rfl ?_
    exact kl_215_89 r79 r84 h
def wl_215_84 (T : Nat → List Value → yS → (Option Value → yS → Prop) → Prop) (R79 : Int32 → Int32 → yS → Prop) (a1 : Int32) (a2 : Int32) (a3 : Int32) (s : yS) (P : Option Value → yS → Prop) : Prop :=
  ∃ (I : Int32 → Int32 → Int32 → yS → Prop) (μ : Int32 → Int32 → Int32 → yS → Nat), I a1 a2 a3 s ∧ ∀ (a1 : Int32) (a2 : Int32) (a3 : Int32) (s : yS), I a1 a2 a3 s → w_215_84 T R79 (fun a1' a2' a3' s' => I a1' a2' a3' s' ∧ μ a1' a2' a3' s' < μ a1 a2 a3 s) a1 a2 a3 s P
theorem kl_215_84 {d : Nat} {R79 : Int32 → Int32 → yS → Prop} {a1 : Int32} {a2 : Int32} {a3 : Int32} {s : yS} {P : Option Value → yS → Prop} (r79 : ∀ a1 a2 s, R79 a1 a2 s → Go d 5 (none) xE_215 (xE_215.drop 79) [.ref 213, .int a1, .int a2, .null, .null, .null] [] s P) (h : wl_215_84 (Tot d) R79 a1 a2 a3 s P) : Go d 5 (none) xE_215 (xE_215.drop 84) [.ref 213, .int a1, .int a2, .int a3, .null, .null] [] s P := by
  obtain ⟨I, μ, h0, h1⟩ := h
  have key : ∀ (n : Nat) (a1 : Int32) (a2 : Int32) (a3 : Int32) (s : yS), μ a1 a2 a3 s = n → I a1 a2 a3 s → Go d 5 (none) xE_215 (xE_215.drop 84) [.ref 213, .int a1, .int a2, .int a3, .null, .null] [] s P := by
    intro n
    induction n using Nat.strongRecOn with
    | ind n ih =>
      intro a1 a2 a3 s e hI
      exact k_215_84 r79 (fun a1' a2' a3' s' q => ih _ (by rw [← e]; exact q.2) _ _ _ _ rfl q.1) (h1 a1 a2 a3 s hI)
  exact key _ a1 a2 a3 s rfl h0
def w_215_79 (T : Nat → List Value → yS → (Option Value → yS → Prop) → Prop) (R79 : Int32 → Int32 → yS → Prop) (a1 : Int32) (a2 : Int32) (s : yS) (P : Option Value → yS → Prop) : Prop :=
  (24 ≤ a2.toInt → wl_215_138 T  a1 0  s P) ∧ (¬ (24 ≤ a2.toInt) → wl_215_84 T R79 a1 a2 0  s P)
set_option maxRecDepth 20000 in
theorem k_215_79 {d : Nat} {R79 : Int32 → Int32 → yS → Prop} {a1 : Int32} {a2 : Int32} {s : yS} {P : Option Value → yS → Prop} (r79 : ∀ a1 a2 s, R79 a1 a2 s → Go d 5 (none) xE_215 (xE_215.drop 79) [.ref 213, .int a1, .int a2, .null, .null, .null] [] s P) (h : w_215_79 (Tot d) R79 a1 a2 s P) : Go d 5 (none) xE_215 (xE_215.drop 79) [.ref 213, .int a1, .int a2, .null, .null, .null] [] s P := by
  unfold w_215_79 at h
  refine g_ld rfl rfl rfl ?_
  refine g_c [.int 24, .int a2] (xo_push (.int 24)) rfl rfl ?_
  refine g_brP rfl rfl ⟨fun hc => ?_, fun hc => ?_⟩
  · replace h := h.1 ((i_le (x := 24) (y := a2) (show (24 : Int32).toInt = 24 by decide) rfl).mp hc)
    refine g_c [.int 0] (xo_push (.int 0)) rfl rfl ?_
    refine g_st [.ref 213, .int a1, .int 0, .null, .null, .null] rfl rfl rfl ?_
    exact kl_215_138  h
  · replace h := h.2 (fun q => hc ((i_le (x := 24) (y := a2) (show (24 : Int32).toInt = 24 by decide) rfl).mpr q))
    refine g_c [.int 0] (xo_push (.int 0)) rfl rfl ?_
    refine g_st [.ref 213, .int a1, .int a2, .int 0, .null, .null] rfl rfl rfl ?_
    exact kl_215_84 r79 h
def wl_215_79 (T : Nat → List Value → yS → (Option Value → yS → Prop) → Prop)  (a1 : Int32) (a2 : Int32) (s : yS) (P : Option Value → yS → Prop) : Prop :=
  ∃ (I : Int32 → Int32 → yS → Prop) (μ : Int32 → Int32 → yS → Nat), I a1 a2 s ∧ ∀ (a1 : Int32) (a2 : Int32) (s : yS), I a1 a2 s → w_215_79 T (fun a1' a2' s' => I a1' a2' s' ∧ μ a1' a2' s' < μ a1 a2 s) a1 a2 s P
theorem kl_215_79 {d : Nat}  {a1 : Int32} {a2 : Int32} {s : yS} {P : Option Value → yS → Prop}  (h : wl_215_79 (Tot d)  a1 a2 s P) : Go d 5 (none) xE_215 (xE_215.drop 79) [.ref 213, .int a1, .int a2, .null, .null, .null] [] s P := by
  obtain ⟨I, μ, h0, h1⟩ := h
  have key : ∀ (n : Nat) (a1 : Int32) (a2 : Int32) (s : yS), μ a1 a2 s = n → I a1 a2 s → Go d 5 (none) xE_215 (xE_215.drop 79) [.ref 213, .int a1, .int a2, .null, .null, .null] [] s P := by
    intro n
    induction n using Nat.strongRecOn with
    | ind n ih =>
      intro a1 a2 s e hI
      exact k_215_79 (fun a1' a2' s' q => ih _ (by rw [← e]; exact q.2) _ _ _ rfl q.1) (h1 a1 a2 s hI)
  exact key _ a1 a2 s rfl h0
def w_215_73 (T : Nat → List Value → yS → (Option Value → yS → Prop) → Prop) (R19 : Int32 → Int32 → yS → Prop) (R28 : Int32 → Int32 → Int32 → yS → Prop) (a1 : Int32) (a2 : Int32) (a3 : Int32) (a4 : Int32) (s : yS) (P : Option Value → yS → Prop) : Prop :=
  (-2147483648 ≤ a3.toInt + 1 ∧ a3.toInt + 1 ≤ 2147483647) ∧ (∀ x1 : Int32, x1.toInt = a3.toInt + 1 → R28 a1 a2 x1  s)
set_option maxRecDepth 20000 in
theorem k_215_73 {d : Nat} {R19 : Int32 → Int32 → yS → Prop} {R28 : Int32 → Int32 → Int32 → yS → Prop} {a1 : Int32} {a2 : Int32} {a3 : Int32} {a4 : Int32} {s : yS} {P : Option Value → yS → Prop} (r19 : ∀ a1 a2 s, R19 a1 a2 s → Go d 5 (none) xE_215 (xE_215.drop 19) [.ref 213, .int a1, .int a2, .null, .null, .null] [] s P) (r28 : ∀ a1 a2 a3 s, R28 a1 a2 a3 s → Go d 5 (none) xE_215 (xE_215.drop 28) [.ref 213, .int a1, .int a2, .int a3, .null, .null] [] s P) (h : w_215_73 (Tot d) R19 R28 a1 a2 a3 a4 s P) : Go d 5 (none) xE_215 (xE_215.drop 73) [.ref 213, .int a1, .int a2, .int a3, .int a4, .null] [] s P := by
  unfold w_215_73 at h
  have ex1 := i_add (x := a3) (y := 1) rfl (show (1 : Int32).toInt = 1 by decide) h.1
  have cx1 := ck_inc (x := a3) (n := 1) rfl h.1
  replace h := h.2 _ ex1
  refine g_inc [.ref 213, .int a1, .int a2, .int (a3 + 1), .int a4, .null] rfl rfl rfl rfl cx1 ?_
  refine g_go rfl ?_
  refine g_fg 4 ?_
  exact r28 a1 a2 (a3 + 1)  s h
def w_215_28 (T : Nat → List Value → yS → (Option Value → yS → Prop) → Prop) (R19 : Int32 → Int32 → yS → Prop) (R28 : Int32 → Int32 → Int32 → yS → Prop) (a1 : Int32) (a2 : Int32) (a3 : Int32) (s : yS) (P : Option Value → yS → Prop) : Prop :=
  (-2147483648 ≤ a1.toInt + a2.toInt ∧ a1.toInt + a2.toInt ≤ 2147483647) ∧ (∀ x1 : Int32, x1.toInt = a1.toInt + a2.toInt → (0 ≤ x1.toInt ∧ x1.toInt < 48) ∧ (((s.2.1 239 x1.toInt.toNat).toInt ≤ a3.toInt → (-2147483648 ≤ a2.toInt + 1 ∧ a2.toInt + 1 ≤ 2147483647) ∧ (∀ x2 : Int32, x2.toInt = a2.toInt + 1 → R19 a1 x2  s)) ∧ (¬ ((s.2.1 239 x1.toInt.toNat).toInt ≤ a3.toInt) → (-2147483648 ≤ a1.toInt + a2.toInt ∧ a1.toInt + a2.toInt ≤ 2147483647) ∧ (∀ x3 : Int32, x3.toInt = a1.toInt + a2.toInt → (-2147483648 ≤ 6 * x3.toInt ∧ 6 * x3.toInt ≤ 2147483647) ∧ (∀ x4 : Int32, x4.toInt = 6 * x3.toInt → (-2147483648 ≤ x4.toInt + a3.toInt ∧ x4.toInt + a3.toInt ≤ 2147483647) ∧ (∀ x5 : Int32, x5.toInt = x4.toInt + a3.toInt → (0 ≤ x5.toInt ∧ x5.toInt < 288) ∧ ((0 ≤ (s.2.1 241 x5.toInt.toNat).toInt ∧ (s.2.1 241 x5.toInt.toNat).toInt < 12006) ∧ ((0 ≤ (s.2.1 231 (s.2.1 241 x5.toInt.toNat).toInt.toNat).toInt ∧ (s.2.1 231 (s.2.1 241 x5.toInt.toNat).toInt.toNat).toInt < 200000) ∧ (T 185 [.int (s.2.1 264 (s.2.1 231 (s.2.1 241 x5.toInt.toNat).toInt.toNat).toInt.toNat)] s (fun v7 s6 => ∃ x8, v7 = some (.int x8) ∧ ((1000 ≤ x8.toInt → w_215_73 T R19 R28 a1 a2 a3 x8  s6 P) ∧ (¬ (1000 ≤ x8.toInt) → (-2147483648 ≤ a1.toInt + x8.toInt ∧ a1.toInt + x8.toInt ≤ 2147483647) ∧ (∀ x9 : Int32, x9.toInt = a1.toInt + x8.toInt → (0 ≤ x9.toInt ∧ x9.toInt < 48) ∧ (((s6.2.1 235 x9.toInt.toNat).toInt = 0 → w_215_73 T R19 R28 a1 a2 a3 x8  s6 P) ∧ (¬ ((s6.2.1 235 x9.toInt.toNat).toInt = 0) → (-2147483648 ≤ 24 * a2.toInt ∧ 24 * a2.toInt ≤ 2147483647) ∧ (∀ x10 : Int32, x10.toInt = 24 * a2.toInt → (-2147483648 ≤ x10.toInt + x8.toInt ∧ x10.toInt + x8.toInt ≤ 2147483647) ∧ (∀ x11 : Int32, x11.toInt = x10.toInt + x8.toInt → (0 ≤ x11.toInt ∧ x11.toInt < 576) ∧ (∀ s12, s12 = sa s6 269 x11.toInt.toNat 1 → w_215_73 T R19 R28 a1 a2 a3 x8  s12 P))))))))))))))))))
set_option maxRecDepth 20000 in
theorem k_215_28 {d : Nat} {R19 : Int32 → Int32 → yS → Prop} {R28 : Int32 → Int32 → Int32 → yS → Prop} {a1 : Int32} {a2 : Int32} {a3 : Int32} {s : yS} {P : Option Value → yS → Prop} (r19 : ∀ a1 a2 s, R19 a1 a2 s → Go d 5 (none) xE_215 (xE_215.drop 19) [.ref 213, .int a1, .int a2, .null, .null, .null] [] s P) (r28 : ∀ a1 a2 a3 s, R28 a1 a2 a3 s → Go d 5 (none) xE_215 (xE_215.drop 28) [.ref 213, .int a1, .int a2, .int a3, .null, .null] [] s P) (h : w_215_28 (Tot d) R19 R28 a1 a2 a3 s P) : Go d 5 (none) xE_215 (xE_215.drop 28) [.ref 213, .int a1, .int a2, .int a3, .null, .null] [] s P := by
  unfold w_215_28 at h
  refine g_ld rfl rfl rfl ?_
  refine g_ld rfl rfl rfl ?_
  refine g_get rfl rfl ?_
  change Go _ _ _ _ _ _ [.ref 239, .int a3] _ _
  refine g_ld rfl rfl rfl ?_
  refine g_ld rfl rfl rfl ?_
  have ex1 := i_add (x := a1) (y := a2) rfl rfl h.1
  have cx1 := ck_add (x := a1) (y := a2) rfl rfl h.1
  replace h := h.2 _ ex1
  refine g_ca [.int (a1 + a2), .ref 239, .int a3] xo_iadd rfl rfl (fun _ => cx1) ?_
  refine g_ial rfl rfl (i_in (x := (a1 + a2)) rfl h.1) ?_
  change Go _ _ _ _ _ _ [.int (s.2.1 239 (a1 + a2).toInt.toNat), .int a3] _ _
  replace h := h.2
  refine g_brP rfl rfl ⟨fun hc => ?_, fun hc => ?_⟩
  · replace h := h.1 ((i_le (x := s.2.1 239 (a1 + a2).toInt.toNat) (y := a3) rfl rfl).mp hc)
    have ex2 := i_add (x := a2) (y := 1) rfl (show (1 : Int32).toInt = 1 by decide) h.1
    have cx2 := ck_inc (x := a2) (n := 1) rfl h.1
    replace h := h.2 _ ex2
    refine g_inc [.ref 213, .int a1, .int (a2 + 1), .int a3, .null, .null] rfl rfl rfl rfl cx2 ?_
    refine g_go rfl ?_
    refine g_fg 3 ?_
    exact r19 a1 (a2 + 1)  s h
  · replace h := h.2 (fun q => hc ((i_le (x := s.2.1 239 (a1 + a2).toInt.toNat) (y := a3) rfl rfl).mpr q))
    refine g_ld rfl rfl rfl ?_
    refine g_get rfl rfl ?_
    change Go _ _ _ _ _ _ [.ref 264] _ _
    refine g_ld rfl rfl rfl ?_
    refine g_get rfl rfl ?_
    change Go _ _ _ _ _ _ [.ref 231, .ref 264] _ _
    refine g_ld rfl rfl rfl ?_
    refine g_get rfl rfl ?_
    change Go _ _ _ _ _ _ [.ref 241, .ref 231, .ref 264] _ _
    refine g_c [.int 6, .ref 241, .ref 231, .ref 264] (xo_push (.int 6)) rfl rfl ?_
    refine g_ld rfl rfl rfl ?_
    refine g_ld rfl rfl rfl ?_
    have ex3 := i_add (x := a1) (y := a2) rfl rfl h.1
    have cx3 := ck_add (x := a1) (y := a2) rfl rfl h.1
    replace h := h.2 _ ex3
    refine g_ca [.int (a1 + a2), .int 6, .ref 241, .ref 231, .ref 264] xo_iadd rfl rfl (fun _ => cx3) ?_
    have ex4 := i_mul (x := 6) (y := (a1 + a2)) (show (6 : Int32).toInt = 6 by decide) rfl h.1
    have cx4 := ck_mul (x := 6) (y := (a1 + a2)) (show (6 : Int32).toInt = 6 by decide) rfl h.1
    replace h := h.2 _ ex4
    refine g_ca [.int (6 * (a1 + a2)), .ref 241, .ref 231, .ref 264] xo_imul rfl rfl (fun _ => cx4) ?_
    refine g_ld rfl rfl rfl ?_
    have ex5 := i_add (x := (6 * (a1 + a2))) (y := a3) rfl rfl h.1
    have cx5 := ck_add (x := (6 * (a1 + a2))) (y := a3) rfl rfl h.1
    replace h := h.2 _ ex5
    refine g_ca [.int ((6 * (a1 + a2)) + a3), .ref 241, .ref 231, .ref 264] xo_iadd rfl rfl (fun _ => cx5) ?_
    refine g_ial rfl rfl (i_in (x := ((6 * (a1 + a2)) + a3)) rfl h.1) ?_
    change Go _ _ _ _ _ _ [.int (s.2.1 241 ((6 * (a1 + a2)) + a3).toInt.toNat), .ref 231, .ref 264] _ _
    replace h := h.2
    refine g_ial rfl rfl (i_in (x := s.2.1 241 ((6 * (a1 + a2)) + a3).toInt.toNat) rfl h.1) ?_
    change Go _ _ _ _ _ _ [.int (s.2.1 231 (s.2.1 241 ((6 * (a1 + a2)) + a3).toInt.toNat).toInt.toNat), .ref 264] _ _
    replace h := h.2
    refine g_ial rfl rfl (i_in (x := s.2.1 231 (s.2.1 241 ((6 * (a1 + a2)) + a3).toInt.toNat).toInt.toNat) rfl h.1) ?_
    change Go _ _ _ _ _ _ [.int (s.2.1 264 (s.2.1 231 (s.2.1 241 ((6 * (a1 + a2)) + a3).toInt.toNat).toInt.toNat).toInt.toNat)] _ _
    replace h := h.2
    refine g_call [.int (s.2.1 264 (s.2.1 231 (s.2.1 241 ((6 * (a1 + a2)) + a3).toInt.toNat).toInt.toNat).toInt.toNat)] [] rfl rfl rfl (Tot.imp h (fun v7 s6 h => ?_))
    obtain ⟨x8, rfl, h⟩ := h
    change Go _ _ _ _ _ _ [.int x8] _ _
    refine g_st [.ref 213, .int a1, .int a2, .int a3, .int x8, .null] rfl rfl rfl ?_
    refine g_ld rfl rfl rfl ?_
    refine g_c [.int 1000, .int x8] (xo_push (.int 1000)) rfl rfl ?_
    refine g_brP rfl rfl ⟨fun hc => ?_, fun hc => ?_⟩
    · replace h := h.1 ((i_le (x := 1000) (y := x8) (show (1000 : Int32).toInt = 1000 by decide) rfl).mp hc)
      exact k_215_73 r19 r28 h
    · replace h := h.2 (fun q => hc ((i_le (x := 1000) (y := x8) (show (1000 : Int32).toInt = 1000 by decide) rfl).mpr q))
      refine g_ld rfl rfl rfl ?_
      refine g_get rfl rfl ?_
      change Go _ _ _ _ _ _ [.ref 235] _ _
      refine g_ld rfl rfl rfl ?_
      refine g_ld rfl rfl rfl ?_
      have ex9 := i_add (x := a1) (y := x8) rfl rfl h.1
      have cx9 := ck_add (x := a1) (y := x8) rfl rfl h.1
      replace h := h.2 _ ex9
      refine g_ca [.int (a1 + x8), .ref 235] xo_iadd rfl rfl (fun _ => cx9) ?_
      refine g_zal rfl rfl (i_in (x := (a1 + x8)) rfl h.1) ?_
      change Go _ _ _ _ _ _ [.int (s6.2.1 235 (a1 + x8).toInt.toNat)] _ _
      replace h := h.2
      refine g_brP rfl rfl ⟨fun hc => ?_, fun hc => ?_⟩
      · replace h := h.1 ((i_eq (x := s6.2.1 235 (a1 + x8).toInt.toNat) (y := 0) rfl (show (0 : Int32).toInt = 0 by decide)).mp hc)
        exact k_215_73 r19 r28 h
      · replace h := h.2 (fun q => hc ((i_eq (x := s6.2.1 235 (a1 + x8).toInt.toNat) (y := 0) rfl (show (0 : Int32).toInt = 0 by decide)).mpr q))
        refine g_ld rfl rfl rfl ?_
        refine g_get rfl rfl ?_
        change Go _ _ _ _ _ _ [.ref 269] _ _
        refine g_c [.int 24, .ref 269] (xo_push (.int 24)) rfl rfl ?_
        refine g_ld rfl rfl rfl ?_
        have ex10 := i_mul (x := 24) (y := a2) (show (24 : Int32).toInt = 24 by decide) rfl h.1
        have cx10 := ck_mul (x := 24) (y := a2) (show (24 : Int32).toInt = 24 by decide) rfl h.1
        replace h := h.2 _ ex10
        refine g_ca [.int (24 * a2), .ref 269] xo_imul rfl rfl (fun _ => cx10) ?_
        refine g_ld rfl rfl rfl ?_
        have ex11 := i_add (x := (24 * a2)) (y := x8) rfl rfl h.1
        have cx11 := ck_add (x := (24 * a2)) (y := x8) rfl rfl h.1
        replace h := h.2 _ ex11
        refine g_ca [.int ((24 * a2) + x8), .ref 269] xo_iadd rfl rfl (fun _ => cx11) ?_
        refine g_c [.int 1, .int ((24 * a2) + x8), .ref 269] (xo_push (.int 1)) rfl rfl ?_
        refine g_zas rfl rfl (i_inz (x := ((24 * a2) + x8)) (z := 1) rfl h.1 (show (1 : Int32).toInt = 1 by decide) (by decide)) ?_
        replace h := h.2
        replace h := h _ rfl
        exact k_215_73 r19 r28 h
def wl_215_28 (T : Nat → List Value → yS → (Option Value → yS → Prop) → Prop) (R19 : Int32 → Int32 → yS → Prop) (a1 : Int32) (a2 : Int32) (a3 : Int32) (s : yS) (P : Option Value → yS → Prop) : Prop :=
  ∃ (I : Int32 → Int32 → Int32 → yS → Prop) (μ : Int32 → Int32 → Int32 → yS → Nat), I a1 a2 a3 s ∧ ∀ (a1 : Int32) (a2 : Int32) (a3 : Int32) (s : yS), I a1 a2 a3 s → w_215_28 T R19 (fun a1' a2' a3' s' => I a1' a2' a3' s' ∧ μ a1' a2' a3' s' < μ a1 a2 a3 s) a1 a2 a3 s P
theorem kl_215_28 {d : Nat} {R19 : Int32 → Int32 → yS → Prop} {a1 : Int32} {a2 : Int32} {a3 : Int32} {s : yS} {P : Option Value → yS → Prop} (r19 : ∀ a1 a2 s, R19 a1 a2 s → Go d 5 (none) xE_215 (xE_215.drop 19) [.ref 213, .int a1, .int a2, .null, .null, .null] [] s P) (h : wl_215_28 (Tot d) R19 a1 a2 a3 s P) : Go d 5 (none) xE_215 (xE_215.drop 28) [.ref 213, .int a1, .int a2, .int a3, .null, .null] [] s P := by
  obtain ⟨I, μ, h0, h1⟩ := h
  have key : ∀ (n : Nat) (a1 : Int32) (a2 : Int32) (a3 : Int32) (s : yS), μ a1 a2 a3 s = n → I a1 a2 a3 s → Go d 5 (none) xE_215 (xE_215.drop 28) [.ref 213, .int a1, .int a2, .int a3, .null, .null] [] s P := by
    intro n
    induction n using Nat.strongRecOn with
    | ind n ih =>
      intro a1 a2 a3 s e hI
      exact k_215_28 r19 (fun a1' a2' a3' s' q => ih _ (by rw [← e]; exact q.2) _ _ _ _ rfl q.1) (h1 a1 a2 a3 s hI)
  exact key _ a1 a2 a3 s rfl h0
def w_215_19 (T : Nat → List Value → yS → (Option Value → yS → Prop) → Prop) (R19 : Int32 → Int32 → yS → Prop) (a1 : Int32) (a2 : Int32) (s : yS) (P : Option Value → yS → Prop) : Prop :=
  (0 ≤ (s.1 30).toInt ∧ (s.1 30).toInt < 2) ∧ (((s.2.1 233 (s.1 30).toInt.toNat).toInt ≤ a2.toInt → wl_215_79 T  a1 0  s P) ∧ (¬ ((s.2.1 233 (s.1 30).toInt.toNat).toInt ≤ a2.toInt) → wl_215_28 T R19 a1 a2 0  s P))
set_option maxRecDepth 20000 in
theorem k_215_19 {d : Nat} {R19 : Int32 → Int32 → yS → Prop} {a1 : Int32} {a2 : Int32} {s : yS} {P : Option Value → yS → Prop} (r19 : ∀ a1 a2 s, R19 a1 a2 s → Go d 5 (none) xE_215 (xE_215.drop 19) [.ref 213, .int a1, .int a2, .null, .null, .null] [] s P) (h : w_215_19 (Tot d) R19 a1 a2 s P) : Go d 5 (none) xE_215 (xE_215.drop 19) [.ref 213, .int a1, .int a2, .null, .null, .null] [] s P := by
  unfold w_215_19 at h
  refine g_ld rfl rfl rfl ?_
  refine g_ld rfl rfl rfl ?_
  refine g_get rfl rfl ?_
  change Go _ _ _ _ _ _ [.ref 233, .int a2] _ _
  refine g_ld rfl rfl rfl ?_
  refine g_get rfl rfl ?_
  change Go _ _ _ _ _ _ [.int (s.1 30), .ref 233, .int a2] _ _
  refine g_ial rfl rfl (i_in (x := s.1 30) rfl h.1) ?_
  change Go _ _ _ _ _ _ [.int (s.2.1 233 (s.1 30).toInt.toNat), .int a2] _ _
  replace h := h.2
  refine g_brP rfl rfl ⟨fun hc => ?_, fun hc => ?_⟩
  · replace h := h.1 ((i_le (x := s.2.1 233 (s.1 30).toInt.toNat) (y := a2) rfl rfl).mp hc)
    refine g_c [.int 0] (xo_push (.int 0)) rfl rfl ?_
    refine g_st [.ref 213, .int a1, .int 0, .null, .null, .null] rfl rfl rfl ?_
    exact kl_215_79  h
  · replace h := h.2 (fun q => hc ((i_le (x := s.2.1 233 (s.1 30).toInt.toNat) (y := a2) rfl rfl).mpr q))
    refine g_c [.int 0] (xo_push (.int 0)) rfl rfl ?_
    refine g_st [.ref 213, .int a1, .int a2, .int 0, .null, .null] rfl rfl rfl ?_
    exact kl_215_28 r19 h
def wl_215_19 (T : Nat → List Value → yS → (Option Value → yS → Prop) → Prop)  (a1 : Int32) (a2 : Int32) (s : yS) (P : Option Value → yS → Prop) : Prop :=
  ∃ (I : Int32 → Int32 → yS → Prop) (μ : Int32 → Int32 → yS → Nat), I a1 a2 s ∧ ∀ (a1 : Int32) (a2 : Int32) (s : yS), I a1 a2 s → w_215_19 T (fun a1' a2' s' => I a1' a2' s' ∧ μ a1' a2' s' < μ a1 a2 s) a1 a2 s P
theorem kl_215_19 {d : Nat}  {a1 : Int32} {a2 : Int32} {s : yS} {P : Option Value → yS → Prop}  (h : wl_215_19 (Tot d)  a1 a2 s P) : Go d 5 (none) xE_215 (xE_215.drop 19) [.ref 213, .int a1, .int a2, .null, .null, .null] [] s P := by
  obtain ⟨I, μ, h0, h1⟩ := h
  have key : ∀ (n : Nat) (a1 : Int32) (a2 : Int32) (s : yS), μ a1 a2 s = n → I a1 a2 s → Go d 5 (none) xE_215 (xE_215.drop 19) [.ref 213, .int a1, .int a2, .null, .null, .null] [] s P := by
    intro n
    induction n using Nat.strongRecOn with
    | ind n ih =>
      intro a1 a2 s e hI
      exact k_215_19 (fun a1' a2' s' q => ih _ (by rw [← e]; exact q.2) _ _ _ rfl q.1) (h1 a1 a2 s hI)
  exact key _ a1 a2 s rfl h0
def w_215_7 (T : Nat → List Value → yS → (Option Value → yS → Prop) → Prop) (R7 : Int32 → Int32 → yS → Prop) (a1 : Int32) (a2 : Int32) (s : yS) (P : Option Value → yS → Prop) : Prop :=
  (576 ≤ a2.toInt → wl_215_19 T  a1 0  s P) ∧ (¬ (576 ≤ a2.toInt) → (0 ≤ a2.toInt ∧ a2.toInt < 576) ∧ (∀ s1, s1 = sa s 269 a2.toInt.toNat 0 → (-2147483648 ≤ a2.toInt + 1 ∧ a2.toInt + 1 ≤ 2147483647) ∧ (∀ x2 : Int32, x2.toInt = a2.toInt + 1 → R7 a1 x2  s1)))
set_option maxRecDepth 20000 in
theorem k_215_7 {d : Nat} {R7 : Int32 → Int32 → yS → Prop} {a1 : Int32} {a2 : Int32} {s : yS} {P : Option Value → yS → Prop} (r7 : ∀ a1 a2 s, R7 a1 a2 s → Go d 5 (none) xE_215 (xE_215.drop 7) [.ref 213, .int a1, .int a2, .null, .null, .null] [] s P) (h : w_215_7 (Tot d) R7 a1 a2 s P) : Go d 5 (none) xE_215 (xE_215.drop 7) [.ref 213, .int a1, .int a2, .null, .null, .null] [] s P := by
  unfold w_215_7 at h
  refine g_ld rfl rfl rfl ?_
  refine g_c [.int 576, .int a2] (xo_push (.int 576)) rfl rfl ?_
  refine g_brP rfl rfl ⟨fun hc => ?_, fun hc => ?_⟩
  · replace h := h.1 ((i_le (x := 576) (y := a2) (show (576 : Int32).toInt = 576 by decide) rfl).mp hc)
    refine g_c [.int 0] (xo_push (.int 0)) rfl rfl ?_
    refine g_st [.ref 213, .int a1, .int 0, .null, .null, .null] rfl rfl rfl ?_
    exact kl_215_19  h
  · replace h := h.2 (fun q => hc ((i_le (x := 576) (y := a2) (show (576 : Int32).toInt = 576 by decide) rfl).mpr q))
    refine g_ld rfl rfl rfl ?_
    refine g_get rfl rfl ?_
    change Go _ _ _ _ _ _ [.ref 269] _ _
    refine g_ld rfl rfl rfl ?_
    refine g_c [.int 0, .int a2, .ref 269] (xo_push (.int 0)) rfl rfl ?_
    refine g_zas rfl rfl (i_inz (x := a2) (z := 0) rfl h.1 (show (0 : Int32).toInt = 0 by decide) (by decide)) ?_
    replace h := h.2
    replace h := h _ rfl
    have ex2 := i_add (x := a2) (y := 1) rfl (show (1 : Int32).toInt = 1 by decide) h.1
    have cx2 := ck_inc (x := a2) (n := 1) rfl h.1
    replace h := h.2 _ ex2
    refine g_inc [.ref 213, .int a1, .int (a2 + 1), .null, .null, .null] rfl rfl rfl rfl cx2 ?_
    refine g_go rfl ?_
    exact r7 a1 (a2 + 1)  (sa s 269 a2.toInt.toNat 0) h
def wl_215_7 (T : Nat → List Value → yS → (Option Value → yS → Prop) → Prop)  (a1 : Int32) (a2 : Int32) (s : yS) (P : Option Value → yS → Prop) : Prop :=
  ∃ (I : Int32 → Int32 → yS → Prop) (μ : Int32 → Int32 → yS → Nat), I a1 a2 s ∧ ∀ (a1 : Int32) (a2 : Int32) (s : yS), I a1 a2 s → w_215_7 T (fun a1' a2' s' => I a1' a2' s' ∧ μ a1' a2' s' < μ a1 a2 s) a1 a2 s P
theorem kl_215_7 {d : Nat}  {a1 : Int32} {a2 : Int32} {s : yS} {P : Option Value → yS → Prop}  (h : wl_215_7 (Tot d)  a1 a2 s P) : Go d 5 (none) xE_215 (xE_215.drop 7) [.ref 213, .int a1, .int a2, .null, .null, .null] [] s P := by
  obtain ⟨I, μ, h0, h1⟩ := h
  have key : ∀ (n : Nat) (a1 : Int32) (a2 : Int32) (s : yS), μ a1 a2 s = n → I a1 a2 s → Go d 5 (none) xE_215 (xE_215.drop 7) [.ref 213, .int a1, .int a2, .null, .null, .null] [] s P := by
    intro n
    induction n using Nat.strongRecOn with
    | ind n ih =>
      intro a1 a2 s e hI
      exact k_215_7 (fun a1' a2' s' q => ih _ (by rw [← e]; exact q.2) _ _ _ rfl q.1) (h1 a1 a2 s hI)
  exact key _ a1 a2 s rfl h0
def w_215_0 (T : Nat → List Value → yS → (Option Value → yS → Prop) → Prop)   (s : yS) (P : Option Value → yS → Prop) : Prop :=
  (-2147483648 ≤ 24 * (s.1 30).toInt ∧ 24 * (s.1 30).toInt ≤ 2147483647) ∧ (∀ x1 : Int32, x1.toInt = 24 * (s.1 30).toInt → wl_215_7 T  x1 0  s P)
set_option maxRecDepth 20000 in
theorem k_215_0 {d : Nat}   {s : yS} {P : Option Value → yS → Prop}  (h : w_215_0 (Tot d)   s P) : Go d 5 (none) xE_215 (xE_215.drop 0) [.ref 213, .null, .null, .null, .null, .null] [] s P := by
  unfold w_215_0 at h
  refine g_c [.int 24] (xo_push (.int 24)) rfl rfl ?_
  refine g_ld rfl rfl rfl ?_
  refine g_get rfl rfl ?_
  change Go _ _ _ _ _ _ [.int (s.1 30), .int 24] _ _
  have ex1 := i_mul (x := 24) (y := s.1 30) (show (24 : Int32).toInt = 24 by decide) rfl h.1
  have cx1 := ck_mul (x := 24) (y := s.1 30) (show (24 : Int32).toInt = 24 by decide) rfl h.1
  replace h := h.2 _ ex1
  refine g_ca [.int (24 * (s.1 30))] xo_imul rfl rfl (fun _ => cx1) ?_
  refine g_st [.ref 213, .int (24 * (s.1 30)), .null, .null, .null, .null] rfl rfl rfl ?_
  refine g_c [.int 0] (xo_push (.int 0)) rfl rfl ?_
  refine g_st [.ref 213, .int (24 * (s.1 30)), .int 0, .null, .null, .null] rfl rfl rfl ?_
  exact kl_215_7  h
theorem t_215 {d : Nat}  {s : yS} {P : Option Value → yS → Prop} (h : w_215_0 (Tot d)  s P) : Tot (d + 1) 215 [.ref 213] s P := tot_of (E := xE_215) (ml := 5) (ret := none) rfl rfl rfl (k_215_0 h)
/-! is -/
def w_216_0 (T : Nat → List Value → yS → (Option Value → yS → Prop) → Prop)  (a1 : Int32) (a2 : Int32) (s : yS) (P : Option Value → yS → Prop) : Prop :=
  ∀ s1, s1 = sf s 80 a1 → ∀ s2, s2 = sf s1 81 a2 → P none s2
set_option maxRecDepth 20000 in
theorem k_216_0 {d : Nat}  {a1 : Int32} {a2 : Int32} {s : yS} {P : Option Value → yS → Prop}  (h : w_216_0 (Tot d)  a1 a2 s P) : Go d 3 (none) xE_216 (xE_216.drop 0) [.ref 213, .int a1, .int a2, .null, .null, .null] [] s P := by
  unfold w_216_0 at h
  refine g_ld rfl rfl rfl ?_
  refine g_ld rfl rfl rfl ?_
  refine g_put rfl rfl rfl ?_
  replace h := h _ rfl
  refine g_ld rfl rfl rfl ?_
  refine g_ld rfl rfl rfl ?_
  refine g_put rfl rfl rfl ?_
  replace h := h _ rfl
  exact g_ret0 rfl h
theorem t_216 {d : Nat} {a1 : Int32} {a2 : Int32} {s : yS} {P : Option Value → yS → Prop} (h : w_216_0 (Tot d) a1 a2 s P) : Tot (d + 1) 216 [.ref 213, .int a1, .int a2] s P := tot_of (E := xE_216) (ml := 3) (ret := none) rfl rfl rfl (k_216_0 h)
/-! typeE -/
def w_217_0 (T : Nat → List Value → yS → (Option Value → yS → Prop) → Prop)  (a1 : Int32) (s : yS) (P : Option Value → yS → Prop) : Prop :=
  ((s.1 8).toInt ≤ 0 → (0 ≤ a1.toInt ∧ a1.toInt < 12006) ∧ ((Int32.toInt (s.2.1 221 a1.toInt.toNat) < 1 ∨ 4 < Int32.toInt (s.2.1 221 a1.toInt.toNat) → T 228 [.ref 213, .int a1] s (fun v2 s1 => v2 = none ∧ (P none s1))) ∧ (Int32.toInt (s.2.1 221 a1.toInt.toNat) = 1 → T 218 [.ref 213, .int a1] s (fun v4 s3 => v4 = none ∧ (P none s3))) ∧ (Int32.toInt (s.2.1 221 a1.toInt.toNat) = 2 → T 221 [.ref 213, .int a1] s (fun v6 s5 => v6 = none ∧ (P none s5))) ∧ (Int32.toInt (s.2.1 221 a1.toInt.toNat) = 3 → T 223 [.ref 213, .int a1] s (fun v8 s7 => v8 = none ∧ (P none s7))) ∧ (Int32.toInt (s.2.1 221 a1.toInt.toNat) = 4 → T 226 [.ref 213, .int a1] s (fun v10 s9 => v10 = none ∧ (P none s9))))) ∧ (¬ ((s.1 8).toInt ≤ 0) → P none s)
set_option maxRecDepth 20000 in
theorem k_217_0 {d : Nat}  {a1 : Int32} {s : yS} {P : Option Value → yS → Prop}  (h : w_217_0 (Tot d)  a1 s P) : Go d 2 (none) xE_217 (xE_217.drop 0) [.ref 213, .int a1, .null, .null] [] s P := by
  unfold w_217_0 at h
  refine g_ld rfl rfl rfl ?_
  refine g_get rfl rfl ?_
  change Go _ _ _ _ _ _ [.int (s.1 8)] _ _
  refine g_brP rfl rfl ⟨fun hc => ?_, fun hc => ?_⟩
  · replace h := h.1 ((i_le (x := s.1 8) (y := 0) rfl (show (0 : Int32).toInt = 0 by decide)).mp hc)
    refine g_ld rfl rfl rfl ?_
    refine g_get rfl rfl ?_
    change Go _ _ _ _ _ _ [.ref 221] _ _
    refine g_ld rfl rfl rfl ?_
    refine g_ial rfl rfl (i_in (x := a1) rfl h.1) ?_
    change Go _ _ _ _ _ _ [.int (s.2.1 221 a1.toInt.toNat)] _ _
    replace h := h.2
    by_cases hx : Int32.toInt (s.2.1 221 a1.toInt.toNat) < 1 ∨ 4 < Int32.toInt (s.2.1 221 a1.toInt.toNat)
    · refine g_sw ?_
      refine ⟨25, by rw [if_pos hx]; rfl, ?_⟩
      replace h := h.1 hx
      refine g_ld rfl rfl rfl ?_
      refine g_ld rfl rfl rfl ?_
      refine g_call [.ref 213, .int a1] [] rfl rfl rfl (Tot.imp h (fun v2 s1 h => ?_))
      obtain ⟨rfl, h⟩ := h
      change Go _ _ _ _ _ _ [] _ _
      exact g_ret0 rfl h
    · have hy : Int32.toInt (s.2.1 221 a1.toInt.toNat) = 1 ∨ Int32.toInt (s.2.1 221 a1.toInt.toNat) = 2 ∨ Int32.toInt (s.2.1 221 a1.toInt.toNat) = 3 ∨ Int32.toInt (s.2.1 221 a1.toInt.toNat) = 4 := by omega
      rcases hy with hy | hy | hy | hy
      · refine g_sw ?_
        refine ⟨9, by rw [if_neg hx, hy]; rfl, ?_⟩
        replace h := h.2.1 hy
        refine g_ld rfl rfl rfl ?_
        refine g_ld rfl rfl rfl ?_
        refine g_call [.ref 213, .int a1] [] rfl rfl rfl (Tot.imp h (fun v4 s3 h => ?_))
        obtain ⟨rfl, h⟩ := h
        change Go _ _ _ _ _ _ [] _ _
        exact g_ret0 rfl h
      · refine g_sw ?_
        refine ⟨13, by rw [if_neg hx, hy]; rfl, ?_⟩
        replace h := h.2.2.1 hy
        refine g_ld rfl rfl rfl ?_
        refine g_ld rfl rfl rfl ?_
        refine g_call [.ref 213, .int a1] [] rfl rfl rfl (Tot.imp h (fun v6 s5 h => ?_))
        obtain ⟨rfl, h⟩ := h
        change Go _ _ _ _ _ _ [] _ _
        exact g_ret0 rfl h
      · refine g_sw ?_
        refine ⟨17, by rw [if_neg hx, hy]; rfl, ?_⟩
        replace h := h.2.2.2.1 hy
        refine g_ld rfl rfl rfl ?_
        refine g_ld rfl rfl rfl ?_
        refine g_call [.ref 213, .int a1] [] rfl rfl rfl (Tot.imp h (fun v8 s7 h => ?_))
        obtain ⟨rfl, h⟩ := h
        change Go _ _ _ _ _ _ [] _ _
        exact g_ret0 rfl h
      · refine g_sw ?_
        refine ⟨21, by rw [if_neg hx, hy]; rfl, ?_⟩
        replace h := h.2.2.2.2 hy
        refine g_ld rfl rfl rfl ?_
        refine g_ld rfl rfl rfl ?_
        refine g_call [.ref 213, .int a1] [] rfl rfl rfl (Tot.imp h (fun v10 s9 h => ?_))
        obtain ⟨rfl, h⟩ := h
        change Go _ _ _ _ _ _ [] _ _
        exact g_ret0 rfl h
  · replace h := h.2 (fun q => hc ((i_le (x := s.1 8) (y := 0) rfl (show (0 : Int32).toInt = 0 by decide)).mpr q))
    exact g_ret0 rfl h
theorem t_217 {d : Nat} {a1 : Int32} {s : yS} {P : Option Value → yS → Prop} (h : w_217_0 (Tot d) a1 s P) : Tot (d + 1) 217 [.ref 213, .int a1] s P := tot_of (E := xE_217) (ml := 2) (ret := none) rfl rfl rfl (k_217_0 h)
/-! typeVar -/
def w_218_72 (T : Nat → List Value → yS → (Option Value → yS → Prop) → Prop)  (a1 : Int32) (a2 : Int32) (a3 : Int32) (s : yS) (P : Option Value → yS → Prop) : Prop :=
  (0 ≤ a1.toInt ∧ a1.toInt < 12006) ∧ ((0 ≤ (s.2.1 230 a1.toInt.toNat).toInt → T 219 [.ref 213, .int a1] s (fun v2 s1 => v2 = none ∧ (P none s1))) ∧ (¬ (0 ≤ (s.2.1 230 a1.toInt.toNat).toInt) → (0 ≤ a1.toInt ∧ a1.toInt < 12006) ∧ (T 163 [.ref 213, .int 2, .int (s.2.1 222 a1.toInt.toNat)] s (fun v4 s3 => v4 = none ∧ (P none s3)))))
set_option maxRecDepth 20000 in
theorem k_218_72 {d : Nat}  {a1 : Int32} {a2 : Int32} {a3 : Int32} {s : yS} {P : Option Value → yS → Prop}  (h : w_218_72 (Tot d)  a1 a2 a3 s P) : Go d 4 (none) xE_218 (xE_218.drop 72) [.ref 213, .int a1, .int a2, .int a3, .null, .null] [] s P := by
  unfold w_218_72 at h
  refine g_ld rfl rfl rfl ?_
  refine g_get rfl rfl ?_
  change Go _ _ _ _ _ _ [.ref 230] _ _
  refine g_ld rfl rfl rfl ?_
  refine g_ial rfl rfl (i_in (x := a1) rfl h.1) ?_
  change Go _ _ _ _ _ _ [.int (s.2.1 230 a1.toInt.toNat)] _ _
  replace h := h.2
  refine g_brP rfl rfl ⟨fun hc => ?_, fun hc => ?_⟩
  · replace h := h.1 ((i_le (x := 0) (y := s.2.1 230 a1.toInt.toNat) (show (0 : Int32).toInt = 0 by decide) rfl).mp hc)
    refine g_ld rfl rfl rfl ?_
    refine g_ld rfl rfl rfl ?_
    refine g_call [.ref 213, .int a1] [] rfl rfl rfl (Tot.imp h (fun v2 s1 h => ?_))
    obtain ⟨rfl, h⟩ := h
    change Go _ _ _ _ _ _ [] _ _
    exact g_ret0 rfl h
  · replace h := h.2 (fun q => hc ((i_le (x := 0) (y := s.2.1 230 a1.toInt.toNat) (show (0 : Int32).toInt = 0 by decide) rfl).mpr q))
    refine g_ld rfl rfl rfl ?_
    refine g_c [.int 2, .ref 213] (xo_push (.int 2)) rfl rfl ?_
    refine g_ld rfl rfl rfl ?_
    refine g_get rfl rfl ?_
    change Go _ _ _ _ _ _ [.ref 222, .int 2, .ref 213] _ _
    refine g_ld rfl rfl rfl ?_
    refine g_ial rfl rfl (i_in (x := a1) rfl h.1) ?_
    change Go _ _ _ _ _ _ [.int (s.2.1 222 a1.toInt.toNat), .int 2, .ref 213] _ _
    replace h := h.2
    refine g_call [.ref 213, .int 2, .int (s.2.1 222 a1.toInt.toNat)] [] rfl rfl rfl (Tot.imp h (fun v4 s3 h => ?_))
    obtain ⟨rfl, h⟩ := h
    change Go _ _ _ _ _ _ [] _ _
    exact g_ret0 rfl h
def w_218_70 (T : Nat → List Value → yS → (Option Value → yS → Prop) → Prop) (R33 : Int32 → Int32 → Int32 → yS → Prop) (a1 : Int32) (a2 : Int32) (a3 : Int32) (s : yS) (P : Option Value → yS → Prop) : Prop :=
  (-2147483648 ≤ a3.toInt + 1 ∧ a3.toInt + 1 ≤ 2147483647) ∧ (∀ x1 : Int32, x1.toInt = a3.toInt + 1 → R33 a1 a2 x1  s)
set_option maxRecDepth 20000 in
theorem k_218_70 {d : Nat} {R33 : Int32 → Int32 → Int32 → yS → Prop} {a1 : Int32} {a2 : Int32} {a3 : Int32} {s : yS} {P : Option Value → yS → Prop} (r33 : ∀ a1 a2 a3 s, R33 a1 a2 a3 s → Go d 4 (none) xE_218 (xE_218.drop 33) [.ref 213, .int a1, .int a2, .int a3, .null, .null] [] s P) (h : w_218_70 (Tot d) R33 a1 a2 a3 s P) : Go d 4 (none) xE_218 (xE_218.drop 70) [.ref 213, .int a1, .int a2, .int a3, .null, .null] [] s P := by
  unfold w_218_70 at h
  have ex1 := i_add (x := a3) (y := 1) rfl (show (1 : Int32).toInt = 1 by decide) h.1
  have cx1 := ck_inc (x := a3) (n := 1) rfl h.1
  replace h := h.2 _ ex1
  refine g_inc [.ref 213, .int a1, .int a2, .int (a3 + 1), .null, .null] rfl rfl rfl rfl cx1 ?_
  refine g_go rfl ?_
  exact r33 a1 a2 (a3 + 1)  s h
def w_218_33 (T : Nat → List Value → yS → (Option Value → yS → Prop) → Prop) (R33 : Int32 → Int32 → Int32 → yS → Prop) (a1 : Int32) (a2 : Int32) (a3 : Int32) (s : yS) (P : Option Value → yS → Prop) : Prop :=
  ((s.1 78).toInt < 0 → w_218_72 T  a1 a2 a3  s P) ∧ (¬ ((s.1 78).toInt < 0) → (0 ≤ (s.1 78).toInt ∧ (s.1 78).toInt < 120) ∧ ((0 ≤ (s.2.1 257 (s.1 78).toInt.toNat).toInt ∧ (s.2.1 257 (s.1 78).toInt.toNat).toInt < 408) ∧ (((s.2.1 248 (s.2.1 257 (s.1 78).toInt.toNat).toInt.toNat).toInt ≤ a3.toInt → w_218_72 T  a1 a2 a3  s P) ∧ (¬ ((s.2.1 248 (s.2.1 257 (s.1 78).toInt.toNat).toInt.toNat).toInt ≤ a3.toInt) → (0 ≤ (s.1 78).toInt ∧ (s.1 78).toInt < 120) ∧ ((-2147483648 ≤ 6 * (s.2.1 257 (s.1 78).toInt.toNat).toInt ∧ 6 * (s.2.1 257 (s.1 78).toInt.toNat).toInt ≤ 2147483647) ∧ (∀ x1 : Int32, x1.toInt = 6 * (s.2.1 257 (s.1 78).toInt.toNat).toInt → (-2147483648 ≤ x1.toInt + a3.toInt ∧ x1.toInt + a3.toInt ≤ 2147483647) ∧ (∀ x2 : Int32, x2.toInt = x1.toInt + a3.toInt → (0 ≤ x2.toInt ∧ x2.toInt < 2448) ∧ ((0 ≤ (s.2.1 249 x2.toInt.toNat).toInt ∧ (s.2.1 249 x2.toInt.toNat).toInt < 12006) ∧ ((¬ ((s.2.1 217 (s.2.1 249 x2.toInt.toNat).toInt.toNat).toInt = a2.toInt) → w_218_70 T R33 a1 a2 a3  s P) ∧ ((s.2.1 217 (s.2.1 249 x2.toInt.toNat).toInt.toNat).toInt = a2.toInt → (-2147483648 ≤ 1 + a3.toInt ∧ 1 + a3.toInt ≤ 2147483647) ∧ (∀ x3 : Int32, x3.toInt = 1 + a3.toInt → (0 ≤ a1.toInt ∧ a1.toInt < 12006) ∧ (∀ s4, s4 = sa s 230 a1.toInt.toNat x3 → w_218_70 T R33 a1 a2 a3  s4 P))))))))))))
set_option maxRecDepth 20000 in
theorem k_218_33 {d : Nat} {R33 : Int32 → Int32 → Int32 → yS → Prop} {a1 : Int32} {a2 : Int32} {a3 : Int32} {s : yS} {P : Option Value → yS → Prop} (r33 : ∀ a1 a2 a3 s, R33 a1 a2 a3 s → Go d 4 (none) xE_218 (xE_218.drop 33) [.ref 213, .int a1, .int a2, .int a3, .null, .null] [] s P) (h : w_218_33 (Tot d) R33 a1 a2 a3 s P) : Go d 4 (none) xE_218 (xE_218.drop 33) [.ref 213, .int a1, .int a2, .int a3, .null, .null] [] s P := by
  unfold w_218_33 at h
  refine g_ld rfl rfl rfl ?_
  refine g_get rfl rfl ?_
  change Go _ _ _ _ _ _ [.int (s.1 78)] _ _
  refine g_brP rfl rfl ⟨fun hc => ?_, fun hc => ?_⟩
  · replace h := h.1 ((i_lt (x := s.1 78) (y := 0) rfl (show (0 : Int32).toInt = 0 by decide)).mp hc)
    exact k_218_72  h
  · replace h := h.2 (fun q => hc ((i_lt (x := s.1 78) (y := 0) rfl (show (0 : Int32).toInt = 0 by decide)).mpr q))
    refine g_ld rfl rfl rfl ?_
    refine g_ld rfl rfl rfl ?_
    refine g_get rfl rfl ?_
    change Go _ _ _ _ _ _ [.ref 248, .int a3] _ _
    refine g_ld rfl rfl rfl ?_
    refine g_get rfl rfl ?_
    change Go _ _ _ _ _ _ [.ref 257, .ref 248, .int a3] _ _
    refine g_ld rfl rfl rfl ?_
    refine g_get rfl rfl ?_
    change Go _ _ _ _ _ _ [.int (s.1 78), .ref 257, .ref 248, .int a3] _ _
    refine g_ial rfl rfl (i_in (x := s.1 78) rfl h.1) ?_
    change Go _ _ _ _ _ _ [.int (s.2.1 257 (s.1 78).toInt.toNat), .ref 248, .int a3] _ _
    replace h := h.2
    refine g_ial rfl rfl (i_in (x := s.2.1 257 (s.1 78).toInt.toNat) rfl h.1) ?_
    change Go _ _ _ _ _ _ [.int (s.2.1 248 (s.2.1 257 (s.1 78).toInt.toNat).toInt.toNat), .int a3] _ _
    replace h := h.2
    refine g_brP rfl rfl ⟨fun hc => ?_, fun hc => ?_⟩
    · replace h := h.1 ((i_le (x := s.2.1 248 (s.2.1 257 (s.1 78).toInt.toNat).toInt.toNat) (y := a3) rfl rfl).mp hc)
      exact k_218_72  h
    · replace h := h.2 (fun q => hc ((i_le (x := s.2.1 248 (s.2.1 257 (s.1 78).toInt.toNat).toInt.toNat) (y := a3) rfl rfl).mpr q))
      refine g_ld rfl rfl rfl ?_
      refine g_get rfl rfl ?_
      change Go _ _ _ _ _ _ [.ref 217] _ _
      refine g_ld rfl rfl rfl ?_
      refine g_get rfl rfl ?_
      change Go _ _ _ _ _ _ [.ref 249, .ref 217] _ _
      refine g_c [.int 6, .ref 249, .ref 217] (xo_push (.int 6)) rfl rfl ?_
      refine g_ld rfl rfl rfl ?_
      refine g_get rfl rfl ?_
      change Go _ _ _ _ _ _ [.ref 257, .int 6, .ref 249, .ref 217] _ _
      refine g_ld rfl rfl rfl ?_
      refine g_get rfl rfl ?_
      change Go _ _ _ _ _ _ [.int (s.1 78), .ref 257, .int 6, .ref 249, .ref 217] _ _
      refine g_ial rfl rfl (i_in (x := s.1 78) rfl h.1) ?_
      change Go _ _ _ _ _ _ [.int (s.2.1 257 (s.1 78).toInt.toNat), .int 6, .ref 249, .ref 217] _ _
      replace h := h.2
      have ex1 := i_mul (x := 6) (y := s.2.1 257 (s.1 78).toInt.toNat) (show (6 : Int32).toInt = 6 by decide) rfl h.1
      have cx1 := ck_mul (x := 6) (y := s.2.1 257 (s.1 78).toInt.toNat) (show (6 : Int32).toInt = 6 by decide) rfl h.1
      replace h := h.2 _ ex1
      refine g_ca [.int (6 * (s.2.1 257 (s.1 78).toInt.toNat)), .ref 249, .ref 217] xo_imul rfl rfl (fun _ => cx1) ?_
      refine g_ld rfl rfl rfl ?_
      have ex2 := i_add (x := (6 * (s.2.1 257 (s.1 78).toInt.toNat))) (y := a3) rfl rfl h.1
      have cx2 := ck_add (x := (6 * (s.2.1 257 (s.1 78).toInt.toNat))) (y := a3) rfl rfl h.1
      replace h := h.2 _ ex2
      refine g_ca [.int ((6 * (s.2.1 257 (s.1 78).toInt.toNat)) + a3), .ref 249, .ref 217] xo_iadd rfl rfl (fun _ => cx2) ?_
      refine g_ial rfl rfl (i_in (x := ((6 * (s.2.1 257 (s.1 78).toInt.toNat)) + a3)) rfl h.1) ?_
      change Go _ _ _ _ _ _ [.int (s.2.1 249 ((6 * (s.2.1 257 (s.1 78).toInt.toNat)) + a3).toInt.toNat), .ref 217] _ _
      replace h := h.2
      refine g_ial rfl rfl (i_in (x := s.2.1 249 ((6 * (s.2.1 257 (s.1 78).toInt.toNat)) + a3).toInt.toNat) rfl h.1) ?_
      change Go _ _ _ _ _ _ [.int (s.2.1 217 (s.2.1 249 ((6 * (s.2.1 257 (s.1 78).toInt.toNat)) + a3).toInt.toNat).toInt.toNat)] _ _
      replace h := h.2
      refine g_ld rfl rfl rfl ?_
      refine g_brN rfl rfl ⟨fun hc => ?_, fun hc => ?_⟩
      · replace h := h.1 (fun q => hc ((i_eq (x := s.2.1 217 (s.2.1 249 ((6 * (s.2.1 257 (s.1 78).toInt.toNat)) + a3).toInt.toNat).toInt.toNat) (y := a2) rfl rfl).mpr q))
        exact k_218_70 r33 h
      · replace h := h.2 ((i_eq (x := s.2.1 217 (s.2.1 249 ((6 * (s.2.1 257 (s.1 78).toInt.toNat)) + a3).toInt.toNat).toInt.toNat) (y := a2) rfl rfl).mp hc)
        refine g_ld rfl rfl rfl ?_
        refine g_get rfl rfl ?_
        change Go _ _ _ _ _ _ [.ref 230] _ _
        refine g_ld rfl rfl rfl ?_
        refine g_c [.int 1, .int a1, .ref 230] (xo_push (.int 1)) rfl rfl ?_
        refine g_ld rfl rfl rfl ?_
        have ex3 := i_add (x := 1) (y := a3) (show (1 : Int32).toInt = 1 by decide) rfl h.1
        have cx3 := ck_add (x := 1) (y := a3) (show (1 : Int32).toInt = 1 by decide) rfl h.1
        replace h := h.2 _ ex3
        refine g_ca [.int (1 + a3), .int a1, .ref 230] xo_iadd rfl rfl (fun _ => cx3) ?_
        refine g_ias rfl rfl (i_in (x := a1) rfl h.1) ?_
        replace h := h.2
        replace h := h _ rfl
        exact k_218_70 r33 h
def wl_218_33 (T : Nat → List Value → yS → (Option Value → yS → Prop) → Prop)  (a1 : Int32) (a2 : Int32) (a3 : Int32) (s : yS) (P : Option Value → yS → Prop) : Prop :=
  ∃ (I : Int32 → Int32 → Int32 → yS → Prop) (μ : Int32 → Int32 → Int32 → yS → Nat), I a1 a2 a3 s ∧ ∀ (a1 : Int32) (a2 : Int32) (a3 : Int32) (s : yS), I a1 a2 a3 s → w_218_33 T (fun a1' a2' a3' s' => I a1' a2' a3' s' ∧ μ a1' a2' a3' s' < μ a1 a2 a3 s) a1 a2 a3 s P
theorem kl_218_33 {d : Nat}  {a1 : Int32} {a2 : Int32} {a3 : Int32} {s : yS} {P : Option Value → yS → Prop}  (h : wl_218_33 (Tot d)  a1 a2 a3 s P) : Go d 4 (none) xE_218 (xE_218.drop 33) [.ref 213, .int a1, .int a2, .int a3, .null, .null] [] s P := by
  obtain ⟨I, μ, h0, h1⟩ := h
  have key : ∀ (n : Nat) (a1 : Int32) (a2 : Int32) (a3 : Int32) (s : yS), μ a1 a2 a3 s = n → I a1 a2 a3 s → Go d 4 (none) xE_218 (xE_218.drop 33) [.ref 213, .int a1, .int a2, .int a3, .null, .null] [] s P := by
    intro n
    induction n using Nat.strongRecOn with
    | ind n ih =>
      intro a1 a2 a3 s e hI
      exact k_218_33 (fun a1' a2' a3' s' q => ih _ (by rw [← e]; exact q.2) _ _ _ _ rfl q.1) (h1 a1 a2 a3 s hI)
  exact key _ a1 a2 a3 s rfl h0
def w_218_31 (T : Nat → List Value → yS → (Option Value → yS → Prop) → Prop)  (a1 : Int32) (a2 : Int32) (s : yS) (P : Option Value → yS → Prop) : Prop :=
  wl_218_33 T  a1 a2 0  s P
set_option maxRecDepth 20000 in
theorem k_218_31 {d : Nat}  {a1 : Int32} {a2 : Int32} {s : yS} {P : Option Value → yS → Prop}  (h : w_218_31 (Tot d)  a1 a2 s P) : Go d 4 (none) xE_218 (xE_218.drop 31) [.ref 213, .int a1, .int a2, .null, .null, .null] [] s P := by
  unfold w_218_31 at h
  refine g_c [.int 0] (xo_push (.int 0)) rfl rfl ?_
  refine g_st [.ref 213, .int a1, .int a2, .int 0, .null, .null] rfl rfl rfl ?_
  exact kl_218_33  h
def w_218_0 (T : Nat → List Value → yS → (Option Value → yS → Prop) → Prop)  (a1 : Int32) (s : yS) (P : Option Value → yS → Prop) : Prop :=
  (0 ≤ a1.toInt ∧ a1.toInt < 12006) ∧ ((0 ≤ (s.2.1 222 a1.toInt.toNat).toInt ∧ (s.2.1 222 a1.toInt.toNat).toInt < 12006) ∧ ((0 ≤ a1.toInt ∧ a1.toInt < 12006) ∧ (∀ s1, s1 = sa s 230 a1.toInt.toNat (-1) → ((s1.1 78).toInt < 0 → w_218_31 T  a1 (s.2.1 217 (s.2.1 222 a1.toInt.toNat).toInt.toNat)  s1 P) ∧ (¬ ((s1.1 78).toInt < 0) → (0 ≤ (s1.1 78).toInt ∧ (s1.1 78).toInt < 120) ∧ ((0 ≤ (s1.2.1 253 (s1.1 78).toInt.toNat).toInt ∧ (s1.2.1 253 (s1.1 78).toInt.toNat).toInt < 12006) ∧ ((¬ ((s1.2.1 217 (s1.2.1 253 (s1.1 78).toInt.toNat).toInt.toNat).toInt = (s.2.1 217 (s.2.1 222 a1.toInt.toNat).toInt.toNat).toInt) → w_218_31 T  a1 (s.2.1 217 (s.2.1 222 a1.toInt.toNat).toInt.toNat)  s1 P) ∧ ((s1.2.1 217 (s1.2.1 253 (s1.1 78).toInt.toNat).toInt.toNat).toInt = (s.2.1 217 (s.2.1 222 a1.toInt.toNat).toInt.toNat).toInt → (0 ≤ a1.toInt ∧ a1.toInt < 12006) ∧ (∀ s2, s2 = sa s1 230 a1.toInt.toNat 0 → w_218_31 T  a1 (s.2.1 217 (s.2.1 222 a1.toInt.toNat).toInt.toNat)  s2 P))))))))
set_option maxRecDepth 20000 in
theorem k_218_0 {d : Nat}  {a1 : Int32} {s : yS} {P : Option Value → yS → Prop}  (h : w_218_0 (Tot d)  a1 s P) : Go d 4 (none) xE_218 (xE_218.drop 0) [.ref 213, .int a1, .null, .null, .null, .null] [] s P := by
  unfold w_218_0 at h
  refine g_ld rfl rfl rfl ?_
  refine g_get rfl rfl ?_
  change Go _ _ _ _ _ _ [.ref 217] _ _
  refine g_ld rfl rfl rfl ?_
  refine g_get rfl rfl ?_
  change Go _ _ _ _ _ _ [.ref 222, .ref 217] _ _
  refine g_ld rfl rfl rfl ?_
  refine g_ial rfl rfl (i_in (x := a1) rfl h.1) ?_
  change Go _ _ _ _ _ _ [.int (s.2.1 222 a1.toInt.toNat), .ref 217] _ _
  replace h := h.2
  refine g_ial rfl rfl (i_in (x := s.2.1 222 a1.toInt.toNat) rfl h.1) ?_
  change Go _ _ _ _ _ _ [.int (s.2.1 217 (s.2.1 222 a1.toInt.toNat).toInt.toNat)] _ _
  replace h := h.2
  refine g_st [.ref 213, .int a1, .int (s.2.1 217 (s.2.1 222 a1.toInt.toNat).toInt.toNat), .null, .null, .null] rfl rfl rfl ?_
  refine g_ld rfl rfl rfl ?_
  refine g_get rfl rfl ?_
  change Go _ _ _ _ _ _ [.ref 230] _ _
  refine g_ld rfl rfl rfl ?_
  refine g_c [.int (-1), .int a1, .ref 230] (xo_push (.int (-1))) rfl rfl ?_
  refine g_ias rfl rfl (i_in (x := a1) rfl h.1) ?_
  replace h := h.2
  replace h := h _ rfl
  refine g_ld rfl rfl rfl ?_
  refine g_get rfl rfl ?_
  change Go _ _ _ _ _ _ [.int ((sa s 230 a1.toInt.toNat (-1)).1 78)] _ _
  refine g_brP rfl rfl ⟨fun hc => ?_, fun hc => ?_⟩
  · replace h := h.1 ((i_lt (x := (sa s 230 a1.toInt.toNat (-1)).1 78) (y := 0) rfl (show (0 : Int32).toInt = 0 by decide)).mp hc)
    exact k_218_31  h
  · replace h := h.2 (fun q => hc ((i_lt (x := (sa s 230 a1.toInt.toNat (-1)).1 78) (y := 0) rfl (show (0 : Int32).toInt = 0 by decide)).mpr q))
    refine g_ld rfl rfl rfl ?_
    refine g_get rfl rfl ?_
    change Go _ _ _ _ _ _ [.ref 217] _ _
    refine g_ld rfl rfl rfl ?_
    refine g_get rfl rfl ?_
    change Go _ _ _ _ _ _ [.ref 253, .ref 217] _ _
    refine g_ld rfl rfl rfl ?_
    refine g_get rfl rfl ?_
    change Go _ _ _ _ _ _ [.int ((sa s 230 a1.toInt.toNat (-1)).1 78), .ref 253, .ref 217] _ _
    refine g_ial rfl rfl (i_in (x := (sa s 230 a1.toInt.toNat (-1)).1 78) rfl h.1) ?_
    change Go _ _ _ _ _ _ [.int ((sa s 230 a1.toInt.toNat (-1)).2.1 253 ((sa s 230 a1.toInt.toNat (-1)).1 78).toInt.toNat), .ref 217] _ _
    replace h := h.2
    refine g_ial rfl rfl (i_in (x := (sa s 230 a1.toInt.toNat (-1)).2.1 253 ((sa s 230 a1.toInt.toNat (-1)).1 78).toInt.toNat) rfl h.1) ?_
    change Go _ _ _ _ _ _ [.int ((sa s 230 a1.toInt.toNat (-1)).2.1 217 ((sa s 230 a1.toInt.toNat (-1)).2.1 253 ((sa s 230 a1.toInt.toNat (-1)).1 78).toInt.toNat).toInt.toNat)] _ _
    replace h := h.2
    refine g_ld rfl rfl rfl ?_
    refine g_brN rfl rfl ⟨fun hc => ?_, fun hc => ?_⟩
    · replace h := h.1 (fun q => hc ((i_eq (x := (sa s 230 a1.toInt.toNat (-1)).2.1 217 ((sa s 230 a1.toInt.toNat (-1)).2.1 253 ((sa s 230 a1.toInt.toNat (-1)).1 78).toInt.toNat).toInt.toNat) (y := s.2.1 217 (s.2.1 222 a1.toInt.toNat).toInt.toNat) rfl rfl).mpr q))
      exact k_218_31  h
    · replace h := h.2 ((i_eq (x := (sa s 230 a1.toInt.toNat (-1)).2.1 217 ((sa s 230 a1.toInt.toNat (-1)).2.1 253 ((sa s 230 a1.toInt.toNat (-1)).1 78).toInt.toNat).toInt.toNat) (y := s.2.1 217 (s.2.1 222 a1.toInt.toNat).toInt.toNat) rfl rfl).mp hc)
      refine g_ld rfl rfl rfl ?_
      refine g_get rfl rfl ?_
      change Go _ _ _ _ _ _ [.ref 230] _ _
      refine g_ld rfl rfl rfl ?_
      refine g_c [.int 0, .int a1, .ref 230] (xo_push (.int 0)) rfl rfl ?_
      refine g_ias rfl rfl (i_in (x := a1) rfl h.1) ?_
      replace h := h.2
      replace h := h _ rfl
      exact k_218_31  h
theorem t_218 {d : Nat} {a1 : Int32} {s : yS} {P : Option Value → yS → Prop} (h : w_218_0 (Tot d) a1 s P) : Tot (d + 1) 218 [.ref 213, .int a1] s P := tot_of (E := xE_218) (ml := 4) (ret := none) rfl rfl rfl (k_218_0 h)
/-! typeOfVar -/
def w_219_68 (T : Nat → List Value → yS → (Option Value → yS → Prop) → Prop) (R68 : Int32 → Int32 → Int32 → Int32 → yS → Prop) (a1 : Int32) (a2 : Int32) (a3 : Int32) (a4 : Int32) (s : yS) (P : Option Value → yS → Prop) : Prop :=
  (a3.toInt ≤ a4.toInt → P none s) ∧ (¬ (a3.toInt ≤ a4.toInt) → (-2147483648 ≤ 60 * (s.1 75).toInt ∧ 60 * (s.1 75).toInt ≤ 2147483647) ∧ (∀ x1 : Int32, x1.toInt = 60 * (s.1 75).toInt → (-2147483648 ≤ (s.1 78).toInt - x1.toInt ∧ (s.1 78).toInt - x1.toInt ≤ 2147483647) ∧ (∀ x2 : Int32, x2.toInt = (s.1 78).toInt - x1.toInt → (-2147483648 ≤ 6 * x2.toInt ∧ 6 * x2.toInt ≤ 2147483647) ∧ (∀ x3 : Int32, x3.toInt = 6 * x2.toInt → (-2147483648 ≤ 4000 + x3.toInt ∧ 4000 + x3.toInt ≤ 2147483647) ∧ (∀ x4 : Int32, x4.toInt = 4000 + x3.toInt → (-2147483648 ≤ x4.toInt + a4.toInt ∧ x4.toInt + a4.toInt ≤ 2147483647) ∧ (∀ x5 : Int32, x5.toInt = x4.toInt + a4.toInt → (-2147483648 ≤ 8 * x5.toInt ∧ 8 * x5.toInt ≤ 2147483647) ∧ (∀ x6 : Int32, x6.toInt = 8 * x5.toInt → (0 ≤ (s.1 64).toInt ∧ (s.1 64).toInt < 200000) ∧ (∀ s7, s7 = sa s 264 (s.1 64).toInt.toNat x6 → (-2147483648 ≤ (s7.1 64).toInt + 1 ∧ (s7.1 64).toInt + 1 ≤ 2147483647) ∧ (∀ x8 : Int32, x8.toInt = (s7.1 64).toInt + 1 → ∀ s9, s9 = sf s7 64 x8 → (-2147483648 ≤ a4.toInt + 1 ∧ a4.toInt + 1 ≤ 2147483647) ∧ (∀ x10 : Int32, x10.toInt = a4.toInt + 1 → R68 a1 a2 a3 x10  s9))))))))))
set_option maxRecDepth 20000 in
theorem k_219_68 {d : Nat} {R68 : Int32 → Int32 → Int32 → Int32 → yS → Prop} {a1 : Int32} {a2 : Int32} {a3 : Int32} {a4 : Int32} {s : yS} {P : Option Value → yS → Prop} (r68 : ∀ a1 a2 a3 a4 s, R68 a1 a2 a3 a4 s → Go d 5 (none) xE_219 (xE_219.drop 68) [.ref 213, .int a1, .int a2, .int a3, .int a4, .null, .null] [] s P) (h : w_219_68 (Tot d) R68 a1 a2 a3 a4 s P) : Go d 5 (none) xE_219 (xE_219.drop 68) [.ref 213, .int a1, .int a2, .int a3, .int a4, .null, .null] [] s P := by
  unfold w_219_68 at h
  refine g_ld rfl rfl rfl ?_
  refine g_ld rfl rfl rfl ?_
  refine g_brP rfl rfl ⟨fun hc => ?_, fun hc => ?_⟩
  · replace h := h.1 ((i_le (x := a3) (y := a4) rfl rfl).mp hc)
    exact g_ret0 rfl h
  · replace h := h.2 (fun q => hc ((i_le (x := a3) (y := a4) rfl rfl).mpr q))
    refine g_ld rfl rfl rfl ?_
    refine g_get rfl rfl ?_
    change Go _ _ _ _ _ _ [.ref 264] _ _
    refine g_ld rfl rfl rfl ?_
    refine g_get rfl rfl ?_
    change Go _ _ _ _ _ _ [.int (s.1 64), .ref 264] _ _
    refine g_c [.int 8, .int (s.1 64), .ref 264] (xo_push (.int 8)) rfl rfl ?_
    refine g_c [.int 4000, .int 8, .int (s.1 64), .ref 264] (xo_push (.int 4000)) rfl rfl ?_
    refine g_c [.int 6, .int 4000, .int 8, .int (s.1 64), .ref 264] (xo_push (.int 6)) rfl rfl ?_
    refine g_ld rfl rfl rfl ?_
    refine g_get rfl rfl ?_
    change Go _ _ _ _ _ _ [.int (s.1 78), .int 6, .int 4000, .int 8, .int (s.1 64), .ref 264] _ _
    refine g_c [.int 60, .int (s.1 78), .int 6, .int 4000, .int 8, .int (s.1 64), .ref 264] (xo_push (.int 60)) rfl rfl ?_
    refine g_ld rfl rfl rfl ?_
    refine g_get rfl rfl ?_
    change Go _ _ _ _ _ _ [.int (s.1 75), .int 60, .int (s.1 78), .int 6, .int 4000, .int 8, .int (s.1 64), .ref 264] _ _
    have ex1 := i_mul (x := 60) (y := s.1 75) (show (60 : Int32).toInt = 60 by decide) rfl h.1
    have cx1 := ck_mul (x := 60) (y := s.1 75) (show (60 : Int32).toInt = 60 by decide) rfl h.1
    replace h := h.2 _ ex1
    refine g_ca [.int (60 * (s.1 75)), .int (s.1 78), .int 6, .int 4000, .int 8, .int (s.1 64), .ref 264] xo_imul rfl rfl (fun _ => cx1) ?_
    have ex2 := i_sub (x := s.1 78) (y := (60 * (s.1 75))) rfl rfl h.1
    have cx2 := ck_sub (x := s.1 78) (y := (60 * (s.1 75))) rfl rfl h.1
    replace h := h.2 _ ex2
    refine g_ca [.int ((s.1 78) - (60 * (s.1 75))), .int 6, .int 4000, .int 8, .int (s.1 64), .ref 264] xo_isub rfl rfl (fun _ => cx2) ?_
    have ex3 := i_mul (x := 6) (y := ((s.1 78) - (60 * (s.1 75)))) (show (6 : Int32).toInt = 6 by decide) rfl h.1
    have cx3 := ck_mul (x := 6) (y := ((s.1 78) - (60 * (s.1 75)))) (show (6 : Int32).toInt = 6 by decide) rfl h.1
    replace h := h.2 _ ex3
    refine g_ca [.int (6 * ((s.1 78) - (60 * (s.1 75)))), .int 4000, .int 8, .int (s.1 64), .ref 264] xo_imul rfl rfl (fun _ => cx3) ?_
    have ex4 := i_add (x := 4000) (y := (6 * ((s.1 78) - (60 * (s.1 75))))) (show (4000 : Int32).toInt = 4000 by decide) rfl h.1
    have cx4 := ck_add (x := 4000) (y := (6 * ((s.1 78) - (60 * (s.1 75))))) (show (4000 : Int32).toInt = 4000 by decide) rfl h.1
    replace h := h.2 _ ex4
    refine g_ca [.int (4000 + (6 * ((s.1 78) - (60 * (s.1 75))))), .int 8, .int (s.1 64), .ref 264] xo_iadd rfl rfl (fun _ => cx4) ?_
    refine g_ld rfl rfl rfl ?_
    have ex5 := i_add (x := (4000 + (6 * ((s.1 78) - (60 * (s.1 75)))))) (y := a4) rfl rfl h.1
    have cx5 := ck_add (x := (4000 + (6 * ((s.1 78) - (60 * (s.1 75)))))) (y := a4) rfl rfl h.1
    replace h := h.2 _ ex5
    refine g_ca [.int ((4000 + (6 * ((s.1 78) - (60 * (s.1 75))))) + a4), .int 8, .int (s.1 64), .ref 264] xo_iadd rfl rfl (fun _ => cx5) ?_
    have ex6 := i_mul (x := 8) (y := ((4000 + (6 * ((s.1 78) - (60 * (s.1 75))))) + a4)) (show (8 : Int32).toInt = 8 by decide) rfl h.1
    have cx6 := ck_mul (x := 8) (y := ((4000 + (6 * ((s.1 78) - (60 * (s.1 75))))) + a4)) (show (8 : Int32).toInt = 8 by decide) rfl h.1
    replace h := h.2 _ ex6
    refine g_ca [.int (8 * ((4000 + (6 * ((s.1 78) - (60 * (s.1 75))))) + a4)), .int (s.1 64), .ref 264] xo_imul rfl rfl (fun _ => cx6) ?_
    refine g_ias rfl rfl (i_in (x := s.1 64) rfl h.1) ?_
    replace h := h.2
    replace h := h _ rfl
    refine g_ld rfl rfl rfl ?_
    refine g_c [.ref 213, .ref 213] xo_dup rfl rfl ?_
    refine g_get rfl rfl ?_
    change Go _ _ _ _ _ _ [.int ((sa s 264 (s.1 64).toInt.toNat (8 * ((4000 + (6 * ((s.1 78) - (60 * (s.1 75))))) + a4))).1 64), .ref 213] _ _
    refine g_c [.int 1, .int ((sa s 264 (s.1 64).toInt.toNat (8 * ((4000 + (6 * ((s.1 78) - (60 * (s.1 75))))) + a4))).1 64), .ref 213] (xo_push (.int 1)) rfl rfl ?_
    have ex8 := i_add (x := (sa s 264 (s.1 64).toInt.toNat (8 * ((4000 + (6 * ((s.1 78) - (60 * (s.1 75))))) + a4))).1 64) (y := 1) rfl (show (1 : Int32).toInt = 1 by decide) h.1
    have cx8 := ck_add (x := (sa s 264 (s.1 64).toInt.toNat (8 * ((4000 + (6 * ((s.1 78) - (60 * (s.1 75))))) + a4))).1 64) (y := 1) rfl (show (1 : Int32).toInt = 1 by decide) h.1
    replace h := h.2 _ ex8
    refine g_ca [.int (((sa s 264 (s.1 64).toInt.toNat (8 * ((4000 + (6 * ((s.1 78) - (60 * (s.1 75))))) + a4))).1 64) + 1), .ref 213] xo_iadd rfl rfl (fun _ => cx8) ?_
    refine g_put rfl rfl rfl ?_
    replace h := h _ rfl
    have ex10 := i_add (x := a4) (y := 1) rfl (show (1 : Int32).toInt = 1 by decide) h.1
    have cx10 := ck_inc (x := a4) (n := 1) rfl h.1
    replace h := h.2 _ ex10
    refine g_inc [.ref 213, .int a1, .int a2, .int a3, .int (a4 + 1), .null, .null] rfl rfl rfl rfl cx10 ?_
    refine g_go rfl ?_
    exact r68 a1 a2 a3 (a4 + 1)  (sf (sa s 264 (s.1 64).toInt.toNat (8 * ((4000 + (6 * ((s.1 78) - (60 * (s.1 75))))) + a4))) 64 (((sa s 264 (s.1 64).toInt.toNat (8 * ((4000 + (6 * ((s.1 78) - (60 * (s.1 75))))) + a4))).1 64) + 1)) h
def wl_219_68 (T : Nat → List Value → yS → (Option Value → yS → Prop) → Prop)  (a1 : Int32) (a2 : Int32) (a3 : Int32) (a4 : Int32) (s : yS) (P : Option Value → yS → Prop) : Prop :=
  ∃ (I : Int32 → Int32 → Int32 → Int32 → yS → Prop) (μ : Int32 → Int32 → Int32 → Int32 → yS → Nat), I a1 a2 a3 a4 s ∧ ∀ (a1 : Int32) (a2 : Int32) (a3 : Int32) (a4 : Int32) (s : yS), I a1 a2 a3 a4 s → w_219_68 T (fun a1' a2' a3' a4' s' => I a1' a2' a3' a4' s' ∧ μ a1' a2' a3' a4' s' < μ a1 a2 a3 a4 s) a1 a2 a3 a4 s P
theorem kl_219_68 {d : Nat}  {a1 : Int32} {a2 : Int32} {a3 : Int32} {a4 : Int32} {s : yS} {P : Option Value → yS → Prop}  (h : wl_219_68 (Tot d)  a1 a2 a3 a4 s P) : Go d 5 (none) xE_219 (xE_219.drop 68) [.ref 213, .int a1, .int a2, .int a3, .int a4, .null, .null] [] s P := by
  obtain ⟨I, μ, h0, h1⟩ := h
  have key : ∀ (n : Nat) (a1 : Int32) (a2 : Int32) (a3 : Int32) (a4 : Int32) (s : yS), μ a1 a2 a3 a4 s = n → I a1 a2 a3 a4 s → Go d 5 (none) xE_219 (xE_219.drop 68) [.ref 213, .int a1, .int a2, .int a3, .int a4, .null, .null] [] s P := by
    intro n
    induction n using Nat.strongRecOn with
    | ind n ih =>
      intro a1 a2 a3 a4 s e hI
      exact k_219_68 (fun a1' a2' a3' a4' s' q => ih _ (by rw [← e]; exact q.2) _ _ _ _ _ rfl q.1) (h1 a1 a2 a3 a4 s hI)
  exact key _ a1 a2 a3 a4 s rfl h0
def w_219_0 (T : Nat → List Value → yS → (Option Value → yS → Prop) → Prop)  (a1 : Int32) (s : yS) (P : Option Value → yS → Prop) : Prop :=
  (0 ≤ a1.toInt ∧ a1.toInt < 12006) ∧ (((s.2.1 230 a1.toInt.toNat).toInt ≤ 0 → (0 ≤ (s.1 78).toInt ∧ (s.1 78).toInt < 120) ∧ ((-2147483648 ≤ (s.2.1 255 (s.1 78).toInt.toNat).toInt + 1 ∧ (s.2.1 255 (s.1 78).toInt.toNat).toInt + 1 ≤ 2147483647) ∧ (∀ x1 : Int32, x1.toInt = (s.2.1 255 (s.1 78).toInt.toNat).toInt + 1 → T 216 [.ref 213, .int (s.1 64), .int x1] s (fun v3 s2 => v3 = none ∧ ((0 ≤ (s2.1 78).toInt ∧ (s2.1 78).toInt < 120) ∧ ((-2147483648 ≤ 8 * (s2.2.1 261 (s2.1 78).toInt.toNat).toInt ∧ 8 * (s2.2.1 261 (s2.1 78).toInt.toNat).toInt ≤ 2147483647) ∧ (∀ x4 : Int32, x4.toInt = 8 * (s2.2.1 261 (s2.1 78).toInt.toNat).toInt → (-2147483648 ≤ x4.toInt + (s.2.1 255 (s.1 78).toInt.toNat).toInt ∧ x4.toInt + (s.2.1 255 (s.1 78).toInt.toNat).toInt ≤ 2147483647) ∧ (∀ x5 : Int32, x5.toInt = x4.toInt + (s.2.1 255 (s.1 78).toInt.toNat).toInt → (0 ≤ (s2.1 64).toInt ∧ (s2.1 64).toInt < 200000) ∧ (∀ s6, s6 = sa s2 264 (s2.1 64).toInt.toNat x5 → (-2147483648 ≤ (s6.1 64).toInt + 1 ∧ (s6.1 64).toInt + 1 ≤ 2147483647) ∧ (∀ x7 : Int32, x7.toInt = (s6.1 64).toInt + 1 → ∀ s8, s8 = sf s6 64 x7 → wl_219_68 T  a1 (s.2.1 230 a1.toInt.toNat) (s.2.1 255 (s.1 78).toInt.toNat) 0  s8 P)))))))))) ∧ (¬ ((s.2.1 230 a1.toInt.toNat).toInt ≤ 0) → (0 ≤ (s.1 78).toInt ∧ (s.1 78).toInt < 120) ∧ ((-2147483648 ≤ 6 * (s.2.1 257 (s.1 78).toInt.toNat).toInt ∧ 6 * (s.2.1 257 (s.1 78).toInt.toNat).toInt ≤ 2147483647) ∧ (∀ x9 : Int32, x9.toInt = 6 * (s.2.1 257 (s.1 78).toInt.toNat).toInt → (-2147483648 ≤ x9.toInt + (s.2.1 230 a1.toInt.toNat).toInt ∧ x9.toInt + (s.2.1 230 a1.toInt.toNat).toInt ≤ 2147483647) ∧ (∀ x10 : Int32, x10.toInt = x9.toInt + (s.2.1 230 a1.toInt.toNat).toInt → (-2147483648 ≤ x10.toInt - 1 ∧ x10.toInt - 1 ≤ 2147483647) ∧ (∀ x11 : Int32, x11.toInt = x10.toInt - 1 → (0 ≤ x11.toInt ∧ x11.toInt < 2448) ∧ ((0 ≤ (s.2.1 250 x11.toInt.toNat).toInt ∧ (s.2.1 250 x11.toInt.toNat).toInt < 12006) ∧ ((0 ≤ (s.2.1 250 x11.toInt.toNat).toInt ∧ (s.2.1 250 x11.toInt.toNat).toInt < 12006) ∧ (T 216 [.ref 213, .int (s.2.1 231 (s.2.1 250 x11.toInt.toNat).toInt.toNat), .int (s.2.1 232 (s.2.1 250 x11.toInt.toNat).toInt.toNat)] s (fun v13 s12 => v13 = none ∧ (P none s12)))))))))))
set_option maxRecDepth 20000 in
theorem k_219_0 {d : Nat}  {a1 : Int32} {s : yS} {P : Option Value → yS → Prop}  (h : w_219_0 (Tot d)  a1 s P) : Go d 5 (none) xE_219 (xE_219.drop 0) [.ref 213, .int a1, .null, .null, .null, .null, .null] [] s P := by
  unfold w_219_0 at h
  refine g_ld rfl rfl rfl ?_
  refine g_get rfl rfl ?_
  change Go _ _ _ _ _ _ [.ref 230] _ _
  refine g_ld rfl rfl rfl ?_
  refine g_ial rfl rfl (i_in (x := a1) rfl h.1) ?_
  change Go _ _ _ _ _ _ [.int (s.2.1 230 a1.toInt.toNat)] _ _
  replace h := h.2
  refine g_st [.ref 213, .int a1, .int (s.2.1 230 a1.toInt.toNat), .null, .null, .null, .null] rfl rfl rfl ?_
  refine g_ld rfl rfl rfl ?_
  refine g_brP rfl rfl ⟨fun hc => ?_, fun hc => ?_⟩
  · replace h := h.1 ((i_le (x := s.2.1 230 a1.toInt.toNat) (y := 0) rfl (show (0 : Int32).toInt = 0 by decide)).mp hc)
    refine g_ld rfl rfl rfl ?_
    refine g_get rfl rfl ?_
    change Go _ _ _ _ _ _ [.ref 255] _ _
    refine g_ld rfl rfl rfl ?_
    refine g_get rfl rfl ?_
    change Go _ _ _ _ _ _ [.int (s.1 78), .ref 255] _ _
    refine g_ial rfl rfl (i_in (x := s.1 78) rfl h.1) ?_
    change Go _ _ _ _ _ _ [.int (s.2.1 255 (s.1 78).toInt.toNat)] _ _
    replace h := h.2
    refine g_st [.ref 213, .int a1, .int (s.2.1 230 a1.toInt.toNat), .int (s.2.1 255 (s.1 78).toInt.toNat), .null, .null, .null] rfl rfl rfl ?_
    refine g_ld rfl rfl rfl ?_
    refine g_ld rfl rfl rfl ?_
    refine g_get rfl rfl ?_
    change Go _ _ _ _ _ _ [.int (s.1 64), .ref 213] _ _
    refine g_ld rfl rfl rfl ?_
    refine g_c [.int 1, .int (s.2.1 255 (s.1 78).toInt.toNat), .int (s.1 64), .ref 213] (xo_push (.int 1)) rfl rfl ?_
    have ex1 := i_add (x := s.2.1 255 (s.1 78).toInt.toNat) (y := 1) rfl (show (1 : Int32).toInt = 1 by decide) h.1
    have cx1 := ck_add (x := s.2.1 255 (s.1 78).toInt.toNat) (y := 1) rfl (show (1 : Int32).toInt = 1 by decide) h.1
    replace h := h.2 _ ex1
    refine g_ca [.int ((s.2.1 255 (s.1 78).toInt.toNat) + 1), .int (s.1 64), .ref 213] xo_iadd rfl rfl (fun _ => cx1) ?_
    refine g_call [.ref 213, .int (s.1 64), .int ((s.2.1 255 (s.1 78).toInt.toNat) + 1)] [] rfl rfl rfl (Tot.imp h (fun v3 s2 h => ?_))
    obtain ⟨rfl, h⟩ := h
    change Go _ _ _ _ _ _ [] _ _
    refine g_ld rfl rfl rfl ?_
    refine g_get rfl rfl ?_
    change Go _ _ _ _ _ _ [.ref 264] _ _
    refine g_ld rfl rfl rfl ?_
    refine g_get rfl rfl ?_
    change Go _ _ _ _ _ _ [.int (s2.1 64), .ref 264] _ _
    refine g_c [.int 8, .int (s2.1 64), .ref 264] (xo_push (.int 8)) rfl rfl ?_
    refine g_ld rfl rfl rfl ?_
    refine g_get rfl rfl ?_
    change Go _ _ _ _ _ _ [.ref 261, .int 8, .int (s2.1 64), .ref 264] _ _
    refine g_ld rfl rfl rfl ?_
    refine g_get rfl rfl ?_
    change Go _ _ _ _ _ _ [.int (s2.1 78), .ref 261, .int 8, .int (s2.1 64), .ref 264] _ _
    refine g_ial rfl rfl (i_in (x := s2.1 78) rfl h.1) ?_
    change Go _ _ _ _ _ _ [.int (s2.2.1 261 (s2.1 78).toInt.toNat), .int 8, .int (s2.1 64), .ref 264] _ _
    replace h := h.2
    have ex4 := i_mul (x := 8) (y := s2.2.1 261 (s2.1 78).toInt.toNat) (show (8 : Int32).toInt = 8 by decide) rfl h.1
    have cx4 := ck_mul (x := 8) (y := s2.2.1 261 (s2.1 78).toInt.toNat) (show (8 : Int32).toInt = 8 by decide) rfl h.1
    replace h := h.2 _ ex4
    refine g_ca [.int (8 * (s2.2.1 261 (s2.1 78).toInt.toNat)), .int (s2.1 64), .ref 264] xo_imul rfl rfl (fun _ => cx4) ?_
    refine g_ld rfl rfl rfl ?_
    have ex5 := i_add (x := (8 * (s2.2.1 261 (s2.1 78).toInt.toNat))) (y := s.2.1 255 (s.1 78).toInt.toNat) rfl rfl h.1
    have cx5 := ck_add (x := (8 * (s2.2.1 261 (s2.1 78).toInt.toNat))) (y := s.2.1 255 (s.1 78).toInt.toNat) rfl rfl h.1
    replace h := h.2 _ ex5
    refine g_ca [.int ((8 * (s2.2.1 261 (s2.1 78).toInt.toNat)) + (s.2.1 255 (s.1 78).toInt.toNat)), .int (s2.1 64), .ref 264] xo_iadd rfl rfl (fun _ => cx5) ?_
    refine g_ias rfl rfl (i_in (x := s2.1 64) rfl h.1) ?_
    replace h := h.2
    replace h := h _ rfl
    refine g_ld rfl rfl rfl ?_
    refine g_c [.ref 213, .ref 213] xo_dup rfl rfl ?_
    refine g_get rfl rfl ?_
    change Go _ _ _ _ _ _ [.int ((sa s2 264 (s2.1 64).toInt.toNat ((8 * (s2.2.1 261 (s2.1 78).toInt.toNat)) + (s.2.1 255 (s.1 78).toInt.toNat))).1 64), .ref 213] _ _
    refine g_c [.int 1, .int ((sa s2 264 (s2.1 64).toInt.toNat ((8 * (s2.2.1 261 (s2.1 78).toInt.toNat)) + (s.2.1 255 (s.1 78).toInt.toNat))).1 64), .ref 213] (xo_push (.int 1)) rfl rfl ?_
    have ex7 := i_add (x := (sa s2 264 (s2.1 64).toInt.toNat ((8 * (s2.2.1 261 (s2.1 78).toInt.toNat)) + (s.2.1 255 (s.1 78).toInt.toNat))).1 64) (y := 1) rfl (show (1 : Int32).toInt = 1 by decide) h.1
    have cx7 := ck_add (x := (sa s2 264 (s2.1 64).toInt.toNat ((8 * (s2.2.1 261 (s2.1 78).toInt.toNat)) + (s.2.1 255 (s.1 78).toInt.toNat))).1 64) (y := 1) rfl (show (1 : Int32).toInt = 1 by decide) h.1
    replace h := h.2 _ ex7
    refine g_ca [.int (((sa s2 264 (s2.1 64).toInt.toNat ((8 * (s2.2.1 261 (s2.1 78).toInt.toNat)) + (s.2.1 255 (s.1 78).toInt.toNat))).1 64) + 1), .ref 213] xo_iadd rfl rfl (fun _ => cx7) ?_
    refine g_put rfl rfl rfl ?_
    replace h := h _ rfl
    refine g_c [.int 0] (xo_push (.int 0)) rfl rfl ?_
    refine g_st [.ref 213, .int a1, .int (s.2.1 230 a1.toInt.toNat), .int (s.2.1 255 (s.1 78).toInt.toNat), .int 0, .null, .null] rfl rfl rfl ?_
    exact kl_219_68  h
  · replace h := h.2 (fun q => hc ((i_le (x := s.2.1 230 a1.toInt.toNat) (y := 0) rfl (show (0 : Int32).toInt = 0 by decide)).mpr q))
    refine g_ld rfl rfl rfl ?_
    refine g_get rfl rfl ?_
    change Go _ _ _ _ _ _ [.ref 250] _ _
    refine g_c [.int 6, .ref 250] (xo_push (.int 6)) rfl rfl ?_
    refine g_ld rfl rfl rfl ?_
    refine g_get rfl rfl ?_
    change Go _ _ _ _ _ _ [.ref 257, .int 6, .ref 250] _ _
    refine g_ld rfl rfl rfl ?_
    refine g_get rfl rfl ?_
    change Go _ _ _ _ _ _ [.int (s.1 78), .ref 257, .int 6, .ref 250] _ _
    refine g_ial rfl rfl (i_in (x := s.1 78) rfl h.1) ?_
    change Go _ _ _ _ _ _ [.int (s.2.1 257 (s.1 78).toInt.toNat), .int 6, .ref 250] _ _
    replace h := h.2
    have ex9 := i_mul (x := 6) (y := s.2.1 257 (s.1 78).toInt.toNat) (show (6 : Int32).toInt = 6 by decide) rfl h.1
    have cx9 := ck_mul (x := 6) (y := s.2.1 257 (s.1 78).toInt.toNat) (show (6 : Int32).toInt = 6 by decide) rfl h.1
    replace h := h.2 _ ex9
    refine g_ca [.int (6 * (s.2.1 257 (s.1 78).toInt.toNat)), .ref 250] xo_imul rfl rfl (fun _ => cx9) ?_
    refine g_ld rfl rfl rfl ?_
    have ex10 := i_add (x := (6 * (s.2.1 257 (s.1 78).toInt.toNat))) (y := s.2.1 230 a1.toInt.toNat) rfl rfl h.1
    have cx10 := ck_add (x := (6 * (s.2.1 257 (s.1 78).toInt.toNat))) (y := s.2.1 230 a1.toInt.toNat) rfl rfl h.1
    replace h := h.2 _ ex10
    refine g_ca [.int ((6 * (s.2.1 257 (s.1 78).toInt.toNat)) + (s.2.1 230 a1.toInt.toNat)), .ref 250] xo_iadd rfl rfl (fun _ => cx10) ?_
    refine g_c [.int 1, .int ((6 * (s.2.1 257 (s.1 78).toInt.toNat)) + (s.2.1 230 a1.toInt.toNat)), .ref 250] (xo_push (.int 1)) rfl rfl ?_
    have ex11 := i_sub (x := ((6 * (s.2.1 257 (s.1 78).toInt.toNat)) + (s.2.1 230 a1.toInt.toNat))) (y := 1) rfl (show (1 : Int32).toInt = 1 by decide) h.1
    have cx11 := ck_sub (x := ((6 * (s.2.1 257 (s.1 78).toInt.toNat)) + (s.2.1 230 a1.toInt.toNat))) (y := 1) rfl (show (1 : Int32).toInt = 1 by decide) h.1
    replace h := h.2 _ ex11
    refine g_ca [.int (((6 * (s.2.1 257 (s.1 78).toInt.toNat)) + (s.2.1 230 a1.toInt.toNat)) - 1), .ref 250] xo_isub rfl rfl (fun _ => cx11) ?_
    refine g_ial rfl rfl (i_in (x := (((6 * (s.2.1 257 (s.1 78).toInt.toNat)) + (s.2.1 230 a1.toInt.toNat)) - 1)) rfl h.1) ?_
    change Go _ _ _ _ _ _ [.int (s.2.1 250 (((6 * (s.2.1 257 (s.1 78).toInt.toNat)) + (s.2.1 230 a1.toInt.toNat)) - 1).toInt.toNat)] _ _
    replace h := h.2
    refine g_st [.ref 213, .int a1, .int (s.2.1 230 a1.toInt.toNat), .int (s.2.1 250 (((6 * (s.2.1 257 (s.1 78).toInt.toNat)) + (s.2.1 230 a1.toInt.toNat)) - 1).toInt.toNat), .null, .null, .null] rfl rfl rfl ?_
    refine g_ld rfl rfl rfl ?_
    refine g_ld rfl rfl rfl ?_
    refine g_get rfl rfl ?_
    change Go _ _ _ _ _ _ [.ref 231, .ref 213] _ _
    refine g_ld rfl rfl rfl ?_
    refine g_ial rfl rfl (i_in (x := s.2.1 250 (((6 * (s.2.1 257 (s.1 78).toInt.toNat)) + (s.2.1 230 a1.toInt.toNat)) - 1).toInt.toNat) rfl h.1) ?_
    change Go _ _ _ _ _ _ [.int (s.2.1 231 (s.2.1 250 (((6 * (s.2.1 257 (s.1 78).toInt.toNat)) + (s.2.1 230 a1.toInt.toNat)) - 1).toInt.toNat).toInt.toNat), .ref 213] _ _
    replace h := h.2
    refine g_ld rfl rfl rfl ?_
    refine g_get rfl rfl ?_
    change Go _ _ _ _ _ _ [.ref 232, .int (s.2.1 231 (s.2.1 250 (((6 * (s.2.1 257 (s.1 78).toInt.toNat)) + (s.2.1 230 a1.toInt.toNat)) - 1).toInt.toNat).toInt.toNat), .ref 213] _ _
    refine g_ld rfl rfl rfl ?_
    refine g_ial rfl rfl (i_in (x := s.2.1 250 (((6 * (s.2.1 257 (s.1 78).toInt.toNat)) + (s.2.1 230 a1.toInt.toNat)) - 1).toInt.toNat) rfl h.1) ?_
    change Go _ _ _ _ _ _ [.int (s.2.1 232 (s.2.1 250 (((6 * (s.2.1 257 (s.1 78).toInt.toNat)) + (s.2.1 230 a1.toInt.toNat)) - 1).toInt.toNat).toInt.toNat), .int (s.2.1 231 (s.2.1 250 (((6 * (s.2.1 257 (s.1 78).toInt.toNat)) + (s.2.1 230 a1.toInt.toNat)) - 1).toInt.toNat).toInt.toNat), .ref 213] _ _
    replace h := h.2
    refine g_call [.ref 213, .int (s.2.1 231 (s.2.1 250 (((6 * (s.2.1 257 (s.1 78).toInt.toNat)) + (s.2.1 230 a1.toInt.toNat)) - 1).toInt.toNat).toInt.toNat), .int (s.2.1 232 (s.2.1 250 (((6 * (s.2.1 257 (s.1 78).toInt.toNat)) + (s.2.1 230 a1.toInt.toNat)) - 1).toInt.toNat).toInt.toNat)] [] rfl rfl rfl (Tot.imp h (fun v13 s12 h => ?_))
    obtain ⟨rfl, h⟩ := h
    change Go _ _ _ _ _ _ [] _ _
    exact g_ret0 rfl h
theorem t_219 {d : Nat} {a1 : Int32} {s : yS} {P : Option Value → yS → Prop} (h : w_219_0 (Tot d) a1 s P) : Tot (d + 1) 219 [.ref 213, .int a1] s P := tot_of (E := xE_219) (ml := 5) (ret := none) rfl rfl rfl (k_219_0 h)
/-! isOfStruct -/
def w_220_24 (T : Nat → List Value → yS → (Option Value → yS → Prop) → Prop)  (a1 : Int32) (t0 : Int32) (s : yS) (P : Option Value → yS → Prop) : Prop :=
  (t0.toInt = 0 ∨ t0.toInt = 1) ∧ P (some (.int t0)) s
set_option maxRecDepth 20000 in
theorem k_220_24 {d : Nat}  {a1 : Int32} {t0 : Int32} {s : yS} {P : Option Value → yS → Prop}  (h : w_220_24 (Tot d)  a1 t0 s P) : Go d 2 (some .boolean) xE_220 (xE_220.drop 24) [.ref 213, .int a1, .null, .null] [.int t0] s P := by
  unfold w_220_24 at h
  exact g_retZ rfl (i_z (x := t0) rfl h.1) h.2
def w_220_23 (T : Nat → List Value → yS → (Option Value → yS → Prop) → Prop)  (a1 : Int32) (s : yS) (P : Option Value → yS → Prop) : Prop :=
  w_220_24 T  a1 0 s P
set_option maxRecDepth 20000 in
theorem k_220_23 {d : Nat}  {a1 : Int32} {s : yS} {P : Option Value → yS → Prop}  (h : w_220_23 (Tot d)  a1 s P) : Go d 2 (some .boolean) xE_220 (xE_220.drop 23) [.ref 213, .int a1, .null, .null] [] s P := by
  unfold w_220_23 at h
  refine g_c [.int 0] (xo_push (.int 0)) rfl rfl ?_
  exact k_220_24  h
def w_220_0 (T : Nat → List Value → yS → (Option Value → yS → Prop) → Prop)  (a1 : Int32) (s : yS) (P : Option Value → yS → Prop) : Prop :=
  (0 ≤ a1.toInt ∧ a1.toInt < 200000) ∧ (T 185 [.int (s.2.1 264 a1.toInt.toNat)] s (fun v2 s1 => ∃ x3, v2 = some (.int x3) ∧ ((1000 ≤ x3.toInt → w_220_23 T  a1  s1 P) ∧ (¬ (1000 ≤ x3.toInt) → (-2147483648 ≤ 24 * (s1.1 75).toInt ∧ 24 * (s1.1 75).toInt ≤ 2147483647) ∧ (∀ x4 : Int32, x4.toInt = 24 * (s1.1 75).toInt → (0 ≤ a1.toInt ∧ a1.toInt < 200000) ∧ (T 185 [.int (s1.2.1 264 a1.toInt.toNat)] s1 (fun v6 s5 => ∃ x7, v6 = some (.int x7) ∧ ((-2147483648 ≤ x4.toInt + x7.toInt ∧ x4.toInt + x7.toInt ≤ 2147483647) ∧ (∀ x8 : Int32, x8.toInt = x4.toInt + x7.toInt → (0 ≤ x8.toInt ∧ x8.toInt < 48) ∧ (((s5.2.1 235 x8.toInt.toNat).toInt = 0 → w_220_23 T  a1  s5 P) ∧ (¬ ((s5.2.1 235 x8.toInt.toNat).toInt = 0) → w_220_24 T  a1 1 s5 P)))))))))))
set_option maxRecDepth 20000 in
theorem k_220_0 {d : Nat}  {a1 : Int32} {s : yS} {P : Option Value → yS → Prop}  (h : w_220_0 (Tot d)  a1 s P) : Go d 2 (some .boolean) xE_220 (xE_220.drop 0) [.ref 213, .int a1, .null, .null] [] s P := by
  unfold w_220_0 at h
  refine g_ld rfl rfl rfl ?_
  refine g_get rfl rfl ?_
  change Go _ _ _ _ _ _ [.ref 264] _ _
  refine g_ld rfl rfl rfl ?_
  refine g_ial rfl rfl (i_in (x := a1) rfl h.1) ?_
  change Go _ _ _ _ _ _ [.int (s.2.1 264 a1.toInt.toNat)] _ _
  replace h := h.2
  refine g_call [.int (s.2.1 264 a1.toInt.toNat)] [] rfl rfl rfl (Tot.imp h (fun v2 s1 h => ?_))
  obtain ⟨x3, rfl, h⟩ := h
  change Go _ _ _ _ _ _ [.int x3] _ _
  refine g_c [.int 1000, .int x3] (xo_push (.int 1000)) rfl rfl ?_
  refine g_brP rfl rfl ⟨fun hc => ?_, fun hc => ?_⟩
  · replace h := h.1 ((i_le (x := 1000) (y := x3) (show (1000 : Int32).toInt = 1000 by decide) rfl).mp hc)
    exact k_220_23  h
  · replace h := h.2 (fun q => hc ((i_le (x := 1000) (y := x3) (show (1000 : Int32).toInt = 1000 by decide) rfl).mpr q))
    refine g_ld rfl rfl rfl ?_
    refine g_get rfl rfl ?_
    change Go _ _ _ _ _ _ [.ref 235] _ _
    refine g_c [.int 24, .ref 235] (xo_push (.int 24)) rfl rfl ?_
    refine g_ld rfl rfl rfl ?_
    refine g_get rfl rfl ?_
    change Go _ _ _ _ _ _ [.int (s1.1 75), .int 24, .ref 235] _ _
    have ex4 := i_mul (x := 24) (y := s1.1 75) (show (24 : Int32).toInt = 24 by decide) rfl h.1
    have cx4 := ck_mul (x := 24) (y := s1.1 75) (show (24 : Int32).toInt = 24 by decide) rfl h.1
    replace h := h.2 _ ex4
    refine g_ca [.int (24 * (s1.1 75)), .ref 235] xo_imul rfl rfl (fun _ => cx4) ?_
    refine g_ld rfl rfl rfl ?_
    refine g_get rfl rfl ?_
    change Go _ _ _ _ _ _ [.ref 264, .int (24 * (s1.1 75)), .ref 235] _ _
    refine g_ld rfl rfl rfl ?_
    refine g_ial rfl rfl (i_in (x := a1) rfl h.1) ?_
    change Go _ _ _ _ _ _ [.int (s1.2.1 264 a1.toInt.toNat), .int (24 * (s1.1 75)), .ref 235] _ _
    replace h := h.2
    refine g_call [.int (s1.2.1 264 a1.toInt.toNat)] [.int (24 * (s1.1 75)), .ref 235] rfl rfl rfl (Tot.imp h (fun v6 s5 h => ?_))
    obtain ⟨x7, rfl, h⟩ := h
    change Go _ _ _ _ _ _ [.int x7, .int (24 * (s1.1 75)), .ref 235] _ _
    have ex8 := i_add (x := (24 * (s1.1 75))) (y := x7) rfl rfl h.1
    have cx8 := ck_add (x := (24 * (s1.1 75))) (y := x7) rfl rfl h.1
    replace h := h.2 _ ex8
    refine g_ca [.int ((24 * (s1.1 75)) + x7), .ref 235] xo_iadd rfl rfl (fun _ => cx8) ?_
    refine g_zal rfl rfl (i_in (x := ((24 * (s1.1 75)) + x7)) rfl h.1) ?_
    change Go _ _ _ _ _ _ [.int (s5.2.1 235 ((24 * (s1.1 75)) + x7).toInt.toNat)] _ _
    replace h := h.2
    refine g_brP rfl rfl ⟨fun hc => ?_, fun hc => ?_⟩
    · replace h := h.1 ((i_eq (x := s5.2.1 235 ((24 * (s1.1 75)) + x7).toInt.toNat) (y := 0) rfl (show (0 : Int32).toInt = 0 by decide)).mp hc)
      exact k_220_23  h
    · replace h := h.2 (fun q => hc ((i_eq (x := s5.2.1 235 ((24 * (s1.1 75)) + x7).toInt.toNat) (y := 0) rfl (show (0 : Int32).toInt = 0 by decide)).mpr q))
      refine g_c [.int 1] (xo_push (.int 1)) rfl rfl ?_
      refine g_go rfl ?_
      exact k_220_24  h
theorem t_220 {d : Nat} {a1 : Int32} {s : yS} {P : Option Value → yS → Prop} (h : w_220_0 (Tot d) a1 s P) : Tot (d + 1) 220 [.ref 213, .int a1] s P := tot_of (E := xE_220) (ml := 2) (ret := some .boolean) rfl rfl rfl (k_220_0 h)
/-! typeStruct -/
def w_221_118 (T : Nat → List Value → yS → (Option Value → yS → Prop) → Prop)  (a1 : Int32) (a2 : Int32) (a3 : Int32) (a4 : Int32) (a5 : Int32) (a6 : Int32) (s : yS) (P : Option Value → yS → Prop) : Prop :=
  (-2147483648 ≤ (s.1 70).toInt - 1 ∧ (s.1 70).toInt - 1 ≤ 2147483647) ∧ (∀ x1 : Int32, x1.toInt = (s.1 70).toInt - 1 → ∀ s2, s2 = sf s 70 x1 → (0 ≤ a2.toInt ∧ a2.toInt < 12006) ∧ ((0 ≤ a2.toInt ∧ a2.toInt < 12006) ∧ (T 216 [.ref 213, .int (s2.2.1 231 a2.toInt.toNat), .int (s2.2.1 232 a2.toInt.toNat)] s2 (fun v4 s3 => v4 = none ∧ (P none s3)))))
set_option maxRecDepth 20000 in
theorem k_221_118 {d : Nat}  {a1 : Int32} {a2 : Int32} {a3 : Int32} {a4 : Int32} {a5 : Int32} {a6 : Int32} {s : yS} {P : Option Value → yS → Prop}  (h : w_221_118 (Tot d)  a1 a2 a3 a4 a5 a6 s P) : Go d 7 (none) xE_221 (xE_221.drop 118) [.ref 213, .int a1, .int a2, .int a3, .int a4, .int a5, .int a6, .null, .null] [] s P := by
  unfold w_221_118 at h
  refine g_ld rfl rfl rfl ?_
  refine g_c [.ref 213, .ref 213] xo_dup rfl rfl ?_
  refine g_get rfl rfl ?_
  change Go _ _ _ _ _ _ [.int (s.1 70), .ref 213] _ _
  refine g_c [.int 1, .int (s.1 70), .ref 213] (xo_push (.int 1)) rfl rfl ?_
  have ex1 := i_sub (x := s.1 70) (y := 1) rfl (show (1 : Int32).toInt = 1 by decide) h.1
  have cx1 := ck_sub (x := s.1 70) (y := 1) rfl (show (1 : Int32).toInt = 1 by decide) h.1
  replace h := h.2 _ ex1
  refine g_ca [.int ((s.1 70) - 1), .ref 213] xo_isub rfl rfl (fun _ => cx1) ?_
  refine g_put rfl rfl rfl ?_
  replace h := h _ rfl
  refine g_ld rfl rfl rfl ?_
  refine g_ld rfl rfl rfl ?_
  refine g_get rfl rfl ?_
  change Go _ _ _ _ _ _ [.ref 231, .ref 213] _ _
  refine g_ld rfl rfl rfl ?_
  refine g_ial rfl rfl (i_in (x := a2) rfl h.1) ?_
  change Go _ _ _ _ _ _ [.int ((sf s 70 ((s.1 70) - 1)).2.1 231 a2.toInt.toNat), .ref 213] _ _
  replace h := h.2
  refine g_ld rfl rfl rfl ?_
  refine g_get rfl rfl ?_
  change Go _ _ _ _ _ _ [.ref 232, .int ((sf s 70 ((s.1 70) - 1)).2.1 231 a2.toInt.toNat), .ref 213] _ _
  refine g_ld rfl rfl rfl ?_
  refine g_ial rfl rfl (i_in (x := a2) rfl h.1) ?_
  change Go _ _ _ _ _ _ [.int ((sf s 70 ((s.1 70) - 1)).2.1 232 a2.toInt.toNat), .int ((sf s 70 ((s.1 70) - 1)).2.1 231 a2.toInt.toNat), .ref 213] _ _
  replace h := h.2
  refine g_call [.ref 213, .int ((sf s 70 ((s.1 70) - 1)).2.1 231 a2.toInt.toNat), .int ((sf s 70 ((s.1 70) - 1)).2.1 232 a2.toInt.toNat)] [] rfl rfl rfl (Tot.imp h (fun v4 s3 h => ?_))
  obtain ⟨rfl, h⟩ := h
  change Go _ _ _ _ _ _ [] _ _
  exact g_ret0 rfl h
def w_221_94 (T : Nat → List Value → yS → (Option Value → yS → Prop) → Prop) (R94 : Int32 → Int32 → Int32 → Int32 → Int32 → Int32 → yS → Prop) (a1 : Int32) (a2 : Int32) (a3 : Int32) (a4 : Int32) (a5 : Int32) (a6 : Int32) (s : yS) (P : Option Value → yS → Prop) : Prop :=
  (a6.toInt < 0 → w_221_118 T  a1 a2 a3 a4 a5 a6  s P) ∧ (¬ (a6.toInt < 0) → (¬ ((s.1 8).toInt = 0) → w_221_118 T  a1 a2 a3 a4 a5 a6  s P) ∧ ((s.1 8).toInt = 0 → (-2147483648 ≤ 6 * a3.toInt ∧ 6 * a3.toInt ≤ 2147483647) ∧ (∀ x1 : Int32, x1.toInt = 6 * a3.toInt → (-2147483648 ≤ x1.toInt + a5.toInt ∧ x1.toInt + a5.toInt ≤ 2147483647) ∧ (∀ x2 : Int32, x2.toInt = x1.toInt + a5.toInt → (0 ≤ x2.toInt ∧ x2.toInt < 288) ∧ (T 222 [.ref 213, .int a6, .int (s.2.1 241 x2.toInt.toNat), .int a4] s (fun v4 s3 => v4 = none ∧ ((-2147483648 ≤ a5.toInt + 1 ∧ a5.toInt + 1 ≤ 2147483647) ∧ (∀ x5 : Int32, x5.toInt = a5.toInt + 1 → (0 ≤ a6.toInt ∧ a6.toInt < 12006) ∧ (R94 a1 a2 a3 a4 x5 (s3.2.1 225 a6.toInt.toNat)  s3)))))))))
set_option maxRecDepth 20000 in
theorem k_221_94 {d : Nat} {R94 : Int32 → Int32 → Int32 → Int32 → Int32 → Int32 → yS → Prop} {a1 : Int32} {a2 : Int32} {a3 : Int32} {a4 : Int32} {a5 : Int32} {a6 : Int32} {s : yS} {P : Option Value → yS → Prop} (r94 : ∀ a1 a2 a3 a4 a5 a6 s, R94 a1 a2 a3 a4 a5 a6 s → Go d 7 (none) xE_221 (xE_221.drop 94) [.ref 213, .int a1, .int a2, .int a3, .int a4, .int a5, .int a6, .null, .null] [] s P) (h : w_221_94 (Tot d) R94 a1 a2 a3 a4 a5 a6 s P) : Go d 7 (none) xE_221 (xE_221.drop 94) [.ref 213, .int a1, .int a2, .int a3, .int a4, .int a5, .int a6, .null, .null] [] s P := by
  unfold w_221_94 at h
  refine g_ld rfl rfl rfl ?_
  refine g_brP rfl rfl ⟨fun hc => ?_, fun hc => ?_⟩
  · replace h := h.1 ((i_lt (x := a6) (y := 0) rfl (show (0 : Int32).toInt = 0 by decide)).mp hc)
    exact k_221_118  h
  · replace h := h.2 (fun q => hc ((i_lt (x := a6) (y := 0) rfl (show (0 : Int32).toInt = 0 by decide)).mpr q))
    refine g_ld rfl rfl rfl ?_
    refine g_get rfl rfl ?_
    change Go _ _ _ _ _ _ [.int (s.1 8)] _ _
    refine g_brN rfl rfl ⟨fun hc => ?_, fun hc => ?_⟩
    · replace h := h.1 (fun q => hc ((i_eq (x := s.1 8) (y := 0) rfl (show (0 : Int32).toInt = 0 by decide)).mpr q))
      exact k_221_118  h
    · replace h := h.2 ((i_eq (x := s.1 8) (y := 0) rfl (show (0 : Int32).toInt = 0 by decide)).mp hc)
      refine g_ld rfl rfl rfl ?_
      refine g_ld rfl rfl rfl ?_
      refine g_ld rfl rfl rfl ?_
      refine g_get rfl rfl ?_
      change Go _ _ _ _ _ _ [.ref 241, .int a6, .ref 213] _ _
      refine g_c [.int 6, .ref 241, .int a6, .ref 213] (xo_push (.int 6)) rfl rfl ?_
      refine g_ld rfl rfl rfl ?_
      have ex1 := i_mul (x := 6) (y := a3) (show (6 : Int32).toInt = 6 by decide) rfl h.1
      have cx1 := ck_mul (x := 6) (y := a3) (show (6 : Int32).toInt = 6 by decide) rfl h.1
      replace h := h.2 _ ex1
      refine g_ca [.int (6 * a3), .ref 241, .int a6, .ref 213] xo_imul rfl rfl (fun _ => cx1) ?_
      refine g_ld rfl rfl rfl ?_
      have ex2 := i_add (x := (6 * a3)) (y := a5) rfl rfl h.1
      have cx2 := ck_add (x := (6 * a3)) (y := a5) rfl rfl h.1
      replace h := h.2 _ ex2
      refine g_ca [.int ((6 * a3) + a5), .ref 241, .int a6, .ref 213] xo_iadd rfl rfl (fun _ => cx2) ?_
      refine g_ial rfl rfl (i_in (x := ((6 * a3) + a5)) rfl h.1) ?_
      change Go _ _ _ _ _ _ [.int (s.2.1 241 ((6 * a3) + a5).toInt.toNat), .int a6, .ref 213] _ _
      replace h := h.2
      refine g_ld rfl rfl rfl ?_
      refine g_call [.ref 213, .int a6, .int (s.2.1 241 ((6 * a3) + a5).toInt.toNat), .int a4] [] rfl rfl rfl (Tot.imp h (fun v4 s3 h => ?_))
      obtain ⟨rfl, h⟩ := h
      change Go _ _ _ _ _ _ [] _ _
      have ex5 := i_add (x := a5) (y := 1) rfl (show (1 : Int32).toInt = 1 by decide) h.1
      have cx5 := ck_inc (x := a5) (n := 1) rfl h.1
      replace h := h.2 _ ex5
      refine g_inc [.ref 213, .int a1, .int a2, .int a3, .int a4, .int (a5 + 1), .int a6, .null, .null] rfl rfl rfl rfl cx5 ?_
      refine g_ld rfl rfl rfl ?_
      refine g_get rfl rfl ?_
      change Go _ _ _ _ _ _ [.ref 225] _ _
      refine g_ld rfl rfl rfl ?_
      refine g_ial rfl rfl (i_in (x := a6) rfl h.1) ?_
      change Go _ _ _ _ _ _ [.int (s3.2.1 225 a6.toInt.toNat)] _ _
      replace h := h.2
      refine g_st [.ref 213, .int a1, .int a2, .int a3, .int a4, .int (a5 + 1), .int (s3.2.1 225 a6.toInt.toNat), .null, .null] rfl rfl rfl ?_
      refine g_go rfl ?_
      exact r94 a1 a2 a3 a4 (a5 + 1) (s3.2.1 225 a6.toInt.toNat)  s3 h
def wl_221_94 (T : Nat → List Value → yS → (Option Value → yS → Prop) → Prop)  (a1 : Int32) (a2 : Int32) (a3 : Int32) (a4 : Int32) (a5 : Int32) (a6 : Int32) (s : yS) (P : Option Value → yS → Prop) : Prop :=
  ∃ (I : Int32 → Int32 → Int32 → Int32 → Int32 → Int32 → yS → Prop) (μ : Int32 → Int32 → Int32 → Int32 → Int32 → Int32 → yS → Nat), I a1 a2 a3 a4 a5 a6 s ∧ ∀ (a1 : Int32) (a2 : Int32) (a3 : Int32) (a4 : Int32) (a5 : Int32) (a6 : Int32) (s : yS), I a1 a2 a3 a4 a5 a6 s → w_221_94 T (fun a1' a2' a3' a4' a5' a6' s' => I a1' a2' a3' a4' a5' a6' s' ∧ μ a1' a2' a3' a4' a5' a6' s' < μ a1 a2 a3 a4 a5 a6 s) a1 a2 a3 a4 a5 a6 s P
theorem kl_221_94 {d : Nat}  {a1 : Int32} {a2 : Int32} {a3 : Int32} {a4 : Int32} {a5 : Int32} {a6 : Int32} {s : yS} {P : Option Value → yS → Prop}  (h : wl_221_94 (Tot d)  a1 a2 a3 a4 a5 a6 s P) : Go d 7 (none) xE_221 (xE_221.drop 94) [.ref 213, .int a1, .int a2, .int a3, .int a4, .int a5, .int a6, .null, .null] [] s P := by
  obtain ⟨I, μ, h0, h1⟩ := h
  have key : ∀ (n : Nat) (a1 : Int32) (a2 : Int32) (a3 : Int32) (a4 : Int32) (a5 : Int32) (a6 : Int32) (s : yS), μ a1 a2 a3 a4 a5 a6 s = n → I a1 a2 a3 a4 a5 a6 s → Go d 7 (none) xE_221 (xE_221.drop 94) [.ref 213, .int a1, .int a2, .int a3, .int a4, .int a5, .int a6, .null, .null] [] s P := by
    intro n
    induction n using Nat.strongRecOn with
    | ind n ih =>
      intro a1 a2 a3 a4 a5 a6 s e hI
      exact k_221_94 (fun a1' a2' a3' a4' a5' a6' s' q => ih _ (by rw [← e]; exact q.2) _ _ _ _ _ _ _ rfl q.1) (h1 a1 a2 a3 a4 a5 a6 s hI)
  exact key _ a1 a2 a3 a4 a5 a6 s rfl h0
def w_221_64 (T : Nat → List Value → yS → (Option Value → yS → Prop) → Prop)  (a1 : Int32) (a2 : Int32) (a3 : Int32) (s : yS) (P : Option Value → yS → Prop) : Prop :=
  T 188 [.ref 213] s (fun v2 s1 => ∃ x3, v2 = some (.int x3) ∧ ((0 ≤ a2.toInt ∧ a2.toInt < 12006) ∧ ((0 ≤ (s1.2.1 231 a2.toInt.toNat).toInt ∧ (s1.2.1 231 a2.toInt.toNat).toInt < 200000) ∧ (T 185 [.int (s1.2.1 264 (s1.2.1 231 a2.toInt.toNat).toInt.toNat)] s1 (fun v5 s4 => ∃ x6, v5 = some (.int x6) ∧ ((-2147483648 ≤ 6 * x6.toInt ∧ 6 * x6.toInt ≤ 2147483647) ∧ (∀ x7 : Int32, x7.toInt = 6 * x6.toInt → (-2147483648 ≤ 1000 + x7.toInt ∧ 1000 + x7.toInt ≤ 2147483647) ∧ (∀ x8 : Int32, x8.toInt = 1000 + x7.toInt → (0 ≤ a2.toInt ∧ a2.toInt < 12006) ∧ (T 189 [.ref 213, .int x3, .int 0, .int x8, .int (s4.2.1 231 a2.toInt.toNat)] s4 (fun v10 s9 => v10 = none ∧ ((0 ≤ a1.toInt ∧ a1.toInt < 12006) ∧ (wl_221_94 T  a1 a2 a3 x3 0 (s9.2.1 224 a1.toInt.toNat)  s9 P))))))))))))
set_option maxRecDepth 20000 in
theorem k_221_64 {d : Nat}  {a1 : Int32} {a2 : Int32} {a3 : Int32} {s : yS} {P : Option Value → yS → Prop}  (h : w_221_64 (Tot d)  a1 a2 a3 s P) : Go d 7 (none) xE_221 (xE_221.drop 64) [.ref 213, .int a1, .int a2, .int a3, .null, .null, .null, .null, .null] [] s P := by
  unfold w_221_64 at h
  refine g_ld rfl rfl rfl ?_
  refine g_call [.ref 213] [] rfl rfl rfl (Tot.imp h (fun v2 s1 h => ?_))
  obtain ⟨x3, rfl, h⟩ := h
  change Go _ _ _ _ _ _ [.int x3] _ _
  refine g_st [.ref 213, .int a1, .int a2, .int a3, .int x3, .null, .null, .null, .null] rfl rfl rfl ?_
  refine g_ld rfl rfl rfl ?_
  refine g_ld rfl rfl rfl ?_
  refine g_c [.int 0, .int x3, .ref 213] (xo_push (.int 0)) rfl rfl ?_
  refine g_c [.int 1000, .int 0, .int x3, .ref 213] (xo_push (.int 1000)) rfl rfl ?_
  refine g_c [.int 6, .int 1000, .int 0, .int x3, .ref 213] (xo_push (.int 6)) rfl rfl ?_
  refine g_ld rfl rfl rfl ?_
  refine g_get rfl rfl ?_
  change Go _ _ _ _ _ _ [.ref 264, .int 6, .int 1000, .int 0, .int x3, .ref 213] _ _
  refine g_ld rfl rfl rfl ?_
  refine g_get rfl rfl ?_
  change Go _ _ _ _ _ _ [.ref 231, .ref 264, .int 6, .int 1000, .int 0, .int x3, .ref 213] _ _
  refine g_ld rfl rfl rfl ?_
  refine g_ial rfl rfl (i_in (x := a2) rfl h.1) ?_
  change Go _ _ _ _ _ _ [.int (s1.2.1 231 a2.toInt.toNat), .ref 264, .int 6, .int 1000, .int 0, .int x3, .ref 213] _ _
  replace h := h.2
  refine g_ial rfl rfl (i_in (x := s1.2.1 231 a2.toInt.toNat) rfl h.1) ?_
  change Go _ _ _ _ _ _ [.int (s1.2.1 264 (s1.2.1 231 a2.toInt.toNat).toInt.toNat), .int 6, .int 1000, .int 0, .int x3, .ref 213] _ _
  replace h := h.2
  refine g_call [.int (s1.2.1 264 (s1.2.1 231 a2.toInt.toNat).toInt.toNat)] [.int 6, .int 1000, .int 0, .int x3, .ref 213] rfl rfl rfl (Tot.imp h (fun v5 s4 h => ?_))
  obtain ⟨x6, rfl, h⟩ := h
  change Go _ _ _ _ _ _ [.int x6, .int 6, .int 1000, .int 0, .int x3, .ref 213] _ _
  have ex7 := i_mul (x := 6) (y := x6) (show (6 : Int32).toInt = 6 by decide) rfl h.1
  have cx7 := ck_mul (x := 6) (y := x6) (show (6 : Int32).toInt = 6 by decide) rfl h.1
  replace h := h.2 _ ex7
  refine g_ca [.int (6 * x6), .int 1000, .int 0, .int x3, .ref 213] xo_imul rfl rfl (fun _ => cx7) ?_
  have ex8 := i_add (x := 1000) (y := (6 * x6)) (show (1000 : Int32).toInt = 1000 by decide) rfl h.1
  have cx8 := ck_add (x := 1000) (y := (6 * x6)) (show (1000 : Int32).toInt = 1000 by decide) rfl h.1
  replace h := h.2 _ ex8
  refine g_ca [.int (1000 + (6 * x6)), .int 0, .int x3, .ref 213] xo_iadd rfl rfl (fun _ => cx8) ?_
  refine g_ld rfl rfl rfl ?_
  refine g_get rfl rfl ?_
  change Go _ _ _ _ _ _ [.ref 231, .int (1000 + (6 * x6)), .int 0, .int x3, .ref 213] _ _
  refine g_ld rfl rfl rfl ?_
  refine g_ial rfl rfl (i_in (x := a2) rfl h.1) ?_
  change Go _ _ _ _ _ _ [.int (s4.2.1 231 a2.toInt.toNat), .int (1000 + (6 * x6)), .int 0, .int x3, .ref 213] _ _
  replace h := h.2
  refine g_call [.ref 213, .int x3, .int 0, .int (1000 + (6 * x6)), .int (s4.2.1 231 a2.toInt.toNat)] [] rfl rfl rfl (Tot.imp h (fun v10 s9 h => ?_))
  obtain ⟨rfl, h⟩ := h
  change Go _ _ _ _ _ _ [] _ _
  refine g_c [.int 0] (xo_push (.int 0)) rfl rfl ?_
  refine g_st [.ref 213, .int a1, .int a2, .int a3, .int x3, .int 0, .null, .null, .null] rfl rfl rfl ?_
  refine g_ld rfl rfl rfl ?_
  refine g_get rfl rfl ?_
  change Go _ _ _ _ _ _ [.ref 224] _ _
  refine g_ld rfl rfl rfl ?_
  refine g_ial rfl rfl (i_in (x := a1) rfl h.1) ?_
  change Go _ _ _ _ _ _ [.int (s9.2.1 224 a1.toInt.toNat)] _ _
  replace h := h.2
  refine g_st [.ref 213, .int a1, .int a2, .int a3, .int x3, .int 0, .int (s9.2.1 224 a1.toInt.toNat), .null, .null] rfl rfl rfl ?_
  exact kl_221_94  h
def w_221_15 (T : Nat → List Value → yS → (Option Value → yS → Prop) → Prop)  (a1 : Int32) (a2 : Int32) (s : yS) (P : Option Value → yS → Prop) : Prop :=
  ((s.1 8).toInt ≤ 0 → (-2147483648 ≤ 24 * (s.1 75).toInt ∧ 24 * (s.1 75).toInt ≤ 2147483647) ∧ (∀ x1 : Int32, x1.toInt = 24 * (s.1 75).toInt → (0 ≤ a2.toInt ∧ a2.toInt < 12006) ∧ ((0 ≤ (s.2.1 231 a2.toInt.toNat).toInt ∧ (s.2.1 231 a2.toInt.toNat).toInt < 200000) ∧ (T 185 [.int (s.2.1 264 (s.2.1 231 a2.toInt.toNat).toInt.toNat)] s (fun v3 s2 => ∃ x4, v3 = some (.int x4) ∧ ((-2147483648 ≤ x1.toInt + x4.toInt ∧ x1.toInt + x4.toInt ≤ 2147483647) ∧ (∀ x5 : Int32, x5.toInt = x1.toInt + x4.toInt → (0 ≤ a2.toInt ∧ a2.toInt < 12006) ∧ (T 220 [.ref 213, .int (s2.2.1 231 a2.toInt.toNat)] s2 (fun v7 s6 => ∃ x8, v7 = some (.int x8) ∧ ((¬ (x8.toInt = 0) → (0 ≤ a1.toInt ∧ a1.toInt < 12006) ∧ ((0 ≤ x5.toInt ∧ x5.toInt < 48) ∧ (((s6.2.1 226 a1.toInt.toNat).toInt = (s6.2.1 239 x5.toInt.toNat).toInt → w_221_64 T  a1 a2 x5  s6 P) ∧ (¬ ((s6.2.1 226 a1.toInt.toNat).toInt = (s6.2.1 239 x5.toInt.toNat).toInt) → (0 ≤ a2.toInt ∧ a2.toInt < 12006) ∧ (T 163 [.ref 213, .int 4, .int (s6.2.1 222 a2.toInt.toNat)] s6 (fun v10 s9 => v10 = none ∧ (w_221_64 T  a1 a2 x5  s9 P))))))) ∧ (x8.toInt = 0 → (0 ≤ a2.toInt ∧ a2.toInt < 12006) ∧ (T 163 [.ref 213, .int 6, .int (s6.2.1 222 a2.toInt.toNat)] s6 (fun v12 s11 => v12 = none ∧ (P none s11)))))))))))))) ∧ (¬ ((s.1 8).toInt ≤ 0) → P none s)
set_option maxRecDepth 20000 in
theorem k_221_15 {d : Nat}  {a1 : Int32} {a2 : Int32} {s : yS} {P : Option Value → yS → Prop}  (h : w_221_15 (Tot d)  a1 a2 s P) : Go d 7 (none) xE_221 (xE_221.drop 15) [.ref 213, .int a1, .int a2, .null, .null, .null, .null, .null, .null] [] s P := by
  unfold w_221_15 at h
  refine g_ld rfl rfl rfl ?_
  refine g_get rfl rfl ?_
  change Go _ _ _ _ _ _ [.int (s.1 8)] _ _
  refine g_brP rfl rfl ⟨fun hc => ?_, fun hc => ?_⟩
  · replace h := h.1 ((i_le (x := s.1 8) (y := 0) rfl (show (0 : Int32).toInt = 0 by decide)).mp hc)
    refine g_c [.int 24] (xo_push (.int 24)) rfl rfl ?_
    refine g_ld rfl rfl rfl ?_
    refine g_get rfl rfl ?_
    change Go _ _ _ _ _ _ [.int (s.1 75), .int 24] _ _
    have ex1 := i_mul (x := 24) (y := s.1 75) (show (24 : Int32).toInt = 24 by decide) rfl h.1
    have cx1 := ck_mul (x := 24) (y := s.1 75) (show (24 : Int32).toInt = 24 by decide) rfl h.1
    replace h := h.2 _ ex1
    refine g_ca [.int (24 * (s.1 75))] xo_imul rfl rfl (fun _ => cx1) ?_
    refine g_ld rfl rfl rfl ?_
    refine g_get rfl rfl ?_
    change Go _ _ _ _ _ _ [.ref 264, .int (24 * (s.1 75))] _ _
    refine g_ld rfl rfl rfl ?_
    refine g_get rfl rfl ?_
    change Go _ _ _ _ _ _ [.ref 231, .ref 264, .int (24 * (s.1 75))] _ _
    refine g_ld rfl rfl rfl ?_
    refine g_ial rfl rfl (i_in (x := a2) rfl h.1) ?_
    change Go _ _ _ _ _ _ [.int (s.2.1 231 a2.toInt.toNat), .ref 264, .int (24 * (s.1 75))] _ _
    replace h := h.2
    refine g_ial rfl rfl (i_in (x := s.2.1 231 a2.toInt.toNat) rfl h.1) ?_
    change Go _ _ _ _ _ _ [.int (s.2.1 264 (s.2.1 231 a2.toInt.toNat).toInt.toNat), .int (24 * (s.1 75))] _ _
    replace h := h.2
    refine g_call [.int (s.2.1 264 (s.2.1 231 a2.toInt.toNat).toInt.toNat)] [.int (24 * (s.1 75))] rfl rfl rfl (Tot.imp h (fun v3 s2 h => ?_))
    obtain ⟨x4, rfl, h⟩ := h
    change Go _ _ _ _ _ _ [.int x4, .int (24 * (s.1 75))] _ _
    have ex5 := i_add (x := (24 * (s.1 75))) (y := x4) rfl rfl h.1
    have cx5 := ck_add (x := (24 * (s.1 75))) (y := x4) rfl rfl h.1
    replace h := h.2 _ ex5
    refine g_ca [.int ((24 * (s.1 75)) + x4)] xo_iadd rfl rfl (fun _ => cx5) ?_
    refine g_st [.ref 213, .int a1, .int a2, .int ((24 * (s.1 75)) + x4), .null, .null, .null, .null, .null] rfl rfl rfl ?_
    refine g_ld rfl rfl rfl ?_
    refine g_ld rfl rfl rfl ?_
    refine g_get rfl rfl ?_
    change Go _ _ _ _ _ _ [.ref 231, .ref 213] _ _
    refine g_ld rfl rfl rfl ?_
    refine g_ial rfl rfl (i_in (x := a2) rfl h.1) ?_
    change Go _ _ _ _ _ _ [.int (s2.2.1 231 a2.toInt.toNat), .ref 213] _ _
    replace h := h.2
    refine g_call [.ref 213, .int (s2.2.1 231 a2.toInt.toNat)] [] rfl rfl rfl (Tot.imp h (fun v7 s6 h => ?_))
    obtain ⟨x8, rfl, h⟩ := h
    change Go _ _ _ _ _ _ [.int x8] _ _
    refine g_brN rfl rfl ⟨fun hc => ?_, fun hc => ?_⟩
    · replace h := h.1 (fun q => hc ((i_eq (x := x8) (y := 0) rfl (show (0 : Int32).toInt = 0 by decide)).mpr q))
      refine g_ld rfl rfl rfl ?_
      refine g_get rfl rfl ?_
      change Go _ _ _ _ _ _ [.ref 226] _ _
      refine g_ld rfl rfl rfl ?_
      refine g_ial rfl rfl (i_in (x := a1) rfl h.1) ?_
      change Go _ _ _ _ _ _ [.int (s6.2.1 226 a1.toInt.toNat)] _ _
      replace h := h.2
      refine g_ld rfl rfl rfl ?_
      refine g_get rfl rfl ?_
      change Go _ _ _ _ _ _ [.ref 239, .int (s6.2.1 226 a1.toInt.toNat)] _ _
      refine g_ld rfl rfl rfl ?_
      refine g_ial rfl rfl (i_in (x := ((24 * (s.1 75)) + x4)) rfl h.1) ?_
      change Go _ _ _ _ _ _ [.int (s6.2.1 239 ((24 * (s.1 75)) + x4).toInt.toNat), .int (s6.2.1 226 a1.toInt.toNat)] _ _
      replace h := h.2
      refine g_brP rfl rfl ⟨fun hc => ?_, fun hc => ?_⟩
      · replace h := h.1 ((i_eq (x := s6.2.1 226 a1.toInt.toNat) (y := s6.2.1 239 ((24 * (s.1 75)) + x4).toInt.toNat) rfl rfl).mp hc)
        exact k_221_64  h
      · replace h := h.2 (fun q => hc ((i_eq (x := s6.2.1 226 a1.toInt.toNat) (y := s6.2.1 239 ((24 * (s.1 75)) + x4).toInt.toNat) rfl rfl).mpr q))
        refine g_ld rfl rfl rfl ?_
        refine g_c [.int 4, .ref 213] (xo_push (.int 4)) rfl rfl ?_
        refine g_ld rfl rfl rfl ?_
        refine g_get rfl rfl ?_
        change Go _ _ _ _ _ _ [.ref 222, .int 4, .ref 213] _ _
        refine g_ld rfl rfl rfl ?_
        refine g_ial rfl rfl (i_in (x := a2) rfl h.1) ?_
        change Go _ _ _ _ _ _ [.int (s6.2.1 222 a2.toInt.toNat), .int 4, .ref 213] _ _
        replace h := h.2
        refine g_call [.ref 213, .int 4, .int (s6.2.1 222 a2.toInt.toNat)] [] rfl rfl rfl (Tot.imp h (fun v10 s9 h => ?_))
        obtain ⟨rfl, h⟩ := h
        change Go _ _ _ _ _ _ [] _ _
        exact k_221_64  h
    · replace h := h.2 ((i_eq (x := x8) (y := 0) rfl (show (0 : Int32).toInt = 0 by decide)).mp hc)
      refine g_ld rfl rfl rfl ?_
      refine g_c [.int 6, .ref 213] (xo_push (.int 6)) rfl rfl ?_
      refine g_ld rfl rfl rfl ?_
      refine g_get rfl rfl ?_
      change Go _ _ _ _ _ _ [.ref 222, .int 6, .ref 213] _ _
      refine g_ld rfl rfl rfl ?_
      refine g_ial rfl rfl (i_in (x := a2) rfl h.1) ?_
      change Go _ _ _ _ _ _ [.int (s6.2.1 222 a2.toInt.toNat), .int 6, .ref 213] _ _
      replace h := h.2
      refine g_call [.ref 213, .int 6, .int (s6.2.1 222 a2.toInt.toNat)] [] rfl rfl rfl (Tot.imp h (fun v12 s11 h => ?_))
      obtain ⟨rfl, h⟩ := h
      change Go _ _ _ _ _ _ [] _ _
      exact g_ret0 rfl h
  · replace h := h.2 (fun q => hc ((i_le (x := s.1 8) (y := 0) rfl (show (0 : Int32).toInt = 0 by decide)).mpr q))
    exact g_ret0 rfl h
def w_221_0 (T : Nat → List Value → yS → (Option Value → yS → Prop) → Prop)  (a1 : Int32) (s : yS) (P : Option Value → yS → Prop) : Prop :=
  (0 ≤ a1.toInt ∧ a1.toInt < 12006) ∧ (T 204 [.ref 213, .int (s.2.1 229 a1.toInt.toNat), .int 0] s (fun v2 s1 => v2 = none ∧ ((¬ ((s1.1 8).toInt = 0) → w_221_15 T  a1 (s.2.1 229 a1.toInt.toNat)  s1 P) ∧ ((s1.1 8).toInt = 0 → T 211 [.ref 213, .int (s.2.1 229 a1.toInt.toNat)] s1 (fun v4 s3 => v4 = none ∧ (w_221_15 T  a1 (s.2.1 229 a1.toInt.toNat)  s3 P))))))
set_option maxRecDepth 20000 in
theorem k_221_0 {d : Nat}  {a1 : Int32} {s : yS} {P : Option Value → yS → Prop}  (h : w_221_0 (Tot d)  a1 s P) : Go d 7 (none) xE_221 (xE_221.drop 0) [.ref 213, .int a1, .null, .null, .null, .null, .null, .null, .null] [] s P := by
  unfold w_221_0 at h
  refine g_ld rfl rfl rfl ?_
  refine g_get rfl rfl ?_
  change Go _ _ _ _ _ _ [.ref 229] _ _
  refine g_ld rfl rfl rfl ?_
  refine g_ial rfl rfl (i_in (x := a1) rfl h.1) ?_
  change Go _ _ _ _ _ _ [.int (s.2.1 229 a1.toInt.toNat)] _ _
  replace h := h.2
  refine g_st [.ref 213, .int a1, .int (s.2.1 229 a1.toInt.toNat), .null, .null, .null, .null, .null, .null] rfl rfl rfl ?_
  refine g_ld rfl rfl rfl ?_
  refine g_ld rfl rfl rfl ?_
  refine g_c [.int 0, .int (s.2.1 229 a1.toInt.toNat), .ref 213] (xo_push (.int 0)) rfl rfl ?_
  refine g_call [.ref 213, .int (s.2.1 229 a1.toInt.toNat), .int 0] [] rfl rfl rfl (Tot.imp h (fun v2 s1 h => ?_))
  obtain ⟨rfl, h⟩ := h
  change Go _ _ _ _ _ _ [] _ _
  refine g_ld rfl rfl rfl ?_
  refine g_get rfl rfl ?_
  change Go _ _ _ _ _ _ [.int (s1.1 8)] _ _
  refine g_brN rfl rfl ⟨fun hc => ?_, fun hc => ?_⟩
  · replace h := h.1 (fun q => hc ((i_eq (x := s1.1 8) (y := 0) rfl (show (0 : Int32).toInt = 0 by decide)).mpr q))
    exact k_221_15  h
  · replace h := h.2 ((i_eq (x := s1.1 8) (y := 0) rfl (show (0 : Int32).toInt = 0 by decide)).mp hc)
    refine g_ld rfl rfl rfl ?_
    refine g_ld rfl rfl rfl ?_
    refine g_call [.ref 213, .int (s.2.1 229 a1.toInt.toNat)] [] rfl rfl rfl (Tot.imp h (fun v4 s3 h => ?_))
    obtain ⟨rfl, h⟩ := h
    change Go _ _ _ _ _ _ [] _ _
    exact k_221_15  h
theorem t_221 {d : Nat} {a1 : Int32} {s : yS} {P : Option Value → yS → Prop} (h : w_221_0 (Tot d) a1 s P) : Tot (d + 1) 221 [.ref 213, .int a1] s P := tot_of (E := xE_221) (ml := 7) (ret := none) rfl rfl rfl (k_221_0 h)
/-! takes -/
def w_222_20 (T : Nat → List Value → yS → (Option Value → yS → Prop) → Prop)  (a1 : Int32) (a2 : Int32) (a3 : Int32) (a4 : Int32) (s : yS) (P : Option Value → yS → Prop) : Prop :=
  ∀ s1, s1 = sf s 64 a4 → P none s1
set_option maxRecDepth 20000 in
theorem k_222_20 {d : Nat}  {a1 : Int32} {a2 : Int32} {a3 : Int32} {a4 : Int32} {s : yS} {P : Option Value → yS → Prop}  (h : w_222_20 (Tot d)  a1 a2 a3 a4 s P) : Go d 5 (none) xE_222 (xE_222.drop 20) [.ref 213, .int a1, .int a2, .int a3, .int a4, .null, .null, .null, .null] [] s P := by
  unfold w_222_20 at h
  refine g_ld rfl rfl rfl ?_
  refine g_ld rfl rfl rfl ?_
  refine g_put rfl rfl rfl ?_
  replace h := h _ rfl
  exact g_ret0 rfl h
def w_222_0 (T : Nat → List Value → yS → (Option Value → yS → Prop) → Prop)  (a1 : Int32) (a2 : Int32) (a3 : Int32) (s : yS) (P : Option Value → yS → Prop) : Prop :=
  T 217 [.ref 213, .int a1] s (fun v2 s1 => v2 = none ∧ ((¬ ((s1.1 8).toInt = 0) → w_222_20 T  a1 a2 a3 (s.1 64)  s1 P) ∧ ((s1.1 8).toInt = 0 → T 178 [.ref 213, .int a1] s1 (fun v4 s3 => ∃ x5, v4 = some (.int x5) ∧ (T 212 [.ref 213, .int (s1.1 80), .int (s1.1 81), .int a2, .int a3, .int x5] s3 (fun v7 s6 => v7 = none ∧ (w_222_20 T  a1 a2 a3 (s.1 64)  s6 P)))))))
set_option maxRecDepth 20000 in
theorem k_222_0 {d : Nat}  {a1 : Int32} {a2 : Int32} {a3 : Int32} {s : yS} {P : Option Value → yS → Prop}  (h : w_222_0 (Tot d)  a1 a2 a3 s P) : Go d 5 (none) xE_222 (xE_222.drop 0) [.ref 213, .int a1, .int a2, .int a3, .null, .null, .null, .null, .null] [] s P := by
  unfold w_222_0 at h
  refine g_ld rfl rfl rfl ?_
  refine g_get rfl rfl ?_
  change Go _ _ _ _ _ _ [.int (s.1 64)] _ _
  refine g_st [.ref 213, .int a1, .int a2, .int a3, .int (s.1 64), .null, .null, .null, .null] rfl rfl rfl ?_
  refine g_ld rfl rfl rfl ?_
  refine g_ld rfl rfl rfl ?_
  refine g_call [.ref 213, .int a1] [] rfl rfl rfl (Tot.imp h (fun v2 s1 h => ?_))
  obtain ⟨rfl, h⟩ := h
  change Go _ _ _ _ _ _ [] _ _
  refine g_ld rfl rfl rfl ?_
  refine g_get rfl rfl ?_
  change Go _ _ _ _ _ _ [.int (s1.1 8)] _ _
  refine g_brN rfl rfl ⟨fun hc => ?_, fun hc => ?_⟩
  · replace h := h.1 (fun q => hc ((i_eq (x := s1.1 8) (y := 0) rfl (show (0 : Int32).toInt = 0 by decide)).mpr q))
    exact k_222_20  h
  · replace h := h.2 ((i_eq (x := s1.1 8) (y := 0) rfl (show (0 : Int32).toInt = 0 by decide)).mp hc)
    refine g_ld rfl rfl rfl ?_
    refine g_ld rfl rfl rfl ?_
    refine g_get rfl rfl ?_
    change Go _ _ _ _ _ _ [.int (s1.1 80), .ref 213] _ _
    refine g_ld rfl rfl rfl ?_
    refine g_get rfl rfl ?_
    change Go _ _ _ _ _ _ [.int (s1.1 81), .int (s1.1 80), .ref 213] _ _
    refine g_ld rfl rfl rfl ?_
    refine g_ld rfl rfl rfl ?_
    refine g_ld rfl rfl rfl ?_
    refine g_ld rfl rfl rfl ?_
    refine g_call [.ref 213, .int a1] [.int a3, .int a2, .int (s1.1 81), .int (s1.1 80), .ref 213] rfl rfl rfl (Tot.imp h (fun v4 s3 h => ?_))
    obtain ⟨x5, rfl, h⟩ := h
    change Go _ _ _ _ _ _ [.int x5, .int a3, .int a2, .int (s1.1 81), .int (s1.1 80), .ref 213] _ _
    refine g_call [.ref 213, .int (s1.1 80), .int (s1.1 81), .int a2, .int a3, .int x5] [] rfl rfl rfl (Tot.imp h (fun v7 s6 h => ?_))
    obtain ⟨rfl, h⟩ := h
    change Go _ _ _ _ _ _ [] _ _
    exact k_222_20  h
theorem t_222 {d : Nat} {a1 : Int32} {a2 : Int32} {a3 : Int32} {s : yS} {P : Option Value → yS → Prop} (h : w_222_0 (Tot d) a1 a2 a3 s P) : Tot (d + 1) 222 [.ref 213, .int a1, .int a2, .int a3] s P := tot_of (E := xE_222) (ml := 5) (ret := none) rfl rfl rfl (k_222_0 h)
/-! typeField -/
def w_223_98 (T : Nat → List Value → yS → (Option Value → yS → Prop) → Prop)  (a1 : Int32) (a2 : Int32) (a3 : Int32) (a4 : Int32) (s : yS) (P : Option Value → yS → Prop) : Prop :=
  P none s
set_option maxRecDepth 20000 in
theorem k_223_98 {d : Nat}  {a1 : Int32} {a2 : Int32} {a3 : Int32} {a4 : Int32} {s : yS} {P : Option Value → yS → Prop}  (h : w_223_98 (Tot d)  a1 a2 a3 a4 s P) : Go d 5 (none) xE_223 (xE_223.drop 98) [.ref 213, .int a1, .int a2, .int a3, .int a4, .null, .null] [] s P := by
  unfold w_223_98 at h
  exact g_ret0 rfl h
def w_223_67 (T : Nat → List Value → yS → (Option Value → yS → Prop) → Prop) (R39 : Int32 → Int32 → Int32 → Int32 → yS → Prop) (a1 : Int32) (a2 : Int32) (a3 : Int32) (a4 : Int32) (t0 : Int32) (s : yS) (P : Option Value → yS → Prop) : Prop :=
  (-2147483648 ≤ a4.toInt + 1 ∧ a4.toInt + 1 ≤ 2147483647) ∧ (∀ x1 : Int32, x1.toInt = a4.toInt + 1 → R39 a1 a2 t0 x1  s)
set_option maxRecDepth 20000 in
theorem k_223_67 {d : Nat} {R39 : Int32 → Int32 → Int32 → Int32 → yS → Prop} {a1 : Int32} {a2 : Int32} {a3 : Int32} {a4 : Int32} {t0 : Int32} {s : yS} {P : Option Value → yS → Prop} (r39 : ∀ a1 a2 a3 a4 s, R39 a1 a2 a3 a4 s → Go d 5 (none) xE_223 (xE_223.drop 39) [.ref 213, .int a1, .int a2, .int a3, .int a4, .null, .null] [] s P) (h : w_223_67 (Tot d) R39 a1 a2 a3 a4 t0 s P) : Go d 5 (none) xE_223 (xE_223.drop 67) [.ref 213, .int a1, .int a2, .int a3, .int a4, .null, .null] [.int t0] s P := by
  unfold w_223_67 at h
  refine g_st [.ref 213, .int a1, .int a2, .int t0, .int a4, .null, .null] rfl rfl rfl ?_
  have ex1 := i_add (x := a4) (y := 1) rfl (show (1 : Int32).toInt = 1 by decide) h.1
  have cx1 := ck_inc (x := a4) (n := 1) rfl h.1
  replace h := h.2 _ ex1
  refine g_inc [.ref 213, .int a1, .int a2, .int t0, .int (a4 + 1), .null, .null] rfl rfl rfl rfl cx1 ?_
  refine g_go rfl ?_
  exact r39 a1 a2 t0 (a4 + 1)  s h
def w_223_39 (T : Nat → List Value → yS → (Option Value → yS → Prop) → Prop) (R39 : Int32 → Int32 → Int32 → Int32 → yS → Prop) (a1 : Int32) (a2 : Int32) (a3 : Int32) (a4 : Int32) (s : yS) (P : Option Value → yS → Prop) : Prop :=
  (0 ≤ a2.toInt ∧ a2.toInt < 48) ∧ (((s.2.1 239 a2.toInt.toNat).toInt ≤ a4.toInt → (0 ≤ a3.toInt → (0 ≤ a1.toInt ∧ a1.toInt < 12006) ∧ (∀ s1, s1 = sa s 226 a1.toInt.toNat a3 → T 224 [.ref 213, .int (s1.1 80), .int a3] s1 (fun v3 s2 => ∃ x4, v3 = some (.int x4) ∧ ((¬ (x4.toInt = 0) → w_223_98 T  a1 a2 a3 a4  s2 P) ∧ (x4.toInt = 0 → (0 ≤ a1.toInt ∧ a1.toInt < 12006) ∧ (T 163 [.ref 213, .int 9, .int (s2.2.1 222 a1.toInt.toNat)] s2 (fun v6 s5 => v6 = none ∧ (w_223_98 T  a1 a2 a3 a4  s5 P)))))))) ∧ (¬ (0 ≤ a3.toInt) → (0 ≤ a1.toInt ∧ a1.toInt < 12006) ∧ (T 163 [.ref 213, .int 2, .int (s.2.1 222 a1.toInt.toNat)] s (fun v8 s7 => v8 = none ∧ (P none s7))))) ∧ (¬ ((s.2.1 239 a2.toInt.toNat).toInt ≤ a4.toInt) → (-2147483648 ≤ 6 * a2.toInt ∧ 6 * a2.toInt ≤ 2147483647) ∧ (∀ x9 : Int32, x9.toInt = 6 * a2.toInt → (-2147483648 ≤ x9.toInt + a4.toInt ∧ x9.toInt + a4.toInt ≤ 2147483647) ∧ (∀ x10 : Int32, x10.toInt = x9.toInt + a4.toInt → (0 ≤ x10.toInt ∧ x10.toInt < 288) ∧ ((0 ≤ (s.2.1 240 x10.toInt.toNat).toInt ∧ (s.2.1 240 x10.toInt.toNat).toInt < 12006) ∧ ((0 ≤ a1.toInt ∧ a1.toInt < 12006) ∧ ((0 ≤ (s.2.1 222 a1.toInt.toNat).toInt ∧ (s.2.1 222 a1.toInt.toNat).toInt < 12006) ∧ ((¬ ((s.2.1 217 (s.2.1 240 x10.toInt.toNat).toInt.toNat).toInt = (s.2.1 217 (s.2.1 222 a1.toInt.toNat).toInt.toNat).toInt) → w_223_67 T R39 a1 a2 a3 a4 a3 s P) ∧ ((s.2.1 217 (s.2.1 240 x10.toInt.toNat).toInt.toNat).toInt = (s.2.1 217 (s.2.1 222 a1.toInt.toNat).toInt.toNat).toInt → w_223_67 T R39 a1 a2 a3 a4 a4 s P)))))))))
set_option maxRecDepth 20000 in
theorem k_223_39 {d : Nat} {R39 : Int32 → Int32 → Int32 → Int32 → yS → Prop} {a1 : Int32} {a2 : Int32} {a3 : Int32} {a4 : Int32} {s : yS} {P : Option Value → yS → Prop} (r39 : ∀ a1 a2 a3 a4 s, R39 a1 a2 a3 a4 s → Go d 5 (none) xE_223 (xE_223.drop 39) [.ref 213, .int a1, .int a2, .int a3, .int a4, .null, .null] [] s P) (h : w_223_39 (Tot d) R39 a1 a2 a3 a4 s P) : Go d 5 (none) xE_223 (xE_223.drop 39) [.ref 213, .int a1, .int a2, .int a3, .int a4, .null, .null] [] s P := by
  unfold w_223_39 at h
  refine g_ld rfl rfl rfl ?_
  refine g_ld rfl rfl rfl ?_
  refine g_get rfl rfl ?_
  change Go _ _ _ _ _ _ [.ref 239, .int a4] _ _
  refine g_ld rfl rfl rfl ?_
  refine g_ial rfl rfl (i_in (x := a2) rfl h.1) ?_
  change Go _ _ _ _ _ _ [.int (s.2.1 239 a2.toInt.toNat), .int a4] _ _
  replace h := h.2
  refine g_brP rfl rfl ⟨fun hc => ?_, fun hc => ?_⟩
  · replace h := h.1 ((i_le (x := s.2.1 239 a2.toInt.toNat) (y := a4) rfl rfl).mp hc)
    refine g_ld rfl rfl rfl ?_
    refine g_brP rfl rfl ⟨fun hc => ?_, fun hc => ?_⟩
    · replace h := h.1 ((i_le (x := 0) (y := a3) (show (0 : Int32).toInt = 0 by decide) rfl).mp hc)
      refine g_ld rfl rfl rfl ?_
      refine g_get rfl rfl ?_
      change Go _ _ _ _ _ _ [.ref 226] _ _
      refine g_ld rfl rfl rfl ?_
      refine g_ld rfl rfl rfl ?_
      refine g_ias rfl rfl (i_in (x := a1) rfl h.1) ?_
      replace h := h.2
      replace h := h _ rfl
      refine g_ld rfl rfl rfl ?_
      refine g_ld rfl rfl rfl ?_
      refine g_get rfl rfl ?_
      change Go _ _ _ _ _ _ [.int ((sa s 226 a1.toInt.toNat a3).1 80), .ref 213] _ _
      refine g_ld rfl rfl rfl ?_
      refine g_call [.ref 213, .int ((sa s 226 a1.toInt.toNat a3).1 80), .int a3] [] rfl rfl rfl (Tot.imp h (fun v3 s2 h => ?_))
      obtain ⟨x4, rfl, h⟩ := h
      change Go _ _ _ _ _ _ [.int x4] _ _
      refine g_brN rfl rfl ⟨fun hc => ?_, fun hc => ?_⟩
      · replace h := h.1 (fun q => hc ((i_eq (x := x4) (y := 0) rfl (show (0 : Int32).toInt = 0 by decide)).mpr q))
        exact k_223_98  h
      · replace h := h.2 ((i_eq (x := x4) (y := 0) rfl (show (0 : Int32).toInt = 0 by decide)).mp hc)
        refine g_ld rfl rfl rfl ?_
        refine g_c [.int 9, .ref 213] (xo_push (.int 9)) rfl rfl ?_
        refine g_ld rfl rfl rfl ?_
        refine g_get rfl rfl ?_
        change Go _ _ _ _ _ _ [.ref 222, .int 9, .ref 213] _ _
        refine g_ld rfl rfl rfl ?_
        refine g_ial rfl rfl (i_in (x := a1) rfl h.1) ?_
        change Go _ _ _ _ _ _ [.int (s2.2.1 222 a1.toInt.toNat), .int 9, .ref 213] _ _
        replace h := h.2
        refine g_call [.ref 213, .int 9, .int (s2.2.1 222 a1.toInt.toNat)] [] rfl rfl rfl (Tot.imp h (fun v6 s5 h => ?_))
        obtain ⟨rfl, h⟩ := h
        change Go _ _ _ _ _ _ [] _ _
        exact k_223_98  h
    · replace h := h.2 (fun q => hc ((i_le (x := 0) (y := a3) (show (0 : Int32).toInt = 0 by decide) rfl).mpr q))
      refine g_ld rfl rfl rfl ?_
      refine g_c [.int 2, .ref 213] (xo_push (.int 2)) rfl rfl ?_
      refine g_ld rfl rfl rfl ?_
      refine g_get rfl rfl ?_
      change Go _ _ _ _ _ _ [.ref 222, .int 2, .ref 213] _ _
      refine g_ld rfl rfl rfl ?_
      refine g_ial rfl rfl (i_in (x := a1) rfl h.1) ?_
      change Go _ _ _ _ _ _ [.int (s.2.1 222 a1.toInt.toNat), .int 2, .ref 213] _ _
      replace h := h.2
      refine g_call [.ref 213, .int 2, .int (s.2.1 222 a1.toInt.toNat)] [] rfl rfl rfl (Tot.imp h (fun v8 s7 h => ?_))
      obtain ⟨rfl, h⟩ := h
      change Go _ _ _ _ _ _ [] _ _
      exact g_ret0 rfl h
  · replace h := h.2 (fun q => hc ((i_le (x := s.2.1 239 a2.toInt.toNat) (y := a4) rfl rfl).mpr q))
    refine g_ld rfl rfl rfl ?_
    refine g_get rfl rfl ?_
    change Go _ _ _ _ _ _ [.ref 217] _ _
    refine g_ld rfl rfl rfl ?_
    refine g_get rfl rfl ?_
    change Go _ _ _ _ _ _ [.ref 240, .ref 217] _ _
    refine g_c [.int 6, .ref 240, .ref 217] (xo_push (.int 6)) rfl rfl ?_
    refine g_ld rfl rfl rfl ?_
    have ex9 := i_mul (x := 6) (y := a2) (show (6 : Int32).toInt = 6 by decide) rfl h.1
    have cx9 := ck_mul (x := 6) (y := a2) (show (6 : Int32).toInt = 6 by decide) rfl h.1
    replace h := h.2 _ ex9
    refine g_ca [.int (6 * a2), .ref 240, .ref 217] xo_imul rfl rfl (fun _ => cx9) ?_
    refine g_ld rfl rfl rfl ?_
    have ex10 := i_add (x := (6 * a2)) (y := a4) rfl rfl h.1
    have cx10 := ck_add (x := (6 * a2)) (y := a4) rfl rfl h.1
    replace h := h.2 _ ex10
    refine g_ca [.int ((6 * a2) + a4), .ref 240, .ref 217] xo_iadd rfl rfl (fun _ => cx10) ?_
    refine g_ial rfl rfl (i_in (x := ((6 * a2) + a4)) rfl h.1) ?_
    change Go _ _ _ _ _ _ [.int (s.2.1 240 ((6 * a2) + a4).toInt.toNat), .ref 217] _ _
    replace h := h.2
    refine g_ial rfl rfl (i_in (x := s.2.1 240 ((6 * a2) + a4).toInt.toNat) rfl h.1) ?_
    change Go _ _ _ _ _ _ [.int (s.2.1 217 (s.2.1 240 ((6 * a2) + a4).toInt.toNat).toInt.toNat)] _ _
    replace h := h.2
    refine g_ld rfl rfl rfl ?_
    refine g_get rfl rfl ?_
    change Go _ _ _ _ _ _ [.ref 217, .int (s.2.1 217 (s.2.1 240 ((6 * a2) + a4).toInt.toNat).toInt.toNat)] _ _
    refine g_ld rfl rfl rfl ?_
    refine g_get rfl rfl ?_
    change Go _ _ _ _ _ _ [.ref 222, .ref 217, .int (s.2.1 217 (s.2.1 240 ((6 * a2) + a4).toInt.toNat).toInt.toNat)] _ _
    refine g_ld rfl rfl rfl ?_
    refine g_ial rfl rfl (i_in (x := a1) rfl h.1) ?_
    change Go _ _ _ _ _ _ [.int (s.2.1 222 a1.toInt.toNat), .ref 217, .int (s.2.1 217 (s.2.1 240 ((6 * a2) + a4).toInt.toNat).toInt.toNat)] _ _
    replace h := h.2
    refine g_ial rfl rfl (i_in (x := s.2.1 222 a1.toInt.toNat) rfl h.1) ?_
    change Go _ _ _ _ _ _ [.int (s.2.1 217 (s.2.1 222 a1.toInt.toNat).toInt.toNat), .int (s.2.1 217 (s.2.1 240 ((6 * a2) + a4).toInt.toNat).toInt.toNat)] _ _
    replace h := h.2
    refine g_brN rfl rfl ⟨fun hc => ?_, fun hc => ?_⟩
    · replace h := h.1 (fun q => hc ((i_eq (x := s.2.1 217 (s.2.1 240 ((6 * a2) + a4).toInt.toNat).toInt.toNat) (y := s.2.1 217 (s.2.1 222 a1.toInt.toNat).toInt.toNat) rfl rfl).mpr q))
      refine g_ld rfl rfl rfl ?_
      exact k_223_67 r39 h
    · replace h := h.2 ((i_eq (x := s.2.1 217 (s.2.1 240 ((6 * a2) + a4).toInt.toNat).toInt.toNat) (y := s.2.1 217 (s.2.1 222 a1.toInt.toNat).toInt.toNat) rfl rfl).mp hc)
      refine g_ld rfl rfl rfl ?_
      refine g_go rfl ?_
      exact k_223_67 r39 h
def wl_223_39 (T : Nat → List Value → yS → (Option Value → yS → Prop) → Prop)  (a1 : Int32) (a2 : Int32) (a3 : Int32) (a4 : Int32) (s : yS) (P : Option Value → yS → Prop) : Prop :=
  ∃ (I : Int32 → Int32 → Int32 → Int32 → yS → Prop) (μ : Int32 → Int32 → Int32 → Int32 → yS → Nat), I a1 a2 a3 a4 s ∧ ∀ (a1 : Int32) (a2 : Int32) (a3 : Int32) (a4 : Int32) (s : yS), I a1 a2 a3 a4 s → w_223_39 T (fun a1' a2' a3' a4' s' => I a1' a2' a3' a4' s' ∧ μ a1' a2' a3' a4' s' < μ a1 a2 a3 a4 s) a1 a2 a3 a4 s P
theorem kl_223_39 {d : Nat}  {a1 : Int32} {a2 : Int32} {a3 : Int32} {a4 : Int32} {s : yS} {P : Option Value → yS → Prop}  (h : wl_223_39 (Tot d)  a1 a2 a3 a4 s P) : Go d 5 (none) xE_223 (xE_223.drop 39) [.ref 213, .int a1, .int a2, .int a3, .int a4, .null, .null] [] s P := by
  obtain ⟨I, μ, h0, h1⟩ := h
  have key : ∀ (n : Nat) (a1 : Int32) (a2 : Int32) (a3 : Int32) (a4 : Int32) (s : yS), μ a1 a2 a3 a4 s = n → I a1 a2 a3 a4 s → Go d 5 (none) xE_223 (xE_223.drop 39) [.ref 213, .int a1, .int a2, .int a3, .int a4, .null, .null] [] s P := by
    intro n
    induction n using Nat.strongRecOn with
    | ind n ih =>
      intro a1 a2 a3 a4 s e hI
      exact k_223_39 (fun a1' a2' a3' a4' s' q => ih _ (by rw [← e]; exact q.2) _ _ _ _ _ rfl q.1) (h1 a1 a2 a3 a4 s hI)
  exact key _ a1 a2 a3 a4 s rfl h0
def w_223_0 (T : Nat → List Value → yS → (Option Value → yS → Prop) → Prop)  (a1 : Int32) (s : yS) (P : Option Value → yS → Prop) : Prop :=
  (0 ≤ a1.toInt ∧ a1.toInt < 12006) ∧ (T 217 [.ref 213, .int (s.2.1 227 a1.toInt.toNat)] s (fun v2 s1 => v2 = none ∧ (((s1.1 8).toInt ≤ 0 → T 220 [.ref 213, .int (s1.1 80)] s1 (fun v4 s3 => ∃ x5, v4 = some (.int x5) ∧ ((¬ (x5.toInt = 0) → (-2147483648 ≤ 24 * (s3.1 75).toInt ∧ 24 * (s3.1 75).toInt ≤ 2147483647) ∧ (∀ x6 : Int32, x6.toInt = 24 * (s3.1 75).toInt → (0 ≤ (s3.1 80).toInt ∧ (s3.1 80).toInt < 200000) ∧ (T 185 [.int (s3.2.1 264 (s3.1 80).toInt.toNat)] s3 (fun v8 s7 => ∃ x9, v8 = some (.int x9) ∧ ((-2147483648 ≤ x6.toInt + x9.toInt ∧ x6.toInt + x9.toInt ≤ 2147483647) ∧ (∀ x10 : Int32, x10.toInt = x6.toInt + x9.toInt → wl_223_39 T  a1 x10 (-1) 0  s7 P)))))) ∧ (x5.toInt = 0 → (0 ≤ a1.toInt ∧ a1.toInt < 12006) ∧ (T 163 [.ref 213, .int 6, .int (s3.2.1 223 a1.toInt.toNat)] s3 (fun v12 s11 => v12 = none ∧ (P none s11))))))) ∧ (¬ ((s1.1 8).toInt ≤ 0) → P none s1))))
set_option maxRecDepth 20000 in
theorem k_223_0 {d : Nat}  {a1 : Int32} {s : yS} {P : Option Value → yS → Prop}  (h : w_223_0 (Tot d)  a1 s P) : Go d 5 (none) xE_223 (xE_223.drop 0) [.ref 213, .int a1, .null, .null, .null, .null, .null] [] s P := by
  unfold w_223_0 at h
  refine g_ld rfl rfl rfl ?_
  refine g_ld rfl rfl rfl ?_
  refine g_get rfl rfl ?_
  change Go _ _ _ _ _ _ [.ref 227, .ref 213] _ _
  refine g_ld rfl rfl rfl ?_
  refine g_ial rfl rfl (i_in (x := a1) rfl h.1) ?_
  change Go _ _ _ _ _ _ [.int (s.2.1 227 a1.toInt.toNat), .ref 213] _ _
  replace h := h.2
  refine g_call [.ref 213, .int (s.2.1 227 a1.toInt.toNat)] [] rfl rfl rfl (Tot.imp h (fun v2 s1 h => ?_))
  obtain ⟨rfl, h⟩ := h
  change Go _ _ _ _ _ _ [] _ _
  refine g_ld rfl rfl rfl ?_
  refine g_get rfl rfl ?_
  change Go _ _ _ _ _ _ [.int (s1.1 8)] _ _
  refine g_brP rfl rfl ⟨fun hc => ?_, fun hc => ?_⟩
  · replace h := h.1 ((i_le (x := s1.1 8) (y := 0) rfl (show (0 : Int32).toInt = 0 by decide)).mp hc)
    refine g_ld rfl rfl rfl ?_
    refine g_ld rfl rfl rfl ?_
    refine g_get rfl rfl ?_
    change Go _ _ _ _ _ _ [.int (s1.1 80), .ref 213] _ _
    refine g_call [.ref 213, .int (s1.1 80)] [] rfl rfl rfl (Tot.imp h (fun v4 s3 h => ?_))
    obtain ⟨x5, rfl, h⟩ := h
    change Go _ _ _ _ _ _ [.int x5] _ _
    refine g_brN rfl rfl ⟨fun hc => ?_, fun hc => ?_⟩
    · replace h := h.1 (fun q => hc ((i_eq (x := x5) (y := 0) rfl (show (0 : Int32).toInt = 0 by decide)).mpr q))
      refine g_c [.int 24] (xo_push (.int 24)) rfl rfl ?_
      refine g_ld rfl rfl rfl ?_
      refine g_get rfl rfl ?_
      change Go _ _ _ _ _ _ [.int (s3.1 75), .int 24] _ _
      have ex6 := i_mul (x := 24) (y := s3.1 75) (show (24 : Int32).toInt = 24 by decide) rfl h.1
      have cx6 := ck_mul (x := 24) (y := s3.1 75) (show (24 : Int32).toInt = 24 by decide) rfl h.1
      replace h := h.2 _ ex6
      refine g_ca [.int (24 * (s3.1 75))] xo_imul rfl rfl (fun _ => cx6) ?_
      refine g_ld rfl rfl rfl ?_
      refine g_get rfl rfl ?_
      change Go _ _ _ _ _ _ [.ref 264, .int (24 * (s3.1 75))] _ _
      refine g_ld rfl rfl rfl ?_
      refine g_get rfl rfl ?_
      change Go _ _ _ _ _ _ [.int (s3.1 80), .ref 264, .int (24 * (s3.1 75))] _ _
      refine g_ial rfl rfl (i_in (x := s3.1 80) rfl h.1) ?_
      change Go _ _ _ _ _ _ [.int (s3.2.1 264 (s3.1 80).toInt.toNat), .int (24 * (s3.1 75))] _ _
      replace h := h.2
      refine g_call [.int (s3.2.1 264 (s3.1 80).toInt.toNat)] [.int (24 * (s3.1 75))] rfl rfl rfl (Tot.imp h (fun v8 s7 h => ?_))
      obtain ⟨x9, rfl, h⟩ := h
      change Go _ _ _ _ _ _ [.int x9, .int (24 * (s3.1 75))] _ _
      have ex10 := i_add (x := (24 * (s3.1 75))) (y := x9) rfl rfl h.1
      have cx10 := ck_add (x := (24 * (s3.1 75))) (y := x9) rfl rfl h.1
      replace h := h.2 _ ex10
      refine g_ca [.int ((24 * (s3.1 75)) + x9)] xo_iadd rfl rfl (fun _ => cx10) ?_
      refine g_st [.ref 213, .int a1, .int ((24 * (s3.1 75)) + x9), .null, .null, .null, .null] rfl rfl rfl ?_
      refine g_c [.int (-1)] (xo_push (.int (-1))) rfl rfl ?_
      refine g_st [.ref 213, .int a1, .int ((24 * (s3.1 75)) + x9), .int (-1), .null, .null, .null] rfl rfl rfl ?_
      refine g_c [.int 0] (xo_push (.int 0)) rfl rfl ?_
      refine g_st [.ref 213, .int a1, .int ((24 * (s3.1 75)) + x9), .int (-1), .int 0, .null, .null] rfl rfl rfl ?_
      exact kl_223_39  h
    · replace h := h.2 ((i_eq (x := x5) (y := 0) rfl (show (0 : Int32).toInt = 0 by decide)).mp hc)
      refine g_ld rfl rfl rfl ?_
      refine g_c [.int 6, .ref 213] (xo_push (.int 6)) rfl rfl ?_
      refine g_ld rfl rfl rfl ?_
      refine g_get rfl rfl ?_
      change Go _ _ _ _ _ _ [.ref 223, .int 6, .ref 213] _ _
      refine g_ld rfl rfl rfl ?_
      refine g_ial rfl rfl (i_in (x := a1) rfl h.1) ?_
      change Go _ _ _ _ _ _ [.int (s3.2.1 223 a1.toInt.toNat), .int 6, .ref 213] _ _
      replace h := h.2
      refine g_call [.ref 213, .int 6, .int (s3.2.1 223 a1.toInt.toNat)] [] rfl rfl rfl (Tot.imp h (fun v12 s11 h => ?_))
      obtain ⟨rfl, h⟩ := h
      change Go _ _ _ _ _ _ [] _ _
      exact g_ret0 rfl h
  · replace h := h.2 (fun q => hc ((i_le (x := s1.1 8) (y := 0) rfl (show (0 : Int32).toInt = 0 by decide)).mpr q))
    exact g_ret0 rfl h
theorem t_223 {d : Nat} {a1 : Int32} {s : yS} {P : Option Value → yS → Prop} (h : w_223_0 (Tot d) a1 s P) : Tot (d + 1) 223 [.ref 213, .int a1] s P := tot_of (E := xE_223) (ml := 5) (ret := none) rfl rfl rfl (k_223_0 h)
/-! fieldOf -/
def w_224_0 (T : Nat → List Value → yS → (Option Value → yS → Prop) → Prop)  (a1 : Int32) (a2 : Int32) (s : yS) (P : Option Value → yS → Prop) : Prop :=
  T 188 [.ref 213] s (fun v2 s1 => ∃ x3, v2 = some (.int x3) ∧ ((0 ≤ a1.toInt ∧ a1.toInt < 200000) ∧ (T 185 [.int (s1.2.1 264 a1.toInt.toNat)] s1 (fun v5 s4 => ∃ x6, v5 = some (.int x6) ∧ ((-2147483648 ≤ 6 * x6.toInt ∧ 6 * x6.toInt ≤ 2147483647) ∧ (∀ x7 : Int32, x7.toInt = 6 * x6.toInt → (-2147483648 ≤ 1000 + x7.toInt ∧ 1000 + x7.toInt ≤ 2147483647) ∧ (∀ x8 : Int32, x8.toInt = 1000 + x7.toInt → T 189 [.ref 213, .int x3, .int 0, .int x8, .int a1] s4 (fun v10 s9 => v10 = none ∧ ((-2147483648 ≤ 24 * (s9.1 75).toInt ∧ 24 * (s9.1 75).toInt ≤ 2147483647) ∧ (∀ x11 : Int32, x11.toInt = 24 * (s9.1 75).toInt → (0 ≤ a1.toInt ∧ a1.toInt < 200000) ∧ (T 185 [.int (s9.2.1 264 a1.toInt.toNat)] s9 (fun v13 s12 => ∃ x14, v13 = some (.int x14) ∧ ((-2147483648 ≤ x11.toInt + x14.toInt ∧ x11.toInt + x14.toInt ≤ 2147483647) ∧ (∀ x15 : Int32, x15.toInt = x11.toInt + x14.toInt → (-2147483648 ≤ 6 * x15.toInt ∧ 6 * x15.toInt ≤ 2147483647) ∧ (∀ x16 : Int32, x16.toInt = 6 * x15.toInt → (-2147483648 ≤ x16.toInt + a2.toInt ∧ x16.toInt + a2.toInt ≤ 2147483647) ∧ (∀ x17 : Int32, x17.toInt = x16.toInt + a2.toInt → (0 ≤ x17.toInt ∧ x17.toInt < 288) ∧ ((0 ≤ (s12.2.1 241 x17.toInt.toNat).toInt ∧ (s12.2.1 241 x17.toInt.toNat).toInt < 12006) ∧ ((0 ≤ (s12.2.1 241 x17.toInt.toNat).toInt ∧ (s12.2.1 241 x17.toInt.toNat).toInt < 12006) ∧ (T 191 [.ref 213, .int (s12.2.1 231 (s12.2.1 241 x17.toInt.toNat).toInt.toNat), .int (s12.2.1 232 (s12.2.1 241 x17.toInt.toNat).toInt.toNat), .int x3] s12 (fun v19 s18 => ∃ x20, v19 = some (.int x20) ∧ ((-2147483648 ≤ (s18.1 70).toInt - 1 ∧ (s18.1 70).toInt - 1 ≤ 2147483647) ∧ (∀ x21 : Int32, x21.toInt = (s18.1 70).toInt - 1 → ∀ s22, s22 = sf s18 70 x21 → T 216 [.ref 213, .int (s22.1 71), .int (s22.1 72)] s22 (fun v24 s23 => v24 = none ∧ ((x20.toInt = 0 ∨ x20.toInt = 1) ∧ P (some (.int x20)) s23))))))))))))))))))))))))
set_option maxRecDepth 20000 in
theorem k_224_0 {d : Nat}  {a1 : Int32} {a2 : Int32} {s : yS} {P : Option Value → yS → Prop}  (h : w_224_0 (Tot d)  a1 a2 s P) : Go d 6 (some .boolean) xE_224 (xE_224.drop 0) [.ref 213, .int a1, .int a2, .null, .null, .null, .null, .null, .null] [] s P := by
  unfold w_224_0 at h
  refine g_ld rfl rfl rfl ?_
  refine g_call [.ref 213] [] rfl rfl rfl (Tot.imp h (fun v2 s1 h => ?_))
  obtain ⟨x3, rfl, h⟩ := h
  change Go _ _ _ _ _ _ [.int x3] _ _
  refine g_st [.ref 213, .int a1, .int a2, .int x3, .null, .null, .null, .null, .null] rfl rfl rfl ?_
  refine g_ld rfl rfl rfl ?_
  refine g_ld rfl rfl rfl ?_
  refine g_c [.int 0, .int x3, .ref 213] (xo_push (.int 0)) rfl rfl ?_
  refine g_c [.int 1000, .int 0, .int x3, .ref 213] (xo_push (.int 1000)) rfl rfl ?_
  refine g_c [.int 6, .int 1000, .int 0, .int x3, .ref 213] (xo_push (.int 6)) rfl rfl ?_
  refine g_ld rfl rfl rfl ?_
  refine g_get rfl rfl ?_
  change Go _ _ _ _ _ _ [.ref 264, .int 6, .int 1000, .int 0, .int x3, .ref 213] _ _
  refine g_ld rfl rfl rfl ?_
  refine g_ial rfl rfl (i_in (x := a1) rfl h.1) ?_
  change Go _ _ _ _ _ _ [.int (s1.2.1 264 a1.toInt.toNat), .int 6, .int 1000, .int 0, .int x3, .ref 213] _ _
  replace h := h.2
  refine g_call [.int (s1.2.1 264 a1.toInt.toNat)] [.int 6, .int 1000, .int 0, .int x3, .ref 213] rfl rfl rfl (Tot.imp h (fun v5 s4 h => ?_))
  obtain ⟨x6, rfl, h⟩ := h
  change Go _ _ _ _ _ _ [.int x6, .int 6, .int 1000, .int 0, .int x3, .ref 213] _ _
  have ex7 := i_mul (x := 6) (y := x6) (show (6 : Int32).toInt = 6 by decide) rfl h.1
  have cx7 := ck_mul (x := 6) (y := x6) (show (6 : Int32).toInt = 6 by decide) rfl h.1
  replace h := h.2 _ ex7
  refine g_ca [.int (6 * x6), .int 1000, .int 0, .int x3, .ref 213] xo_imul rfl rfl (fun _ => cx7) ?_
  have ex8 := i_add (x := 1000) (y := (6 * x6)) (show (1000 : Int32).toInt = 1000 by decide) rfl h.1
  have cx8 := ck_add (x := 1000) (y := (6 * x6)) (show (1000 : Int32).toInt = 1000 by decide) rfl h.1
  replace h := h.2 _ ex8
  refine g_ca [.int (1000 + (6 * x6)), .int 0, .int x3, .ref 213] xo_iadd rfl rfl (fun _ => cx8) ?_
  refine g_ld rfl rfl rfl ?_
  refine g_call [.ref 213, .int x3, .int 0, .int (1000 + (6 * x6)), .int a1] [] rfl rfl rfl (Tot.imp h (fun v10 s9 h => ?_))
  obtain ⟨rfl, h⟩ := h
  change Go _ _ _ _ _ _ [] _ _
  refine g_ld rfl rfl rfl ?_
  refine g_get rfl rfl ?_
  change Go _ _ _ _ _ _ [.ref 241] _ _
  refine g_c [.int 6, .ref 241] (xo_push (.int 6)) rfl rfl ?_
  refine g_c [.int 24, .int 6, .ref 241] (xo_push (.int 24)) rfl rfl ?_
  refine g_ld rfl rfl rfl ?_
  refine g_get rfl rfl ?_
  change Go _ _ _ _ _ _ [.int (s9.1 75), .int 24, .int 6, .ref 241] _ _
  have ex11 := i_mul (x := 24) (y := s9.1 75) (show (24 : Int32).toInt = 24 by decide) rfl h.1
  have cx11 := ck_mul (x := 24) (y := s9.1 75) (show (24 : Int32).toInt = 24 by decide) rfl h.1
  replace h := h.2 _ ex11
  refine g_ca [.int (24 * (s9.1 75)), .int 6, .ref 241] xo_imul rfl rfl (fun _ => cx11) ?_
  refine g_ld rfl rfl rfl ?_
  refine g_get rfl rfl ?_
  change Go _ _ _ _ _ _ [.ref 264, .int (24 * (s9.1 75)), .int 6, .ref 241] _ _
  refine g_ld rfl rfl rfl ?_
  refine g_ial rfl rfl (i_in (x := a1) rfl h.1) ?_
  change Go _ _ _ _ _ _ [.int (s9.2.1 264 a1.toInt.toNat), .int (24 * (s9.1 75)), .int 6, .ref 241] _ _
  replace h := h.2
  refine g_call [.int (s9.2.1 264 a1.toInt.toNat)] [.int (24 * (s9.1 75)), .int 6, .ref 241] rfl rfl rfl (Tot.imp h (fun v13 s12 h => ?_))
  obtain ⟨x14, rfl, h⟩ := h
  change Go _ _ _ _ _ _ [.int x14, .int (24 * (s9.1 75)), .int 6, .ref 241] _ _
  have ex15 := i_add (x := (24 * (s9.1 75))) (y := x14) rfl rfl h.1
  have cx15 := ck_add (x := (24 * (s9.1 75))) (y := x14) rfl rfl h.1
  replace h := h.2 _ ex15
  refine g_ca [.int ((24 * (s9.1 75)) + x14), .int 6, .ref 241] xo_iadd rfl rfl (fun _ => cx15) ?_
  have ex16 := i_mul (x := 6) (y := ((24 * (s9.1 75)) + x14)) (show (6 : Int32).toInt = 6 by decide) rfl h.1
  have cx16 := ck_mul (x := 6) (y := ((24 * (s9.1 75)) + x14)) (show (6 : Int32).toInt = 6 by decide) rfl h.1
  replace h := h.2 _ ex16
  refine g_ca [.int (6 * ((24 * (s9.1 75)) + x14)), .ref 241] xo_imul rfl rfl (fun _ => cx16) ?_
  refine g_ld rfl rfl rfl ?_
  have ex17 := i_add (x := (6 * ((24 * (s9.1 75)) + x14))) (y := a2) rfl rfl h.1
  have cx17 := ck_add (x := (6 * ((24 * (s9.1 75)) + x14))) (y := a2) rfl rfl h.1
  replace h := h.2 _ ex17
  refine g_ca [.int ((6 * ((24 * (s9.1 75)) + x14)) + a2), .ref 241] xo_iadd rfl rfl (fun _ => cx17) ?_
  refine g_ial rfl rfl (i_in (x := ((6 * ((24 * (s9.1 75)) + x14)) + a2)) rfl h.1) ?_
  change Go _ _ _ _ _ _ [.int (s12.2.1 241 ((6 * ((24 * (s9.1 75)) + x14)) + a2).toInt.toNat)] _ _
  replace h := h.2
  refine g_st [.ref 213, .int a1, .int a2, .int x3, .int (s12.2.1 241 ((6 * ((24 * (s9.1 75)) + x14)) + a2).toInt.toNat), .null, .null, .null, .null] rfl rfl rfl ?_
  refine g_ld rfl rfl rfl ?_
  refine g_ld rfl rfl rfl ?_
  refine g_get rfl rfl ?_
  change Go _ _ _ _ _ _ [.ref 231, .ref 213] _ _
  refine g_ld rfl rfl rfl ?_
  refine g_ial rfl rfl (i_in (x := s12.2.1 241 ((6 * ((24 * (s9.1 75)) + x14)) + a2).toInt.toNat) rfl h.1) ?_
  change Go _ _ _ _ _ _ [.int (s12.2.1 231 (s12.2.1 241 ((6 * ((24 * (s9.1 75)) + x14)) + a2).toInt.toNat).toInt.toNat), .ref 213] _ _
  replace h := h.2
  refine g_ld rfl rfl rfl ?_
  refine g_get rfl rfl ?_
  change Go _ _ _ _ _ _ [.ref 232, .int (s12.2.1 231 (s12.2.1 241 ((6 * ((24 * (s9.1 75)) + x14)) + a2).toInt.toNat).toInt.toNat), .ref 213] _ _
  refine g_ld rfl rfl rfl ?_
  refine g_ial rfl rfl (i_in (x := s12.2.1 241 ((6 * ((24 * (s9.1 75)) + x14)) + a2).toInt.toNat) rfl h.1) ?_
  change Go _ _ _ _ _ _ [.int (s12.2.1 232 (s12.2.1 241 ((6 * ((24 * (s9.1 75)) + x14)) + a2).toInt.toNat).toInt.toNat), .int (s12.2.1 231 (s12.2.1 241 ((6 * ((24 * (s9.1 75)) + x14)) + a2).toInt.toNat).toInt.toNat), .ref 213] _ _
  replace h := h.2
  refine g_ld rfl rfl rfl ?_
  refine g_call [.ref 213, .int (s12.2.1 231 (s12.2.1 241 ((6 * ((24 * (s9.1 75)) + x14)) + a2).toInt.toNat).toInt.toNat), .int (s12.2.1 232 (s12.2.1 241 ((6 * ((24 * (s9.1 75)) + x14)) + a2).toInt.toNat).toInt.toNat), .int x3] [] rfl rfl rfl (Tot.imp h (fun v19 s18 h => ?_))
  obtain ⟨x20, rfl, h⟩ := h
  change Go _ _ _ _ _ _ [.int x20] _ _
  refine g_st [.ref 213, .int a1, .int a2, .int x3, .int (s12.2.1 241 ((6 * ((24 * (s9.1 75)) + x14)) + a2).toInt.toNat), .int x20, .null, .null, .null] rfl rfl rfl ?_
  refine g_ld rfl rfl rfl ?_
  refine g_c [.ref 213, .ref 213] xo_dup rfl rfl ?_
  refine g_get rfl rfl ?_
  change Go _ _ _ _ _ _ [.int (s18.1 70), .ref 213] _ _
  refine g_c [.int 1, .int (s18.1 70), .ref 213] (xo_push (.int 1)) rfl rfl ?_
  have ex21 := i_sub (x := s18.1 70) (y := 1) rfl (show (1 : Int32).toInt = 1 by decide) h.1
  have cx21 := ck_sub (x := s18.1 70) (y := 1) rfl (show (1 : Int32).toInt = 1 by decide) h.1
  replace h := h.2 _ ex21
  refine g_ca [.int ((s18.1 70) - 1), .ref 213] xo_isub rfl rfl (fun _ => cx21) ?_
  refine g_put rfl rfl rfl ?_
  replace h := h _ rfl
  refine g_ld rfl rfl rfl ?_
  refine g_ld rfl rfl rfl ?_
  refine g_get rfl rfl ?_
  change Go _ _ _ _ _ _ [.int ((sf s18 70 ((s18.1 70) - 1)).1 71), .ref 213] _ _
  refine g_ld rfl rfl rfl ?_
  refine g_get rfl rfl ?_
  change Go _ _ _ _ _ _ [.int ((sf s18 70 ((s18.1 70) - 1)).1 72), .int ((sf s18 70 ((s18.1 70) - 1)).1 71), .ref 213] _ _
  refine g_call [.ref 213, .int ((sf s18 70 ((s18.1 70) - 1)).1 71), .int ((sf s18 70 ((s18.1 70) - 1)).1 72)] [] rfl rfl rfl (Tot.imp h (fun v24 s23 h => ?_))
  obtain ⟨rfl, h⟩ := h
  change Go _ _ _ _ _ _ [] _ _
  refine g_ld rfl rfl rfl ?_
  exact g_retZ rfl (i_z (x := x20) rfl h.1) h.2
theorem t_224 {d : Nat} {a1 : Int32} {a2 : Int32} {s : yS} {P : Option Value → yS → Prop} (h : w_224_0 (Tot d) a1 a2 s P) : Tot (d + 1) 224 [.ref 213, .int a1, .int a2] s P := tot_of (E := xE_224) (ml := 6) (ret := some .boolean) rfl rfl rfl (k_224_0 h)
/-! keepOpen -/
def w_225_14 (T : Nat → List Value → yS → (Option Value → yS → Prop) → Prop) (R14 : Int32 → Int32 → yS → Prop) (a1 : Int32) (a2 : Int32) (s : yS) (P : Option Value → yS → Prop) : Prop :=
  ((s.1 81).toInt ≤ a2.toInt → P none s) ∧ (¬ ((s.1 81).toInt ≤ a2.toInt) → (-2147483648 ≤ (s.1 80).toInt + a2.toInt ∧ (s.1 80).toInt + a2.toInt ≤ 2147483647) ∧ (∀ x1 : Int32, x1.toInt = (s.1 80).toInt + a2.toInt → (0 ≤ x1.toInt ∧ x1.toInt < 200000) ∧ ((0 ≤ (s.1 85).toInt ∧ (s.1 85).toInt < 120000) ∧ (∀ s2, s2 = sa s 270 (s.1 85).toInt.toNat (s.2.1 264 x1.toInt.toNat) → (-2147483648 ≤ (s2.1 85).toInt + 1 ∧ (s2.1 85).toInt + 1 ≤ 2147483647) ∧ (∀ x3 : Int32, x3.toInt = (s2.1 85).toInt + 1 → ∀ s4, s4 = sf s2 85 x3 → (-2147483648 ≤ a2.toInt + 1 ∧ a2.toInt + 1 ≤ 2147483647) ∧ (∀ x5 : Int32, x5.toInt = a2.toInt + 1 → R14 a1 x5  s4))))))
set_option maxRecDepth 20000 in
theorem k_225_14 {d : Nat} {R14 : Int32 → Int32 → yS → Prop} {a1 : Int32} {a2 : Int32} {s : yS} {P : Option Value → yS → Prop} (r14 : ∀ a1 a2 s, R14 a1 a2 s → Go d 3 (none) xE_225 (xE_225.drop 14) [.ref 213, .int a1, .int a2, .null, .null] [] s P) (h : w_225_14 (Tot d) R14 a1 a2 s P) : Go d 3 (none) xE_225 (xE_225.drop 14) [.ref 213, .int a1, .int a2, .null, .null] [] s P := by
  unfold w_225_14 at h
  refine g_ld rfl rfl rfl ?_
  refine g_ld rfl rfl rfl ?_
  refine g_get rfl rfl ?_
  change Go _ _ _ _ _ _ [.int (s.1 81), .int a2] _ _
  refine g_brP rfl rfl ⟨fun hc => ?_, fun hc => ?_⟩
  · replace h := h.1 ((i_le (x := s.1 81) (y := a2) rfl rfl).mp hc)
    exact g_ret0 rfl h
  · replace h := h.2 (fun q => hc ((i_le (x := s.1 81) (y := a2) rfl rfl).mpr q))
    refine g_ld rfl rfl rfl ?_
    refine g_get rfl rfl ?_
    change Go _ _ _ _ _ _ [.ref 270] _ _
    refine g_ld rfl rfl rfl ?_
    refine g_get rfl rfl ?_
    change Go _ _ _ _ _ _ [.int (s.1 85), .ref 270] _ _
    refine g_ld rfl rfl rfl ?_
    refine g_get rfl rfl ?_
    change Go _ _ _ _ _ _ [.ref 264, .int (s.1 85), .ref 270] _ _
    refine g_ld rfl rfl rfl ?_
    refine g_get rfl rfl ?_
    change Go _ _ _ _ _ _ [.int (s.1 80), .ref 264, .int (s.1 85), .ref 270] _ _
    refine g_ld rfl rfl rfl ?_
    have ex1 := i_add (x := s.1 80) (y := a2) rfl rfl h.1
    have cx1 := ck_add (x := s.1 80) (y := a2) rfl rfl h.1
    replace h := h.2 _ ex1
    refine g_ca [.int ((s.1 80) + a2), .ref 264, .int (s.1 85), .ref 270] xo_iadd rfl rfl (fun _ => cx1) ?_
    refine g_ial rfl rfl (i_in (x := ((s.1 80) + a2)) rfl h.1) ?_
    change Go _ _ _ _ _ _ [.int (s.2.1 264 ((s.1 80) + a2).toInt.toNat), .int (s.1 85), .ref 270] _ _
    replace h := h.2
    refine g_ias rfl rfl (i_in (x := s.1 85) rfl h.1) ?_
    replace h := h.2
    replace h := h _ rfl
    refine g_ld rfl rfl rfl ?_
    refine g_c [.ref 213, .ref 213] xo_dup rfl rfl ?_
    refine g_get rfl rfl ?_
    change Go _ _ _ _ _ _ [.int ((sa s 270 (s.1 85).toInt.toNat (s.2.1 264 ((s.1 80) + a2).toInt.toNat)).1 85), .ref 213] _ _
    refine g_c [.int 1, .int ((sa s 270 (s.1 85).toInt.toNat (s.2.1 264 ((s.1 80) + a2).toInt.toNat)).1 85), .ref 213] (xo_push (.int 1)) rfl rfl ?_
    have ex3 := i_add (x := (sa s 270 (s.1 85).toInt.toNat (s.2.1 264 ((s.1 80) + a2).toInt.toNat)).1 85) (y := 1) rfl (show (1 : Int32).toInt = 1 by decide) h.1
    have cx3 := ck_add (x := (sa s 270 (s.1 85).toInt.toNat (s.2.1 264 ((s.1 80) + a2).toInt.toNat)).1 85) (y := 1) rfl (show (1 : Int32).toInt = 1 by decide) h.1
    replace h := h.2 _ ex3
    refine g_ca [.int (((sa s 270 (s.1 85).toInt.toNat (s.2.1 264 ((s.1 80) + a2).toInt.toNat)).1 85) + 1), .ref 213] xo_iadd rfl rfl (fun _ => cx3) ?_
    refine g_put rfl rfl rfl ?_
    replace h := h _ rfl
    have ex5 := i_add (x := a2) (y := 1) rfl (show (1 : Int32).toInt = 1 by decide) h.1
    have cx5 := ck_inc (x := a2) (n := 1) rfl h.1
    replace h := h.2 _ ex5
    refine g_inc [.ref 213, .int a1, .int (a2 + 1), .null, .null] rfl rfl rfl rfl cx5 ?_
    refine g_go rfl ?_
    exact r14 a1 (a2 + 1)  (sf (sa s 270 (s.1 85).toInt.toNat (s.2.1 264 ((s.1 80) + a2).toInt.toNat)) 85 (((sa s 270 (s.1 85).toInt.toNat (s.2.1 264 ((s.1 80) + a2).toInt.toNat)).1 85) + 1)) h
def wl_225_14 (T : Nat → List Value → yS → (Option Value → yS → Prop) → Prop)  (a1 : Int32) (a2 : Int32) (s : yS) (P : Option Value → yS → Prop) : Prop :=
  ∃ (I : Int32 → Int32 → yS → Prop) (μ : Int32 → Int32 → yS → Nat), I a1 a2 s ∧ ∀ (a1 : Int32) (a2 : Int32) (s : yS), I a1 a2 s → w_225_14 T (fun a1' a2' s' => I a1' a2' s' ∧ μ a1' a2' s' < μ a1 a2 s) a1 a2 s P
theorem kl_225_14 {d : Nat}  {a1 : Int32} {a2 : Int32} {s : yS} {P : Option Value → yS → Prop}  (h : wl_225_14 (Tot d)  a1 a2 s P) : Go d 3 (none) xE_225 (xE_225.drop 14) [.ref 213, .int a1, .int a2, .null, .null] [] s P := by
  obtain ⟨I, μ, h0, h1⟩ := h
  have key : ∀ (n : Nat) (a1 : Int32) (a2 : Int32) (s : yS), μ a1 a2 s = n → I a1 a2 s → Go d 3 (none) xE_225 (xE_225.drop 14) [.ref 213, .int a1, .int a2, .null, .null] [] s P := by
    intro n
    induction n using Nat.strongRecOn with
    | ind n ih =>
      intro a1 a2 s e hI
      exact k_225_14 (fun a1' a2' s' q => ih _ (by rw [← e]; exact q.2) _ _ _ rfl q.1) (h1 a1 a2 s hI)
  exact key _ a1 a2 s rfl h0
def w_225_0 (T : Nat → List Value → yS → (Option Value → yS → Prop) → Prop)  (a1 : Int32) (s : yS) (P : Option Value → yS → Prop) : Prop :=
  (0 ≤ a1.toInt ∧ a1.toInt < 12006) ∧ (∀ s1, s1 = sa s 271 a1.toInt.toNat (s.1 85) → (0 ≤ a1.toInt ∧ a1.toInt < 12006) ∧ (∀ s2, s2 = sa s1 272 a1.toInt.toNat (s1.1 81) → wl_225_14 T  a1 0  s2 P))
set_option maxRecDepth 20000 in
theorem k_225_0 {d : Nat}  {a1 : Int32} {s : yS} {P : Option Value → yS → Prop}  (h : w_225_0 (Tot d)  a1 s P) : Go d 3 (none) xE_225 (xE_225.drop 0) [.ref 213, .int a1, .null, .null, .null] [] s P := by
  unfold w_225_0 at h
  refine g_ld rfl rfl rfl ?_
  refine g_get rfl rfl ?_
  change Go _ _ _ _ _ _ [.ref 271] _ _
  refine g_ld rfl rfl rfl ?_
  refine g_ld rfl rfl rfl ?_
  refine g_get rfl rfl ?_
  change Go _ _ _ _ _ _ [.int (s.1 85), .int a1, .ref 271] _ _
  refine g_ias rfl rfl (i_in (x := a1) rfl h.1) ?_
  replace h := h.2
  replace h := h _ rfl
  refine g_ld rfl rfl rfl ?_
  refine g_get rfl rfl ?_
  change Go _ _ _ _ _ _ [.ref 272] _ _
  refine g_ld rfl rfl rfl ?_
  refine g_ld rfl rfl rfl ?_
  refine g_get rfl rfl ?_
  change Go _ _ _ _ _ _ [.int ((sa s 271 a1.toInt.toNat (s.1 85)).1 81), .int a1, .ref 272] _ _
  refine g_ias rfl rfl (i_in (x := a1) rfl h.1) ?_
  replace h := h.2
  replace h := h _ rfl
  refine g_c [.int 0] (xo_push (.int 0)) rfl rfl ?_
  refine g_st [.ref 213, .int a1, .int 0, .null, .null] rfl rfl rfl ?_
  exact kl_225_14  h
theorem t_225 {d : Nat} {a1 : Int32} {s : yS} {P : Option Value → yS → Prop} (h : w_225_0 (Tot d) a1 s P) : Tot (d + 1) 225 [.ref 213, .int a1] s P := tot_of (E := xE_225) (ml := 3) (ret := none) rfl rfl rfl (k_225_0 h)
/-! typeMethod -/
def w_226_241 (T : Nat → List Value → yS → (Option Value → yS → Prop) → Prop)  (a1 : Int32) (a2 : Int32) (a3 : Int32) (a4 : Int32) (a5 : Int32) (a6 : Int32) (a7 : Int32) (s : yS) (P : Option Value → yS → Prop) : Prop :=
  (-2147483648 ≤ (s.1 70).toInt - 1 ∧ (s.1 70).toInt - 1 ≤ 2147483647) ∧ (∀ x1 : Int32, x1.toInt = (s.1 70).toInt - 1 → ∀ s2, s2 = sf s 70 x1 → T 216 [.ref 213, .int (s2.1 71), .int (s2.1 72)] s2 (fun v4 s3 => v4 = none ∧ (P none s3)))
set_option maxRecDepth 20000 in
theorem k_226_241 {d : Nat}  {a1 : Int32} {a2 : Int32} {a3 : Int32} {a4 : Int32} {a5 : Int32} {a6 : Int32} {a7 : Int32} {s : yS} {P : Option Value → yS → Prop}  (h : w_226_241 (Tot d)  a1 a2 a3 a4 a5 a6 a7 s P) : Go d 8 (none) xE_226 (xE_226.drop 241) [.ref 213, .int a1, .int a2, .int a3, .int a4, .int a5, .int a6, .int a7, .null, .null] [] s P := by
  unfold w_226_241 at h
  refine g_ld rfl rfl rfl ?_
  refine g_c [.ref 213, .ref 213] xo_dup rfl rfl ?_
  refine g_get rfl rfl ?_
  change Go _ _ _ _ _ _ [.int (s.1 70), .ref 213] _ _
  refine g_c [.int 1, .int (s.1 70), .ref 213] (xo_push (.int 1)) rfl rfl ?_
  have ex1 := i_sub (x := s.1 70) (y := 1) rfl (show (1 : Int32).toInt = 1 by decide) h.1
  have cx1 := ck_sub (x := s.1 70) (y := 1) rfl (show (1 : Int32).toInt = 1 by decide) h.1
  replace h := h.2 _ ex1
  refine g_ca [.int ((s.1 70) - 1), .ref 213] xo_isub rfl rfl (fun _ => cx1) ?_
  refine g_put rfl rfl rfl ?_
  replace h := h _ rfl
  refine g_ld rfl rfl rfl ?_
  refine g_ld rfl rfl rfl ?_
  refine g_get rfl rfl ?_
  change Go _ _ _ _ _ _ [.int ((sf s 70 ((s.1 70) - 1)).1 71), .ref 213] _ _
  refine g_ld rfl rfl rfl ?_
  refine g_get rfl rfl ?_
  change Go _ _ _ _ _ _ [.int ((sf s 70 ((s.1 70) - 1)).1 72), .int ((sf s 70 ((s.1 70) - 1)).1 71), .ref 213] _ _
  refine g_call [.ref 213, .int ((sf s 70 ((s.1 70) - 1)).1 71), .int ((sf s 70 ((s.1 70) - 1)).1 72)] [] rfl rfl rfl (Tot.imp h (fun v4 s3 h => ?_))
  obtain ⟨rfl, h⟩ := h
  change Go _ _ _ _ _ _ [] _ _
  exact g_ret0 rfl h
def w_226_213 (T : Nat → List Value → yS → (Option Value → yS → Prop) → Prop)  (a1 : Int32) (a2 : Int32) (a3 : Int32) (a4 : Int32) (a5 : Int32) (a6 : Int32) (a7 : Int32) (s : yS) (P : Option Value → yS → Prop) : Prop :=
  (¬ ((s.1 8).toInt = 0) → w_226_241 T  a1 a2 a3 a4 a5 a6 a7  s P) ∧ ((s.1 8).toInt = 0 → (0 ≤ a3.toInt ∧ a3.toInt < 408) ∧ ((0 ≤ (s.2.1 251 a3.toInt.toNat).toInt ∧ (s.2.1 251 a3.toInt.toNat).toInt < 12006) ∧ ((0 ≤ a3.toInt ∧ a3.toInt < 408) ∧ ((0 ≤ (s.2.1 251 a3.toInt.toNat).toInt ∧ (s.2.1 251 a3.toInt.toNat).toInt < 12006) ∧ (T 191 [.ref 213, .int (s.2.1 231 (s.2.1 251 a3.toInt.toNat).toInt.toNat), .int (s.2.1 232 (s.2.1 251 a3.toInt.toNat).toInt.toNat), .int a5] s (fun v2 s1 => ∃ x3, v2 = some (.int x3) ∧ ((¬ (x3.toInt = 0) → w_226_241 T  a1 a2 a3 a4 a5 a6 a7  s1 P) ∧ (x3.toInt = 0 → (0 ≤ a1.toInt ∧ a1.toInt < 12006) ∧ (T 163 [.ref 213, .int 9, .int (s1.2.1 222 a1.toInt.toNat)] s1 (fun v5 s4 => v5 = none ∧ (w_226_241 T  a1 a2 a3 a4 a5 a6 a7  s4 P)))))))))))
set_option maxRecDepth 20000 in
theorem k_226_213 {d : Nat}  {a1 : Int32} {a2 : Int32} {a3 : Int32} {a4 : Int32} {a5 : Int32} {a6 : Int32} {a7 : Int32} {s : yS} {P : Option Value → yS → Prop}  (h : w_226_213 (Tot d)  a1 a2 a3 a4 a5 a6 a7 s P) : Go d 8 (none) xE_226 (xE_226.drop 213) [.ref 213, .int a1, .int a2, .int a3, .int a4, .int a5, .int a6, .int a7, .null, .null] [] s P := by
  unfold w_226_213 at h
  refine g_ld rfl rfl rfl ?_
  refine g_get rfl rfl ?_
  change Go _ _ _ _ _ _ [.int (s.1 8)] _ _
  refine g_brN rfl rfl ⟨fun hc => ?_, fun hc => ?_⟩
  · replace h := h.1 (fun q => hc ((i_eq (x := s.1 8) (y := 0) rfl (show (0 : Int32).toInt = 0 by decide)).mpr q))
    exact k_226_241  h
  · replace h := h.2 ((i_eq (x := s.1 8) (y := 0) rfl (show (0 : Int32).toInt = 0 by decide)).mp hc)
    refine g_ld rfl rfl rfl ?_
    refine g_ld rfl rfl rfl ?_
    refine g_get rfl rfl ?_
    change Go _ _ _ _ _ _ [.ref 231, .ref 213] _ _
    refine g_ld rfl rfl rfl ?_
    refine g_get rfl rfl ?_
    change Go _ _ _ _ _ _ [.ref 251, .ref 231, .ref 213] _ _
    refine g_ld rfl rfl rfl ?_
    refine g_ial rfl rfl (i_in (x := a3) rfl h.1) ?_
    change Go _ _ _ _ _ _ [.int (s.2.1 251 a3.toInt.toNat), .ref 231, .ref 213] _ _
    replace h := h.2
    refine g_ial rfl rfl (i_in (x := s.2.1 251 a3.toInt.toNat) rfl h.1) ?_
    change Go _ _ _ _ _ _ [.int (s.2.1 231 (s.2.1 251 a3.toInt.toNat).toInt.toNat), .ref 213] _ _
    replace h := h.2
    refine g_ld rfl rfl rfl ?_
    refine g_get rfl rfl ?_
    change Go _ _ _ _ _ _ [.ref 232, .int (s.2.1 231 (s.2.1 251 a3.toInt.toNat).toInt.toNat), .ref 213] _ _
    refine g_ld rfl rfl rfl ?_
    refine g_get rfl rfl ?_
    change Go _ _ _ _ _ _ [.ref 251, .ref 232, .int (s.2.1 231 (s.2.1 251 a3.toInt.toNat).toInt.toNat), .ref 213] _ _
    refine g_ld rfl rfl rfl ?_
    refine g_ial rfl rfl (i_in (x := a3) rfl h.1) ?_
    change Go _ _ _ _ _ _ [.int (s.2.1 251 a3.toInt.toNat), .ref 232, .int (s.2.1 231 (s.2.1 251 a3.toInt.toNat).toInt.toNat), .ref 213] _ _
    replace h := h.2
    refine g_ial rfl rfl (i_in (x := s.2.1 251 a3.toInt.toNat) rfl h.1) ?_
    change Go _ _ _ _ _ _ [.int (s.2.1 232 (s.2.1 251 a3.toInt.toNat).toInt.toNat), .int (s.2.1 231 (s.2.1 251 a3.toInt.toNat).toInt.toNat), .ref 213] _ _
    replace h := h.2
    refine g_ld rfl rfl rfl ?_
    refine g_call [.ref 213, .int (s.2.1 231 (s.2.1 251 a3.toInt.toNat).toInt.toNat), .int (s.2.1 232 (s.2.1 251 a3.toInt.toNat).toInt.toNat), .int a5] [] rfl rfl rfl (Tot.imp h (fun v2 s1 h => ?_))
    obtain ⟨x3, rfl, h⟩ := h
    change Go _ _ _ _ _ _ [.int x3] _ _
    refine g_brN rfl rfl ⟨fun hc => ?_, fun hc => ?_⟩
    · replace h := h.1 (fun q => hc ((i_eq (x := x3) (y := 0) rfl (show (0 : Int32).toInt = 0 by decide)).mpr q))
      exact k_226_241  h
    · replace h := h.2 ((i_eq (x := x3) (y := 0) rfl (show (0 : Int32).toInt = 0 by decide)).mp hc)
      refine g_ld rfl rfl rfl ?_
      refine g_c [.int 9, .ref 213] (xo_push (.int 9)) rfl rfl ?_
      refine g_ld rfl rfl rfl ?_
      refine g_get rfl rfl ?_
      change Go _ _ _ _ _ _ [.ref 222, .int 9, .ref 213] _ _
      refine g_ld rfl rfl rfl ?_
      refine g_ial rfl rfl (i_in (x := a1) rfl h.1) ?_
      change Go _ _ _ _ _ _ [.int (s1.2.1 222 a1.toInt.toNat), .int 9, .ref 213] _ _
      replace h := h.2
      refine g_call [.ref 213, .int 9, .int (s1.2.1 222 a1.toInt.toNat)] [] rfl rfl rfl (Tot.imp h (fun v5 s4 h => ?_))
      obtain ⟨rfl, h⟩ := h
      change Go _ _ _ _ _ _ [] _ _
      exact k_226_241  h
def w_226_189 (T : Nat → List Value → yS → (Option Value → yS → Prop) → Prop) (R189 : Int32 → Int32 → Int32 → Int32 → Int32 → Int32 → Int32 → yS → Prop) (a1 : Int32) (a2 : Int32) (a3 : Int32) (a4 : Int32) (a5 : Int32) (a6 : Int32) (a7 : Int32) (s : yS) (P : Option Value → yS → Prop) : Prop :=
  (a7.toInt < 0 → w_226_213 T  a1 a2 a3 a4 a5 a6 a7  s P) ∧ (¬ (a7.toInt < 0) → (¬ ((s.1 8).toInt = 0) → w_226_213 T  a1 a2 a3 a4 a5 a6 a7  s P) ∧ ((s.1 8).toInt = 0 → (-2147483648 ≤ 6 * a3.toInt ∧ 6 * a3.toInt ≤ 2147483647) ∧ (∀ x1 : Int32, x1.toInt = 6 * a3.toInt → (-2147483648 ≤ x1.toInt + a6.toInt ∧ x1.toInt + a6.toInt ≤ 2147483647) ∧ (∀ x2 : Int32, x2.toInt = x1.toInt + a6.toInt → (0 ≤ x2.toInt ∧ x2.toInt < 2448) ∧ (T 222 [.ref 213, .int a7, .int (s.2.1 250 x2.toInt.toNat), .int a5] s (fun v4 s3 => v4 = none ∧ ((-2147483648 ≤ a6.toInt + 1 ∧ a6.toInt + 1 ≤ 2147483647) ∧ (∀ x5 : Int32, x5.toInt = a6.toInt + 1 → (0 ≤ a7.toInt ∧ a7.toInt < 12006) ∧ (R189 a1 a2 a3 a4 a5 x5 (s3.2.1 225 a7.toInt.toNat)  s3)))))))))
set_option maxRecDepth 20000 in
theorem k_226_189 {d : Nat} {R189 : Int32 → Int32 → Int32 → Int32 → Int32 → Int32 → Int32 → yS → Prop} {a1 : Int32} {a2 : Int32} {a3 : Int32} {a4 : Int32} {a5 : Int32} {a6 : Int32} {a7 : Int32} {s : yS} {P : Option Value → yS → Prop} (r189 : ∀ a1 a2 a3 a4 a5 a6 a7 s, R189 a1 a2 a3 a4 a5 a6 a7 s → Go d 8 (none) xE_226 (xE_226.drop 189) [.ref 213, .int a1, .int a2, .int a3, .int a4, .int a5, .int a6, .int a7, .null, .null] [] s P) (h : w_226_189 (Tot d) R189 a1 a2 a3 a4 a5 a6 a7 s P) : Go d 8 (none) xE_226 (xE_226.drop 189) [.ref 213, .int a1, .int a2, .int a3, .int a4, .int a5, .int a6, .int a7, .null, .null] [] s P := by
  unfold w_226_189 at h
  refine g_ld rfl rfl rfl ?_
  refine g_brP rfl rfl ⟨fun hc => ?_, fun hc => ?_⟩
  · replace h := h.1 ((i_lt (x := a7) (y := 0) rfl (show (0 : Int32).toInt = 0 by decide)).mp hc)
    exact k_226_213  h
  · replace h := h.2 (fun q => hc ((i_lt (x := a7) (y := 0) rfl (show (0 : Int32).toInt = 0 by decide)).mpr q))
    refine g_ld rfl rfl rfl ?_
    refine g_get rfl rfl ?_
    change Go _ _ _ _ _ _ [.int (s.1 8)] _ _
    refine g_brN rfl rfl ⟨fun hc => ?_, fun hc => ?_⟩
    · replace h := h.1 (fun q => hc ((i_eq (x := s.1 8) (y := 0) rfl (show (0 : Int32).toInt = 0 by decide)).mpr q))
      exact k_226_213  h
    · replace h := h.2 ((i_eq (x := s.1 8) (y := 0) rfl (show (0 : Int32).toInt = 0 by decide)).mp hc)
      refine g_ld rfl rfl rfl ?_
      refine g_ld rfl rfl rfl ?_
      refine g_ld rfl rfl rfl ?_
      refine g_get rfl rfl ?_
      change Go _ _ _ _ _ _ [.ref 250, .int a7, .ref 213] _ _
      refine g_c [.int 6, .ref 250, .int a7, .ref 213] (xo_push (.int 6)) rfl rfl ?_
      refine g_ld rfl rfl rfl ?_
      have ex1 := i_mul (x := 6) (y := a3) (show (6 : Int32).toInt = 6 by decide) rfl h.1
      have cx1 := ck_mul (x := 6) (y := a3) (show (6 : Int32).toInt = 6 by decide) rfl h.1
      replace h := h.2 _ ex1
      refine g_ca [.int (6 * a3), .ref 250, .int a7, .ref 213] xo_imul rfl rfl (fun _ => cx1) ?_
      refine g_ld rfl rfl rfl ?_
      have ex2 := i_add (x := (6 * a3)) (y := a6) rfl rfl h.1
      have cx2 := ck_add (x := (6 * a3)) (y := a6) rfl rfl h.1
      replace h := h.2 _ ex2
      refine g_ca [.int ((6 * a3) + a6), .ref 250, .int a7, .ref 213] xo_iadd rfl rfl (fun _ => cx2) ?_
      refine g_ial rfl rfl (i_in (x := ((6 * a3) + a6)) rfl h.1) ?_
      change Go _ _ _ _ _ _ [.int (s.2.1 250 ((6 * a3) + a6).toInt.toNat), .int a7, .ref 213] _ _
      replace h := h.2
      refine g_ld rfl rfl rfl ?_
      refine g_call [.ref 213, .int a7, .int (s.2.1 250 ((6 * a3) + a6).toInt.toNat), .int a5] [] rfl rfl rfl (Tot.imp h (fun v4 s3 h => ?_))
      obtain ⟨rfl, h⟩ := h
      change Go _ _ _ _ _ _ [] _ _
      have ex5 := i_add (x := a6) (y := 1) rfl (show (1 : Int32).toInt = 1 by decide) h.1
      have cx5 := ck_inc (x := a6) (n := 1) rfl h.1
      replace h := h.2 _ ex5
      refine g_inc [.ref 213, .int a1, .int a2, .int a3, .int a4, .int a5, .int (a6 + 1), .int a7, .null, .null] rfl rfl rfl rfl cx5 ?_
      refine g_ld rfl rfl rfl ?_
      refine g_get rfl rfl ?_
      change Go _ _ _ _ _ _ [.ref 225] _ _
      refine g_ld rfl rfl rfl ?_
      refine g_ial rfl rfl (i_in (x := a7) rfl h.1) ?_
      change Go _ _ _ _ _ _ [.int (s3.2.1 225 a7.toInt.toNat)] _ _
      replace h := h.2
      refine g_st [.ref 213, .int a1, .int a2, .int a3, .int a4, .int a5, .int (a6 + 1), .int (s3.2.1 225 a7.toInt.toNat), .null, .null] rfl rfl rfl ?_
      refine g_go rfl ?_
      exact r189 a1 a2 a3 a4 a5 (a6 + 1) (s3.2.1 225 a7.toInt.toNat)  s3 h
def wl_226_189 (T : Nat → List Value → yS → (Option Value → yS → Prop) → Prop)  (a1 : Int32) (a2 : Int32) (a3 : Int32) (a4 : Int32) (a5 : Int32) (a6 : Int32) (a7 : Int32) (s : yS) (P : Option Value → yS → Prop) : Prop :=
  ∃ (I : Int32 → Int32 → Int32 → Int32 → Int32 → Int32 → Int32 → yS → Prop) (μ : Int32 → Int32 → Int32 → Int32 → Int32 → Int32 → Int32 → yS → Nat), I a1 a2 a3 a4 a5 a6 a7 s ∧ ∀ (a1 : Int32) (a2 : Int32) (a3 : Int32) (a4 : Int32) (a5 : Int32) (a6 : Int32) (a7 : Int32) (s : yS), I a1 a2 a3 a4 a5 a6 a7 s → w_226_189 T (fun a1' a2' a3' a4' a5' a6' a7' s' => I a1' a2' a3' a4' a5' a6' a7' s' ∧ μ a1' a2' a3' a4' a5' a6' a7' s' < μ a1 a2 a3 a4 a5 a6 a7 s) a1 a2 a3 a4 a5 a6 a7 s P
theorem kl_226_189 {d : Nat}  {a1 : Int32} {a2 : Int32} {a3 : Int32} {a4 : Int32} {a5 : Int32} {a6 : Int32} {a7 : Int32} {s : yS} {P : Option Value → yS → Prop}  (h : wl_226_189 (Tot d)  a1 a2 a3 a4 a5 a6 a7 s P) : Go d 8 (none) xE_226 (xE_226.drop 189) [.ref 213, .int a1, .int a2, .int a3, .int a4, .int a5, .int a6, .int a7, .null, .null] [] s P := by
  obtain ⟨I, μ, h0, h1⟩ := h
  have key : ∀ (n : Nat) (a1 : Int32) (a2 : Int32) (a3 : Int32) (a4 : Int32) (a5 : Int32) (a6 : Int32) (a7 : Int32) (s : yS), μ a1 a2 a3 a4 a5 a6 a7 s = n → I a1 a2 a3 a4 a5 a6 a7 s → Go d 8 (none) xE_226 (xE_226.drop 189) [.ref 213, .int a1, .int a2, .int a3, .int a4, .int a5, .int a6, .int a7, .null, .null] [] s P := by
    intro n
    induction n using Nat.strongRecOn with
    | ind n ih =>
      intro a1 a2 a3 a4 a5 a6 a7 s e hI
      exact k_226_189 (fun a1' a2' a3' a4' a5' a6' a7' s' q => ih _ (by rw [← e]; exact q.2) _ _ _ _ _ _ _ _ rfl q.1) (h1 a1 a2 a3 a4 a5 a6 a7 s hI)
  exact key _ a1 a2 a3 a4 a5 a6 a7 s rfl h0
def w_226_182 (T : Nat → List Value → yS → (Option Value → yS → Prop) → Prop)  (a1 : Int32) (a2 : Int32) (a3 : Int32) (a4 : Int32) (a5 : Int32) (a6 : Int32) (a7 : Int32) (s : yS) (P : Option Value → yS → Prop) : Prop :=
  (0 ≤ a1.toInt ∧ a1.toInt < 12006) ∧ (wl_226_189 T  a1 a2 a3 a4 a5 0 (s.2.1 224 a1.toInt.toNat)  s P)
set_option maxRecDepth 20000 in
theorem k_226_182 {d : Nat}  {a1 : Int32} {a2 : Int32} {a3 : Int32} {a4 : Int32} {a5 : Int32} {a6 : Int32} {a7 : Int32} {s : yS} {P : Option Value → yS → Prop}  (h : w_226_182 (Tot d)  a1 a2 a3 a4 a5 a6 a7 s P) : Go d 8 (none) xE_226 (xE_226.drop 182) [.ref 213, .int a1, .int a2, .int a3, .int a4, .int a5, .int a6, .int a7, .null, .null] [] s P := by
  unfold w_226_182 at h
  refine g_c [.int 0] (xo_push (.int 0)) rfl rfl ?_
  refine g_st [.ref 213, .int a1, .int a2, .int a3, .int a4, .int a5, .int 0, .int a7, .null, .null] rfl rfl rfl ?_
  refine g_ld rfl rfl rfl ?_
  refine g_get rfl rfl ?_
  change Go _ _ _ _ _ _ [.ref 224] _ _
  refine g_ld rfl rfl rfl ?_
  refine g_ial rfl rfl (i_in (x := a1) rfl h.1) ?_
  change Go _ _ _ _ _ _ [.int (s.2.1 224 a1.toInt.toNat)] _ _
  replace h := h.2
  refine g_st [.ref 213, .int a1, .int a2, .int a3, .int a4, .int a5, .int 0, .int (s.2.1 224 a1.toInt.toNat), .null, .null] rfl rfl rfl ?_
  exact kl_226_189  h
def w_226_147 (T : Nat → List Value → yS → (Option Value → yS → Prop) → Prop) (R147 : Int32 → Int32 → Int32 → Int32 → Int32 → Int32 → Int32 → yS → Prop) (a1 : Int32) (a2 : Int32) (a3 : Int32) (a4 : Int32) (a5 : Int32) (a6 : Int32) (a7 : Int32) (s : yS) (P : Option Value → yS → Prop) : Prop :=
  (a7.toInt < 0 → w_226_182 T  a1 a2 a3 a4 a5 a6 a7  s P) ∧ (¬ (a7.toInt < 0) → (¬ ((s.1 8).toInt = 0) → w_226_182 T  a1 a2 a3 a4 a5 a6 a7  s P) ∧ ((s.1 8).toInt = 0 → (0 ≤ a7.toInt ∧ a7.toInt < 12006) ∧ ((0 ≤ a7.toInt ∧ a7.toInt < 12006) ∧ ((-2147483648 ≤ 6 * a3.toInt ∧ 6 * a3.toInt ≤ 2147483647) ∧ (∀ x1 : Int32, x1.toInt = 6 * a3.toInt → (-2147483648 ≤ x1.toInt + a6.toInt ∧ x1.toInt + a6.toInt ≤ 2147483647) ∧ (∀ x2 : Int32, x2.toInt = x1.toInt + a6.toInt → (0 ≤ x2.toInt ∧ x2.toInt < 2448) ∧ ((0 ≤ a7.toInt ∧ a7.toInt < 12006) ∧ (T 212 [.ref 213, .int (s.2.1 231 a7.toInt.toNat), .int (s.2.1 232 a7.toInt.toNat), .int (s.2.1 247 x2.toInt.toNat), .int a5, .int (s.2.1 222 a7.toInt.toNat)] s (fun v4 s3 => v4 = none ∧ ((-2147483648 ≤ a6.toInt + 1 ∧ a6.toInt + 1 ≤ 2147483647) ∧ (∀ x5 : Int32, x5.toInt = a6.toInt + 1 → (0 ≤ a7.toInt ∧ a7.toInt < 12006) ∧ (R147 a1 a2 a3 a4 a5 x5 (s3.2.1 225 a7.toInt.toNat)  s3))))))))))))
set_option maxRecDepth 20000 in
theorem k_226_147 {d : Nat} {R147 : Int32 → Int32 → Int32 → Int32 → Int32 → Int32 → Int32 → yS → Prop} {a1 : Int32} {a2 : Int32} {a3 : Int32} {a4 : Int32} {a5 : Int32} {a6 : Int32} {a7 : Int32} {s : yS} {P : Option Value → yS → Prop} (r147 : ∀ a1 a2 a3 a4 a5 a6 a7 s, R147 a1 a2 a3 a4 a5 a6 a7 s → Go d 8 (none) xE_226 (xE_226.drop 147) [.ref 213, .int a1, .int a2, .int a3, .int a4, .int a5, .int a6, .int a7, .null, .null] [] s P) (h : w_226_147 (Tot d) R147 a1 a2 a3 a4 a5 a6 a7 s P) : Go d 8 (none) xE_226 (xE_226.drop 147) [.ref 213, .int a1, .int a2, .int a3, .int a4, .int a5, .int a6, .int a7, .null, .null] [] s P := by
  unfold w_226_147 at h
  refine g_ld rfl rfl rfl ?_
  refine g_brP rfl rfl ⟨fun hc => ?_, fun hc => ?_⟩
  · replace h := h.1 ((i_lt (x := a7) (y := 0) rfl (show (0 : Int32).toInt = 0 by decide)).mp hc)
    exact k_226_182  h
  · replace h := h.2 (fun q => hc ((i_lt (x := a7) (y := 0) rfl (show (0 : Int32).toInt = 0 by decide)).mpr q))
    refine g_ld rfl rfl rfl ?_
    refine g_get rfl rfl ?_
    change Go _ _ _ _ _ _ [.int (s.1 8)] _ _
    refine g_brN rfl rfl ⟨fun hc => ?_, fun hc => ?_⟩
    · replace h := h.1 (fun q => hc ((i_eq (x := s.1 8) (y := 0) rfl (show (0 : Int32).toInt = 0 by decide)).mpr q))
      exact k_226_182  h
    · replace h := h.2 ((i_eq (x := s.1 8) (y := 0) rfl (show (0 : Int32).toInt = 0 by decide)).mp hc)
      refine g_ld rfl rfl rfl ?_
      refine g_ld rfl rfl rfl ?_
      refine g_get rfl rfl ?_
      change Go _ _ _ _ _ _ [.ref 231, .ref 213] _ _
      refine g_ld rfl rfl rfl ?_
      refine g_ial rfl rfl (i_in (x := a7) rfl h.1) ?_
      change Go _ _ _ _ _ _ [.int (s.2.1 231 a7.toInt.toNat), .ref 213] _ _
      replace h := h.2
      refine g_ld rfl rfl rfl ?_
      refine g_get rfl rfl ?_
      change Go _ _ _ _ _ _ [.ref 232, .int (s.2.1 231 a7.toInt.toNat), .ref 213] _ _
      refine g_ld rfl rfl rfl ?_
      refine g_ial rfl rfl (i_in (x := a7) rfl h.1) ?_
      change Go _ _ _ _ _ _ [.int (s.2.1 232 a7.toInt.toNat), .int (s.2.1 231 a7.toInt.toNat), .ref 213] _ _
      replace h := h.2
      refine g_ld rfl rfl rfl ?_
      refine g_get rfl rfl ?_
      change Go _ _ _ _ _ _ [.ref 247, .int (s.2.1 232 a7.toInt.toNat), .int (s.2.1 231 a7.toInt.toNat), .ref 213] _ _
      refine g_c [.int 6, .ref 247, .int (s.2.1 232 a7.toInt.toNat), .int (s.2.1 231 a7.toInt.toNat), .ref 213] (xo_push (.int 6)) rfl rfl ?_
      refine g_ld rfl rfl rfl ?_
      have ex1 := i_mul (x := 6) (y := a3) (show (6 : Int32).toInt = 6 by decide) rfl h.1
      have cx1 := ck_mul (x := 6) (y := a3) (show (6 : Int32).toInt = 6 by decide) rfl h.1
      replace h := h.2 _ ex1
      refine g_ca [.int (6 * a3), .ref 247, .int (s.2.1 232 a7.toInt.toNat), .int (s.2.1 231 a7.toInt.toNat), .ref 213] xo_imul rfl rfl (fun _ => cx1) ?_
      refine g_ld rfl rfl rfl ?_
      have ex2 := i_add (x := (6 * a3)) (y := a6) rfl rfl h.1
      have cx2 := ck_add (x := (6 * a3)) (y := a6) rfl rfl h.1
      replace h := h.2 _ ex2
      refine g_ca [.int ((6 * a3) + a6), .ref 247, .int (s.2.1 232 a7.toInt.toNat), .int (s.2.1 231 a7.toInt.toNat), .ref 213] xo_iadd rfl rfl (fun _ => cx2) ?_
      refine g_ial rfl rfl (i_in (x := ((6 * a3) + a6)) rfl h.1) ?_
      change Go _ _ _ _ _ _ [.int (s.2.1 247 ((6 * a3) + a6).toInt.toNat), .int (s.2.1 232 a7.toInt.toNat), .int (s.2.1 231 a7.toInt.toNat), .ref 213] _ _
      replace h := h.2
      refine g_ld rfl rfl rfl ?_
      refine g_ld rfl rfl rfl ?_
      refine g_get rfl rfl ?_
      change Go _ _ _ _ _ _ [.ref 222, .int a5, .int (s.2.1 247 ((6 * a3) + a6).toInt.toNat), .int (s.2.1 232 a7.toInt.toNat), .int (s.2.1 231 a7.toInt.toNat), .ref 213] _ _
      refine g_ld rfl rfl rfl ?_
      refine g_ial rfl rfl (i_in (x := a7) rfl h.1) ?_
      change Go _ _ _ _ _ _ [.int (s.2.1 222 a7.toInt.toNat), .int a5, .int (s.2.1 247 ((6 * a3) + a6).toInt.toNat), .int (s.2.1 232 a7.toInt.toNat), .int (s.2.1 231 a7.toInt.toNat), .ref 213] _ _
      replace h := h.2
      refine g_call [.ref 213, .int (s.2.1 231 a7.toInt.toNat), .int (s.2.1 232 a7.toInt.toNat), .int (s.2.1 247 ((6 * a3) + a6).toInt.toNat), .int a5, .int (s.2.1 222 a7.toInt.toNat)] [] rfl rfl rfl (Tot.imp h (fun v4 s3 h => ?_))
      obtain ⟨rfl, h⟩ := h
      change Go _ _ _ _ _ _ [] _ _
      have ex5 := i_add (x := a6) (y := 1) rfl (show (1 : Int32).toInt = 1 by decide) h.1
      have cx5 := ck_inc (x := a6) (n := 1) rfl h.1
      replace h := h.2 _ ex5
      refine g_inc [.ref 213, .int a1, .int a2, .int a3, .int a4, .int a5, .int (a6 + 1), .int a7, .null, .null] rfl rfl rfl rfl cx5 ?_
      refine g_ld rfl rfl rfl ?_
      refine g_get rfl rfl ?_
      change Go _ _ _ _ _ _ [.ref 225] _ _
      refine g_ld rfl rfl rfl ?_
      refine g_ial rfl rfl (i_in (x := a7) rfl h.1) ?_
      change Go _ _ _ _ _ _ [.int (s3.2.1 225 a7.toInt.toNat)] _ _
      replace h := h.2
      refine g_st [.ref 213, .int a1, .int a2, .int a3, .int a4, .int a5, .int (a6 + 1), .int (s3.2.1 225 a7.toInt.toNat), .null, .null] rfl rfl rfl ?_
      refine g_go rfl ?_
      exact r147 a1 a2 a3 a4 a5 (a6 + 1) (s3.2.1 225 a7.toInt.toNat)  s3 h
def wl_226_147 (T : Nat → List Value → yS → (Option Value → yS → Prop) → Prop)  (a1 : Int32) (a2 : Int32) (a3 : Int32) (a4 : Int32) (a5 : Int32) (a6 : Int32) (a7 : Int32) (s : yS) (P : Option Value → yS → Prop) : Prop :=
  ∃ (I : Int32 → Int32 → Int32 → Int32 → Int32 → Int32 → Int32 → yS → Prop) (μ : Int32 → Int32 → Int32 → Int32 → Int32 → Int32 → Int32 → yS → Nat), I a1 a2 a3 a4 a5 a6 a7 s ∧ ∀ (a1 : Int32) (a2 : Int32) (a3 : Int32) (a4 : Int32) (a5 : Int32) (a6 : Int32) (a7 : Int32) (s : yS), I a1 a2 a3 a4 a5 a6 a7 s → w_226_147 T (fun a1' a2' a3' a4' a5' a6' a7' s' => I a1' a2' a3' a4' a5' a6' a7' s' ∧ μ a1' a2' a3' a4' a5' a6' a7' s' < μ a1 a2 a3 a4 a5 a6 a7 s) a1 a2 a3 a4 a5 a6 a7 s P
theorem kl_226_147 {d : Nat}  {a1 : Int32} {a2 : Int32} {a3 : Int32} {a4 : Int32} {a5 : Int32} {a6 : Int32} {a7 : Int32} {s : yS} {P : Option Value → yS → Prop}  (h : wl_226_147 (Tot d)  a1 a2 a3 a4 a5 a6 a7 s P) : Go d 8 (none) xE_226 (xE_226.drop 147) [.ref 213, .int a1, .int a2, .int a3, .int a4, .int a5, .int a6, .int a7, .null, .null] [] s P := by
  obtain ⟨I, μ, h0, h1⟩ := h
  have key : ∀ (n : Nat) (a1 : Int32) (a2 : Int32) (a3 : Int32) (a4 : Int32) (a5 : Int32) (a6 : Int32) (a7 : Int32) (s : yS), μ a1 a2 a3 a4 a5 a6 a7 s = n → I a1 a2 a3 a4 a5 a6 a7 s → Go d 8 (none) xE_226 (xE_226.drop 147) [.ref 213, .int a1, .int a2, .int a3, .int a4, .int a5, .int a6, .int a7, .null, .null] [] s P := by
    intro n
    induction n using Nat.strongRecOn with
    | ind n ih =>
      intro a1 a2 a3 a4 a5 a6 a7 s e hI
      exact k_226_147 (fun a1' a2' a3' a4' a5' a6' a7' s' q => ih _ (by rw [← e]; exact q.2) _ _ _ _ _ _ _ _ rfl q.1) (h1 a1 a2 a3 a4 a5 a6 a7 s hI)
  exact key _ a1 a2 a3 a4 a5 a6 a7 s rfl h0
def w_226_119 (T : Nat → List Value → yS → (Option Value → yS → Prop) → Prop)  (a1 : Int32) (a2 : Int32) (a3 : Int32) (a4 : Int32) (a5 : Int32) (s : yS) (P : Option Value → yS → Prop) : Prop :=
  ((s.1 8).toInt ≤ 0 → T 188 [.ref 213] s (fun v2 s1 => ∃ x3, v2 = some (.int x3) ∧ (T 189 [.ref 213, .int x3, .int 0, .int a4, .int a2] s1 (fun v5 s4 => v5 = none ∧ ((0 ≤ a1.toInt ∧ a1.toInt < 12006) ∧ (T 227 [.ref 213, .int x3, .int a3, .int (s4.2.1 229 a1.toInt.toNat)] s4 (fun v7 s6 => v7 = none ∧ ((0 ≤ a1.toInt ∧ a1.toInt < 12006) ∧ (wl_226_147 T  a1 a2 a3 a4 x3 0 (s6.2.1 229 a1.toInt.toNat)  s6 P))))))))) ∧ (¬ ((s.1 8).toInt ≤ 0) → P none s)
set_option maxRecDepth 20000 in
theorem k_226_119 {d : Nat}  {a1 : Int32} {a2 : Int32} {a3 : Int32} {a4 : Int32} {a5 : Int32} {s : yS} {P : Option Value → yS → Prop}  (h : w_226_119 (Tot d)  a1 a2 a3 a4 a5 s P) : Go d 8 (none) xE_226 (xE_226.drop 119) [.ref 213, .int a1, .int a2, .int a3, .int a4, .int a5, .null, .null, .null, .null] [] s P := by
  unfold w_226_119 at h
  refine g_ld rfl rfl rfl ?_
  refine g_get rfl rfl ?_
  change Go _ _ _ _ _ _ [.int (s.1 8)] _ _
  refine g_brP rfl rfl ⟨fun hc => ?_, fun hc => ?_⟩
  · replace h := h.1 ((i_le (x := s.1 8) (y := 0) rfl (show (0 : Int32).toInt = 0 by decide)).mp hc)
    refine g_ld rfl rfl rfl ?_
    refine g_call [.ref 213] [] rfl rfl rfl (Tot.imp h (fun v2 s1 h => ?_))
    obtain ⟨x3, rfl, h⟩ := h
    change Go _ _ _ _ _ _ [.int x3] _ _
    refine g_st [.ref 213, .int a1, .int a2, .int a3, .int a4, .int x3, .null, .null, .null, .null] rfl rfl rfl ?_
    refine g_ld rfl rfl rfl ?_
    refine g_ld rfl rfl rfl ?_
    refine g_c [.int 0, .int x3, .ref 213] (xo_push (.int 0)) rfl rfl ?_
    refine g_ld rfl rfl rfl ?_
    refine g_ld rfl rfl rfl ?_
    refine g_call [.ref 213, .int x3, .int 0, .int a4, .int a2] [] rfl rfl rfl (Tot.imp h (fun v5 s4 h => ?_))
    obtain ⟨rfl, h⟩ := h
    change Go _ _ _ _ _ _ [] _ _
    refine g_ld rfl rfl rfl ?_
    refine g_ld rfl rfl rfl ?_
    refine g_ld rfl rfl rfl ?_
    refine g_ld rfl rfl rfl ?_
    refine g_get rfl rfl ?_
    change Go _ _ _ _ _ _ [.ref 229, .int a3, .int x3, .ref 213] _ _
    refine g_ld rfl rfl rfl ?_
    refine g_ial rfl rfl (i_in (x := a1) rfl h.1) ?_
    change Go _ _ _ _ _ _ [.int (s4.2.1 229 a1.toInt.toNat), .int a3, .int x3, .ref 213] _ _
    replace h := h.2
    refine g_call [.ref 213, .int x3, .int a3, .int (s4.2.1 229 a1.toInt.toNat)] [] rfl rfl rfl (Tot.imp h (fun v7 s6 h => ?_))
    obtain ⟨rfl, h⟩ := h
    change Go _ _ _ _ _ _ [] _ _
    refine g_c [.int 0] (xo_push (.int 0)) rfl rfl ?_
    refine g_st [.ref 213, .int a1, .int a2, .int a3, .int a4, .int x3, .int 0, .null, .null, .null] rfl rfl rfl ?_
    refine g_ld rfl rfl rfl ?_
    refine g_get rfl rfl ?_
    change Go _ _ _ _ _ _ [.ref 229] _ _
    refine g_ld rfl rfl rfl ?_
    refine g_ial rfl rfl (i_in (x := a1) rfl h.1) ?_
    change Go _ _ _ _ _ _ [.int (s6.2.1 229 a1.toInt.toNat)] _ _
    replace h := h.2
    refine g_st [.ref 213, .int a1, .int a2, .int a3, .int a4, .int x3, .int 0, .int (s6.2.1 229 a1.toInt.toNat), .null, .null] rfl rfl rfl ?_
    exact kl_226_147  h
  · replace h := h.2 (fun q => hc ((i_le (x := s.1 8) (y := 0) rfl (show (0 : Int32).toInt = 0 by decide)).mpr q))
    exact g_ret0 rfl h
def w_226_105 (T : Nat → List Value → yS → (Option Value → yS → Prop) → Prop) (R105 : Int32 → Int32 → Int32 → Int32 → Int32 → yS → Prop) (a1 : Int32) (a2 : Int32) (a3 : Int32) (a4 : Int32) (a5 : Int32) (s : yS) (P : Option Value → yS → Prop) : Prop :=
  (a5.toInt < 0 → w_226_119 T  a1 a2 a3 a4 a5  s P) ∧ (¬ (a5.toInt < 0) → (¬ ((s.1 8).toInt = 0) → w_226_119 T  a1 a2 a3 a4 a5  s P) ∧ ((s.1 8).toInt = 0 → T 211 [.ref 213, .int a5] s (fun v2 s1 => v2 = none ∧ ((0 ≤ a5.toInt ∧ a5.toInt < 12006) ∧ (R105 a1 a2 a3 a4 (s1.2.1 225 a5.toInt.toNat)  s1)))))
set_option maxRecDepth 20000 in
theorem k_226_105 {d : Nat} {R105 : Int32 → Int32 → Int32 → Int32 → Int32 → yS → Prop} {a1 : Int32} {a2 : Int32} {a3 : Int32} {a4 : Int32} {a5 : Int32} {s : yS} {P : Option Value → yS → Prop} (r105 : ∀ a1 a2 a3 a4 a5 s, R105 a1 a2 a3 a4 a5 s → Go d 8 (none) xE_226 (xE_226.drop 105) [.ref 213, .int a1, .int a2, .int a3, .int a4, .int a5, .null, .null, .null, .null] [] s P) (h : w_226_105 (Tot d) R105 a1 a2 a3 a4 a5 s P) : Go d 8 (none) xE_226 (xE_226.drop 105) [.ref 213, .int a1, .int a2, .int a3, .int a4, .int a5, .null, .null, .null, .null] [] s P := by
  unfold w_226_105 at h
  refine g_ld rfl rfl rfl ?_
  refine g_brP rfl rfl ⟨fun hc => ?_, fun hc => ?_⟩
  · replace h := h.1 ((i_lt (x := a5) (y := 0) rfl (show (0 : Int32).toInt = 0 by decide)).mp hc)
    exact k_226_119  h
  · replace h := h.2 (fun q => hc ((i_lt (x := a5) (y := 0) rfl (show (0 : Int32).toInt = 0 by decide)).mpr q))
    refine g_ld rfl rfl rfl ?_
    refine g_get rfl rfl ?_
    change Go _ _ _ _ _ _ [.int (s.1 8)] _ _
    refine g_brN rfl rfl ⟨fun hc => ?_, fun hc => ?_⟩
    · replace h := h.1 (fun q => hc ((i_eq (x := s.1 8) (y := 0) rfl (show (0 : Int32).toInt = 0 by decide)).mpr q))
      exact k_226_119  h
    · replace h := h.2 ((i_eq (x := s.1 8) (y := 0) rfl (show (0 : Int32).toInt = 0 by decide)).mp hc)
      refine g_ld rfl rfl rfl ?_
      refine g_ld rfl rfl rfl ?_
      refine g_call [.ref 213, .int a5] [] rfl rfl rfl (Tot.imp h (fun v2 s1 h => ?_))
      obtain ⟨rfl, h⟩ := h
      change Go _ _ _ _ _ _ [] _ _
      refine g_ld rfl rfl rfl ?_
      refine g_get rfl rfl ?_
      change Go _ _ _ _ _ _ [.ref 225] _ _
      refine g_ld rfl rfl rfl ?_
      refine g_ial rfl rfl (i_in (x := a5) rfl h.1) ?_
      change Go _ _ _ _ _ _ [.int (s1.2.1 225 a5.toInt.toNat)] _ _
      replace h := h.2
      refine g_st [.ref 213, .int a1, .int a2, .int a3, .int a4, .int (s1.2.1 225 a5.toInt.toNat), .null, .null, .null, .null] rfl rfl rfl ?_
      refine g_go rfl ?_
      exact r105 a1 a2 a3 a4 (s1.2.1 225 a5.toInt.toNat)  s1 h
def wl_226_105 (T : Nat → List Value → yS → (Option Value → yS → Prop) → Prop)  (a1 : Int32) (a2 : Int32) (a3 : Int32) (a4 : Int32) (a5 : Int32) (s : yS) (P : Option Value → yS → Prop) : Prop :=
  ∃ (I : Int32 → Int32 → Int32 → Int32 → Int32 → yS → Prop) (μ : Int32 → Int32 → Int32 → Int32 → Int32 → yS → Nat), I a1 a2 a3 a4 a5 s ∧ ∀ (a1 : Int32) (a2 : Int32) (a3 : Int32) (a4 : Int32) (a5 : Int32) (s : yS), I a1 a2 a3 a4 a5 s → w_226_105 T (fun a1' a2' a3' a4' a5' s' => I a1' a2' a3' a4' a5' s' ∧ μ a1' a2' a3' a4' a5' s' < μ a1 a2 a3 a4 a5 s) a1 a2 a3 a4 a5 s P
theorem kl_226_105 {d : Nat}  {a1 : Int32} {a2 : Int32} {a3 : Int32} {a4 : Int32} {a5 : Int32} {s : yS} {P : Option Value → yS → Prop}  (h : wl_226_105 (Tot d)  a1 a2 a3 a4 a5 s P) : Go d 8 (none) xE_226 (xE_226.drop 105) [.ref 213, .int a1, .int a2, .int a3, .int a4, .int a5, .null, .null, .null, .null] [] s P := by
  obtain ⟨I, μ, h0, h1⟩ := h
  have key : ∀ (n : Nat) (a1 : Int32) (a2 : Int32) (a3 : Int32) (a4 : Int32) (a5 : Int32) (s : yS), μ a1 a2 a3 a4 a5 s = n → I a1 a2 a3 a4 a5 s → Go d 8 (none) xE_226 (xE_226.drop 105) [.ref 213, .int a1, .int a2, .int a3, .int a4, .int a5, .null, .null, .null, .null] [] s P := by
    intro n
    induction n using Nat.strongRecOn with
    | ind n ih =>
      intro a1 a2 a3 a4 a5 s e hI
      exact k_226_105 (fun a1' a2' a3' a4' a5' s' q => ih _ (by rw [← e]; exact q.2) _ _ _ _ _ _ rfl q.1) (h1 a1 a2 a3 a4 a5 s hI)
  exact key _ a1 a2 a3 a4 a5 s rfl h0
def w_226_88 (T : Nat → List Value → yS → (Option Value → yS → Prop) → Prop) (R88 : Int32 → Int32 → Int32 → Int32 → Int32 → yS → Prop) (a1 : Int32) (a2 : Int32) (a3 : Int32) (a4 : Int32) (a5 : Int32) (s : yS) (P : Option Value → yS → Prop) : Prop :=
  (a5.toInt < 0 → (0 ≤ a1.toInt ∧ a1.toInt < 12006) ∧ (wl_226_105 T  a1 a2 a3 a4 (s.2.1 229 a1.toInt.toNat)  s P)) ∧ (¬ (a5.toInt < 0) → T 204 [.ref 213, .int a5, .int 0] s (fun v2 s1 => v2 = none ∧ ((0 ≤ a5.toInt ∧ a5.toInt < 12006) ∧ (R88 a1 a2 a3 a4 (s1.2.1 225 a5.toInt.toNat)  s1))))
set_option maxRecDepth 20000 in
theorem k_226_88 {d : Nat} {R88 : Int32 → Int32 → Int32 → Int32 → Int32 → yS → Prop} {a1 : Int32} {a2 : Int32} {a3 : Int32} {a4 : Int32} {a5 : Int32} {s : yS} {P : Option Value → yS → Prop} (r88 : ∀ a1 a2 a3 a4 a5 s, R88 a1 a2 a3 a4 a5 s → Go d 8 (none) xE_226 (xE_226.drop 88) [.ref 213, .int a1, .int a2, .int a3, .int a4, .int a5, .null, .null, .null, .null] [] s P) (h : w_226_88 (Tot d) R88 a1 a2 a3 a4 a5 s P) : Go d 8 (none) xE_226 (xE_226.drop 88) [.ref 213, .int a1, .int a2, .int a3, .int a4, .int a5, .null, .null, .null, .null] [] s P := by
  unfold w_226_88 at h
  refine g_ld rfl rfl rfl ?_
  refine g_brP rfl rfl ⟨fun hc => ?_, fun hc => ?_⟩
  · replace h := h.1 ((i_lt (x := a5) (y := 0) rfl (show (0 : Int32).toInt = 0 by decide)).mp hc)
    refine g_ld rfl rfl rfl ?_
    refine g_get rfl rfl ?_
    change Go _ _ _ _ _ _ [.ref 229] _ _
    refine g_ld rfl rfl rfl ?_
    refine g_ial rfl rfl (i_in (x := a1) rfl h.1) ?_
    change Go _ _ _ _ _ _ [.int (s.2.1 229 a1.toInt.toNat)] _ _
    replace h := h.2
    refine g_st [.ref 213, .int a1, .int a2, .int a3, .int a4, .int (s.2.1 229 a1.toInt.toNat), .null, .null, .null, .null] rfl rfl rfl ?_
    exact kl_226_105  h
  · replace h := h.2 (fun q => hc ((i_lt (x := a5) (y := 0) rfl (show (0 : Int32).toInt = 0 by decide)).mpr q))
    refine g_ld rfl rfl rfl ?_
    refine g_ld rfl rfl rfl ?_
    refine g_c [.int 0, .int a5, .ref 213] (xo_push (.int 0)) rfl rfl ?_
    refine g_call [.ref 213, .int a5, .int 0] [] rfl rfl rfl (Tot.imp h (fun v2 s1 h => ?_))
    obtain ⟨rfl, h⟩ := h
    change Go _ _ _ _ _ _ [] _ _
    refine g_ld rfl rfl rfl ?_
    refine g_get rfl rfl ?_
    change Go _ _ _ _ _ _ [.ref 225] _ _
    refine g_ld rfl rfl rfl ?_
    refine g_ial rfl rfl (i_in (x := a5) rfl h.1) ?_
    change Go _ _ _ _ _ _ [.int (s1.2.1 225 a5.toInt.toNat)] _ _
    replace h := h.2
    refine g_st [.ref 213, .int a1, .int a2, .int a3, .int a4, .int (s1.2.1 225 a5.toInt.toNat), .null, .null, .null, .null] rfl rfl rfl ?_
    refine g_go rfl ?_
    exact r88 a1 a2 a3 a4 (s1.2.1 225 a5.toInt.toNat)  s1 h
def wl_226_88 (T : Nat → List Value → yS → (Option Value → yS → Prop) → Prop)  (a1 : Int32) (a2 : Int32) (a3 : Int32) (a4 : Int32) (a5 : Int32) (s : yS) (P : Option Value → yS → Prop) : Prop :=
  ∃ (I : Int32 → Int32 → Int32 → Int32 → Int32 → yS → Prop) (μ : Int32 → Int32 → Int32 → Int32 → Int32 → yS → Nat), I a1 a2 a3 a4 a5 s ∧ ∀ (a1 : Int32) (a2 : Int32) (a3 : Int32) (a4 : Int32) (a5 : Int32) (s : yS), I a1 a2 a3 a4 a5 s → w_226_88 T (fun a1' a2' a3' a4' a5' s' => I a1' a2' a3' a4' a5' s' ∧ μ a1' a2' a3' a4' a5' s' < μ a1 a2 a3 a4 a5 s) a1 a2 a3 a4 a5 s P
theorem kl_226_88 {d : Nat}  {a1 : Int32} {a2 : Int32} {a3 : Int32} {a4 : Int32} {a5 : Int32} {s : yS} {P : Option Value → yS → Prop}  (h : wl_226_88 (Tot d)  a1 a2 a3 a4 a5 s P) : Go d 8 (none) xE_226 (xE_226.drop 88) [.ref 213, .int a1, .int a2, .int a3, .int a4, .int a5, .null, .null, .null, .null] [] s P := by
  obtain ⟨I, μ, h0, h1⟩ := h
  have key : ∀ (n : Nat) (a1 : Int32) (a2 : Int32) (a3 : Int32) (a4 : Int32) (a5 : Int32) (s : yS), μ a1 a2 a3 a4 a5 s = n → I a1 a2 a3 a4 a5 s → Go d 8 (none) xE_226 (xE_226.drop 88) [.ref 213, .int a1, .int a2, .int a3, .int a4, .int a5, .null, .null, .null, .null] [] s P := by
    intro n
    induction n using Nat.strongRecOn with
    | ind n ih =>
      intro a1 a2 a3 a4 a5 s e hI
      exact k_226_88 (fun a1' a2' a3' a4' a5' s' q => ih _ (by rw [← e]; exact q.2) _ _ _ _ _ _ rfl q.1) (h1 a1 a2 a3 a4 a5 s hI)
  exact key _ a1 a2 a3 a4 a5 s rfl h0
def w_226_83 (T : Nat → List Value → yS → (Option Value → yS → Prop) → Prop)  (a1 : Int32) (a2 : Int32) (a3 : Int32) (a4 : Int32) (s : yS) (P : Option Value → yS → Prop) : Prop :=
  (0 ≤ a1.toInt ∧ a1.toInt < 12006) ∧ (wl_226_88 T  a1 a2 a3 a4 (s.2.1 229 a1.toInt.toNat)  s P)
set_option maxRecDepth 20000 in
theorem k_226_83 {d : Nat}  {a1 : Int32} {a2 : Int32} {a3 : Int32} {a4 : Int32} {s : yS} {P : Option Value → yS → Prop}  (h : w_226_83 (Tot d)  a1 a2 a3 a4 s P) : Go d 8 (none) xE_226 (xE_226.drop 83) [.ref 213, .int a1, .int a2, .int a3, .int a4, .null, .null, .null, .null, .null] [] s P := by
  unfold w_226_83 at h
  refine g_ld rfl rfl rfl ?_
  refine g_get rfl rfl ?_
  change Go _ _ _ _ _ _ [.ref 229] _ _
  refine g_ld rfl rfl rfl ?_
  refine g_ial rfl rfl (i_in (x := a1) rfl h.1) ?_
  change Go _ _ _ _ _ _ [.int (s.2.1 229 a1.toInt.toNat)] _ _
  replace h := h.2
  refine g_st [.ref 213, .int a1, .int a2, .int a3, .int a4, .int (s.2.1 229 a1.toInt.toNat), .null, .null, .null, .null] rfl rfl rfl ?_
  exact kl_226_88  h
def w_226_76 (T : Nat → List Value → yS → (Option Value → yS → Prop) → Prop)  (a1 : Int32) (a2 : Int32) (a3 : Int32) (a4 : Int32) (s : yS) (P : Option Value → yS → Prop) : Prop :=
  (0 ≤ a1.toInt ∧ a1.toInt < 12006) ∧ (T 163 [.ref 213, .int 4, .int (s.2.1 222 a1.toInt.toNat)] s (fun v2 s1 => v2 = none ∧ (w_226_83 T  a1 a2 a3 a4  s1 P)))
set_option maxRecDepth 20000 in
theorem k_226_76 {d : Nat}  {a1 : Int32} {a2 : Int32} {a3 : Int32} {a4 : Int32} {s : yS} {P : Option Value → yS → Prop}  (h : w_226_76 (Tot d)  a1 a2 a3 a4 s P) : Go d 8 (none) xE_226 (xE_226.drop 76) [.ref 213, .int a1, .int a2, .int a3, .int a4, .null, .null, .null, .null, .null] [] s P := by
  unfold w_226_76 at h
  refine g_ld rfl rfl rfl ?_
  refine g_c [.int 4, .ref 213] (xo_push (.int 4)) rfl rfl ?_
  refine g_ld rfl rfl rfl ?_
  refine g_get rfl rfl ?_
  change Go _ _ _ _ _ _ [.ref 222, .int 4, .ref 213] _ _
  refine g_ld rfl rfl rfl ?_
  refine g_ial rfl rfl (i_in (x := a1) rfl h.1) ?_
  change Go _ _ _ _ _ _ [.int (s.2.1 222 a1.toInt.toNat), .int 4, .ref 213] _ _
  replace h := h.2
  refine g_call [.ref 213, .int 4, .int (s.2.1 222 a1.toInt.toNat)] [] rfl rfl rfl (Tot.imp h (fun v2 s1 h => ?_))
  obtain ⟨rfl, h⟩ := h
  change Go _ _ _ _ _ _ [] _ _
  exact k_226_83  h
def w_226_33 (T : Nat → List Value → yS → (Option Value → yS → Prop) → Prop)  (a1 : Int32) (a2 : Int32) (s : yS) (P : Option Value → yS → Prop) : Prop :=
  (0 ≤ a1.toInt ∧ a1.toInt < 12006) ∧ ((0 ≤ (s.2.1 222 a1.toInt.toNat).toInt ∧ (s.2.1 222 a1.toInt.toNat).toInt < 12006) ∧ (T 193 [.ref 213, .int a2, .int (s.2.1 217 (s.2.1 222 a1.toInt.toNat).toInt.toNat)] s (fun v2 s1 => ∃ x3, v2 = some (.int x3) ∧ ((¬ (x3.toInt = 0) → (0 ≤ a1.toInt ∧ a1.toInt < 12006) ∧ ((0 ≤ (s1.1 73).toInt ∧ (s1.1 73).toInt < 408) ∧ ((¬ ((s1.2.1 230 a1.toInt.toNat).toInt = (s1.2.1 245 (s1.1 73).toInt.toNat).toInt) → w_226_76 T  a1 a2 (s1.1 73) (s1.1 74)  s1 P) ∧ ((s1.2.1 230 a1.toInt.toNat).toInt = (s1.2.1 245 (s1.1 73).toInt.toNat).toInt → (0 ≤ a1.toInt ∧ a1.toInt < 12006) ∧ ((0 ≤ (s1.1 73).toInt ∧ (s1.1 73).toInt < 408) ∧ (((s1.2.1 226 a1.toInt.toNat).toInt = (s1.2.1 248 (s1.1 73).toInt.toNat).toInt → w_226_83 T  a1 a2 (s1.1 73) (s1.1 74)  s1 P) ∧ (¬ ((s1.2.1 226 a1.toInt.toNat).toInt = (s1.2.1 248 (s1.1 73).toInt.toNat).toInt) → w_226_76 T  a1 a2 (s1.1 73) (s1.1 74)  s1 P))))))) ∧ (x3.toInt = 0 → (0 ≤ a1.toInt ∧ a1.toInt < 12006) ∧ (T 163 [.ref 213, .int 2, .int (s1.2.1 222 a1.toInt.toNat)] s1 (fun v5 s4 => v5 = none ∧ (P none s4))))))))
set_option maxRecDepth 20000 in
theorem k_226_33 {d : Nat}  {a1 : Int32} {a2 : Int32} {s : yS} {P : Option Value → yS → Prop}  (h : w_226_33 (Tot d)  a1 a2 s P) : Go d 8 (none) xE_226 (xE_226.drop 33) [.ref 213, .int a1, .int a2, .null, .null, .null, .null, .null, .null, .null] [] s P := by
  unfold w_226_33 at h
  refine g_ld rfl rfl rfl ?_
  refine g_ld rfl rfl rfl ?_
  refine g_ld rfl rfl rfl ?_
  refine g_get rfl rfl ?_
  change Go _ _ _ _ _ _ [.ref 217, .int a2, .ref 213] _ _
  refine g_ld rfl rfl rfl ?_
  refine g_get rfl rfl ?_
  change Go _ _ _ _ _ _ [.ref 222, .ref 217, .int a2, .ref 213] _ _
  refine g_ld rfl rfl rfl ?_
  refine g_ial rfl rfl (i_in (x := a1) rfl h.1) ?_
  change Go _ _ _ _ _ _ [.int (s.2.1 222 a1.toInt.toNat), .ref 217, .int a2, .ref 213] _ _
  replace h := h.2
  refine g_ial rfl rfl (i_in (x := s.2.1 222 a1.toInt.toNat) rfl h.1) ?_
  change Go _ _ _ _ _ _ [.int (s.2.1 217 (s.2.1 222 a1.toInt.toNat).toInt.toNat), .int a2, .ref 213] _ _
  replace h := h.2
  refine g_call [.ref 213, .int a2, .int (s.2.1 217 (s.2.1 222 a1.toInt.toNat).toInt.toNat)] [] rfl rfl rfl (Tot.imp h (fun v2 s1 h => ?_))
  obtain ⟨x3, rfl, h⟩ := h
  change Go _ _ _ _ _ _ [.int x3] _ _
  refine g_brN rfl rfl ⟨fun hc => ?_, fun hc => ?_⟩
  · replace h := h.1 (fun q => hc ((i_eq (x := x3) (y := 0) rfl (show (0 : Int32).toInt = 0 by decide)).mpr q))
    refine g_ld rfl rfl rfl ?_
    refine g_get rfl rfl ?_
    change Go _ _ _ _ _ _ [.int (s1.1 73)] _ _
    refine g_st [.ref 213, .int a1, .int a2, .int (s1.1 73), .null, .null, .null, .null, .null, .null] rfl rfl rfl ?_
    refine g_ld rfl rfl rfl ?_
    refine g_get rfl rfl ?_
    change Go _ _ _ _ _ _ [.int (s1.1 74)] _ _
    refine g_st [.ref 213, .int a1, .int a2, .int (s1.1 73), .int (s1.1 74), .null, .null, .null, .null, .null] rfl rfl rfl ?_
    refine g_ld rfl rfl rfl ?_
    refine g_get rfl rfl ?_
    change Go _ _ _ _ _ _ [.ref 230] _ _
    refine g_ld rfl rfl rfl ?_
    refine g_ial rfl rfl (i_in (x := a1) rfl h.1) ?_
    change Go _ _ _ _ _ _ [.int (s1.2.1 230 a1.toInt.toNat)] _ _
    replace h := h.2
    refine g_ld rfl rfl rfl ?_
    refine g_get rfl rfl ?_
    change Go _ _ _ _ _ _ [.ref 245, .int (s1.2.1 230 a1.toInt.toNat)] _ _
    refine g_ld rfl rfl rfl ?_
    refine g_ial rfl rfl (i_in (x := s1.1 73) rfl h.1) ?_
    change Go _ _ _ _ _ _ [.int (s1.2.1 245 (s1.1 73).toInt.toNat), .int (s1.2.1 230 a1.toInt.toNat)] _ _
    replace h := h.2
    refine g_brN rfl rfl ⟨fun hc => ?_, fun hc => ?_⟩
    · replace h := h.1 (fun q => hc ((i_eq (x := s1.2.1 230 a1.toInt.toNat) (y := s1.2.1 245 (s1.1 73).toInt.toNat) rfl rfl).mpr q))
      exact k_226_76  h
    · replace h := h.2 ((i_eq (x := s1.2.1 230 a1.toInt.toNat) (y := s1.2.1 245 (s1.1 73).toInt.toNat) rfl rfl).mp hc)
      refine g_ld rfl rfl rfl ?_
      refine g_get rfl rfl ?_
      change Go _ _ _ _ _ _ [.ref 226] _ _
      refine g_ld rfl rfl rfl ?_
      refine g_ial rfl rfl (i_in (x := a1) rfl h.1) ?_
      change Go _ _ _ _ _ _ [.int (s1.2.1 226 a1.toInt.toNat)] _ _
      replace h := h.2
      refine g_ld rfl rfl rfl ?_
      refine g_get rfl rfl ?_
      change Go _ _ _ _ _ _ [.ref 248, .int (s1.2.1 226 a1.toInt.toNat)] _ _
      refine g_ld rfl rfl rfl ?_
      refine g_ial rfl rfl (i_in (x := s1.1 73) rfl h.1) ?_
      change Go _ _ _ _ _ _ [.int (s1.2.1 248 (s1.1 73).toInt.toNat), .int (s1.2.1 226 a1.toInt.toNat)] _ _
      replace h := h.2
      refine g_brP rfl rfl ⟨fun hc => ?_, fun hc => ?_⟩
      · replace h := h.1 ((i_eq (x := s1.2.1 226 a1.toInt.toNat) (y := s1.2.1 248 (s1.1 73).toInt.toNat) rfl rfl).mp hc)
        exact k_226_83  h
      · replace h := h.2 (fun q => hc ((i_eq (x := s1.2.1 226 a1.toInt.toNat) (y := s1.2.1 248 (s1.1 73).toInt.toNat) rfl rfl).mpr q))
        exact k_226_76  h
  · replace h := h.2 ((i_eq (x := x3) (y := 0) rfl (show (0 : Int32).toInt = 0 by decide)).mp hc)
    refine g_ld rfl rfl rfl ?_
    refine g_c [.int 2, .ref 213] (xo_push (.int 2)) rfl rfl ?_
    refine g_ld rfl rfl rfl ?_
    refine g_get rfl rfl ?_
    change Go _ _ _ _ _ _ [.ref 222, .int 2, .ref 213] _ _
    refine g_ld rfl rfl rfl ?_
    refine g_ial rfl rfl (i_in (x := a1) rfl h.1) ?_
    change Go _ _ _ _ _ _ [.int (s1.2.1 222 a1.toInt.toNat), .int 2, .ref 213] _ _
    replace h := h.2
    refine g_call [.ref 213, .int 2, .int (s1.2.1 222 a1.toInt.toNat)] [] rfl rfl rfl (Tot.imp h (fun v5 s4 h => ?_))
    obtain ⟨rfl, h⟩ := h
    change Go _ _ _ _ _ _ [] _ _
    exact g_ret0 rfl h
def w_226_0 (T : Nat → List Value → yS → (Option Value → yS → Prop) → Prop)  (a1 : Int32) (s : yS) (P : Option Value → yS → Prop) : Prop :=
  (0 ≤ a1.toInt ∧ a1.toInt < 12006) ∧ (T 217 [.ref 213, .int (s.2.1 227 a1.toInt.toNat)] s (fun v2 s1 => v2 = none ∧ (((s1.1 8).toInt ≤ 0 → T 225 [.ref 213, .int a1] s1 (fun v4 s3 => v4 = none ∧ ((0 ≤ (s3.1 80).toInt ∧ (s3.1 80).toInt < 200000) ∧ (T 185 [.int (s3.2.1 264 (s3.1 80).toInt.toNat)] s3 (fun v6 s5 => ∃ x7, v6 = some (.int x7) ∧ ((x7.toInt < 1000 → w_226_33 T  a1 (s3.1 80)  s5 P) ∧ (¬ (x7.toInt < 1000) → (0 ≤ (s3.1 80).toInt ∧ (s3.1 80).toInt < 200000) ∧ (T 185 [.int (s5.2.1 264 (s3.1 80).toInt.toNat)] s5 (fun v9 s8 => ∃ x10, v9 = some (.int x10) ∧ (T 194 [.ref 213, .int x10] s8 (fun v12 s11 => v12 = none ∧ (w_226_33 T  a1 (s11.1 71)  s11 P)))))))))))) ∧ (¬ ((s1.1 8).toInt ≤ 0) → P none s1))))
set_option maxRecDepth 20000 in
theorem k_226_0 {d : Nat}  {a1 : Int32} {s : yS} {P : Option Value → yS → Prop}  (h : w_226_0 (Tot d)  a1 s P) : Go d 8 (none) xE_226 (xE_226.drop 0) [.ref 213, .int a1, .null, .null, .null, .null, .null, .null, .null, .null] [] s P := by
  unfold w_226_0 at h
  refine g_ld rfl rfl rfl ?_
  refine g_ld rfl rfl rfl ?_
  refine g_get rfl rfl ?_
  change Go _ _ _ _ _ _ [.ref 227, .ref 213] _ _
  refine g_ld rfl rfl rfl ?_
  refine g_ial rfl rfl (i_in (x := a1) rfl h.1) ?_
  change Go _ _ _ _ _ _ [.int (s.2.1 227 a1.toInt.toNat), .ref 213] _ _
  replace h := h.2
  refine g_call [.ref 213, .int (s.2.1 227 a1.toInt.toNat)] [] rfl rfl rfl (Tot.imp h (fun v2 s1 h => ?_))
  obtain ⟨rfl, h⟩ := h
  change Go _ _ _ _ _ _ [] _ _
  refine g_ld rfl rfl rfl ?_
  refine g_get rfl rfl ?_
  change Go _ _ _ _ _ _ [.int (s1.1 8)] _ _
  refine g_brP rfl rfl ⟨fun hc => ?_, fun hc => ?_⟩
  · replace h := h.1 ((i_le (x := s1.1 8) (y := 0) rfl (show (0 : Int32).toInt = 0 by decide)).mp hc)
    refine g_ld rfl rfl rfl ?_
    refine g_ld rfl rfl rfl ?_
    refine g_call [.ref 213, .int a1] [] rfl rfl rfl (Tot.imp h (fun v4 s3 h => ?_))
    obtain ⟨rfl, h⟩ := h
    change Go _ _ _ _ _ _ [] _ _
    refine g_ld rfl rfl rfl ?_
    refine g_get rfl rfl ?_
    change Go _ _ _ _ _ _ [.int (s3.1 80)] _ _
    refine g_st [.ref 213, .int a1, .int (s3.1 80), .null, .null, .null, .null, .null, .null, .null] rfl rfl rfl ?_
    refine g_ld rfl rfl rfl ?_
    refine g_get rfl rfl ?_
    change Go _ _ _ _ _ _ [.ref 264] _ _
    refine g_ld rfl rfl rfl ?_
    refine g_ial rfl rfl (i_in (x := s3.1 80) rfl h.1) ?_
    change Go _ _ _ _ _ _ [.int (s3.2.1 264 (s3.1 80).toInt.toNat)] _ _
    replace h := h.2
    refine g_call [.int (s3.2.1 264 (s3.1 80).toInt.toNat)] [] rfl rfl rfl (Tot.imp h (fun v6 s5 h => ?_))
    obtain ⟨x7, rfl, h⟩ := h
    change Go _ _ _ _ _ _ [.int x7] _ _
    refine g_c [.int 1000, .int x7] (xo_push (.int 1000)) rfl rfl ?_
    refine g_brP rfl rfl ⟨fun hc => ?_, fun hc => ?_⟩
    · replace h := h.1 ((i_lt (x := x7) (y := 1000) rfl (show (1000 : Int32).toInt = 1000 by decide)).mp hc)
      exact k_226_33  h
    · replace h := h.2 (fun q => hc ((i_lt (x := x7) (y := 1000) rfl (show (1000 : Int32).toInt = 1000 by decide)).mpr q))
      refine g_ld rfl rfl rfl ?_
      refine g_ld rfl rfl rfl ?_
      refine g_get rfl rfl ?_
      change Go _ _ _ _ _ _ [.ref 264, .ref 213] _ _
      refine g_ld rfl rfl rfl ?_
      refine g_ial rfl rfl (i_in (x := s3.1 80) rfl h.1) ?_
      change Go _ _ _ _ _ _ [.int (s5.2.1 264 (s3.1 80).toInt.toNat), .ref 213] _ _
      replace h := h.2
      refine g_call [.int (s5.2.1 264 (s3.1 80).toInt.toNat)] [.ref 213] rfl rfl rfl (Tot.imp h (fun v9 s8 h => ?_))
      obtain ⟨x10, rfl, h⟩ := h
      change Go _ _ _ _ _ _ [.int x10, .ref 213] _ _
      refine g_call [.ref 213, .int x10] [] rfl rfl rfl (Tot.imp h (fun v12 s11 h => ?_))
      obtain ⟨rfl, h⟩ := h
      change Go _ _ _ _ _ _ [] _ _
      refine g_ld rfl rfl rfl ?_
      refine g_get rfl rfl ?_
      change Go _ _ _ _ _ _ [.int (s11.1 71)] _ _
      refine g_st [.ref 213, .int a1, .int (s11.1 71), .null, .null, .null, .null, .null, .null, .null] rfl rfl rfl ?_
      exact k_226_33  h
  · replace h := h.2 (fun q => hc ((i_le (x := s1.1 8) (y := 0) rfl (show (0 : Int32).toInt = 0 by decide)).mpr q))
    exact g_ret0 rfl h
theorem t_226 {d : Nat} {a1 : Int32} {s : yS} {P : Option Value → yS → Prop} (h : w_226_0 (Tot d) a1 s P) : Tot (d + 1) 226 [.ref 213, .int a1] s P := tot_of (E := xE_226) (ml := 8) (ret := none) rfl rfl rfl (k_226_0 h)
/-! told -/
def w_227_27 (T : Nat → List Value → yS → (Option Value → yS → Prop) → Prop) (R27 : Int32 → Int32 → Int32 → Int32 → Int32 → yS → Prop) (a1 : Int32) (a2 : Int32) (a3 : Int32) (a4 : Int32) (a5 : Int32) (s : yS) (P : Option Value → yS → Prop) : Prop :=
  (a5.toInt < 0 → P none s) ∧ (¬ (a5.toInt < 0) → (-2147483648 ≤ 6 * a4.toInt ∧ 6 * a4.toInt ≤ 2147483647) ∧ (∀ x1 : Int32, x1.toInt = 6 * a4.toInt → (0 ≤ a4.toInt ∧ a4.toInt < 600) ∧ ((-2147483648 ≤ x1.toInt + (s.2.1 266 a4.toInt.toNat).toInt ∧ x1.toInt + (s.2.1 266 a4.toInt.toNat).toInt ≤ 2147483647) ∧ (∀ x2 : Int32, x2.toInt = x1.toInt + (s.2.1 266 a4.toInt.toNat).toInt → (0 ≤ a5.toInt ∧ a5.toInt < 12006) ∧ ((0 ≤ x2.toInt ∧ x2.toInt < 3600) ∧ (∀ s3, s3 = sa s 267 x2.toInt.toNat (s.2.1 231 a5.toInt.toNat) → (-2147483648 ≤ 6 * a4.toInt ∧ 6 * a4.toInt ≤ 2147483647) ∧ (∀ x4 : Int32, x4.toInt = 6 * a4.toInt → (0 ≤ a4.toInt ∧ a4.toInt < 600) ∧ ((-2147483648 ≤ x4.toInt + (s3.2.1 266 a4.toInt.toNat).toInt ∧ x4.toInt + (s3.2.1 266 a4.toInt.toNat).toInt ≤ 2147483647) ∧ (∀ x5 : Int32, x5.toInt = x4.toInt + (s3.2.1 266 a4.toInt.toNat).toInt → (0 ≤ a5.toInt ∧ a5.toInt < 12006) ∧ ((0 ≤ x5.toInt ∧ x5.toInt < 3600) ∧ (∀ s6, s6 = sa s3 268 x5.toInt.toNat (s3.2.1 232 a5.toInt.toNat) → (0 ≤ a4.toInt ∧ a4.toInt < 600) ∧ ((-2147483648 ≤ (s6.2.1 266 a4.toInt.toNat).toInt + 1 ∧ (s6.2.1 266 a4.toInt.toNat).toInt + 1 ≤ 2147483647) ∧ (∀ x7 : Int32, x7.toInt = (s6.2.1 266 a4.toInt.toNat).toInt + 1 → (0 ≤ a4.toInt ∧ a4.toInt < 600) ∧ (∀ s8, s8 = sa s6 266 a4.toInt.toNat x7 → (0 ≤ a5.toInt ∧ a5.toInt < 12006) ∧ (R27 a1 a2 a3 a4 (s8.2.1 225 a5.toInt.toNat)  s8)))))))))))))))
set_option maxRecDepth 20000 in
theorem k_227_27 {d : Nat} {R27 : Int32 → Int32 → Int32 → Int32 → Int32 → yS → Prop} {a1 : Int32} {a2 : Int32} {a3 : Int32} {a4 : Int32} {a5 : Int32} {s : yS} {P : Option Value → yS → Prop} (r27 : ∀ a1 a2 a3 a4 a5 s, R27 a1 a2 a3 a4 a5 s → Go d 6 (none) xE_227 (xE_227.drop 27) [.ref 213, .int a1, .int a2, .int a3, .int a4, .int a5, .null, .null, .null, .null] [] s P) (h : w_227_27 (Tot d) R27 a1 a2 a3 a4 a5 s P) : Go d 6 (none) xE_227 (xE_227.drop 27) [.ref 213, .int a1, .int a2, .int a3, .int a4, .int a5, .null, .null, .null, .null] [] s P := by
  unfold w_227_27 at h
  refine g_ld rfl rfl rfl ?_
  refine g_brP rfl rfl ⟨fun hc => ?_, fun hc => ?_⟩
  · replace h := h.1 ((i_lt (x := a5) (y := 0) rfl (show (0 : Int32).toInt = 0 by decide)).mp hc)
    exact g_ret0 rfl h
  · replace h := h.2 (fun q => hc ((i_lt (x := a5) (y := 0) rfl (show (0 : Int32).toInt = 0 by decide)).mpr q))
    refine g_ld rfl rfl rfl ?_
    refine g_get rfl rfl ?_
    change Go _ _ _ _ _ _ [.ref 267] _ _
    refine g_c [.int 6, .ref 267] (xo_push (.int 6)) rfl rfl ?_
    refine g_ld rfl rfl rfl ?_
    have ex1 := i_mul (x := 6) (y := a4) (show (6 : Int32).toInt = 6 by decide) rfl h.1
    have cx1 := ck_mul (x := 6) (y := a4) (show (6 : Int32).toInt = 6 by decide) rfl h.1
    replace h := h.2 _ ex1
    refine g_ca [.int (6 * a4), .ref 267] xo_imul rfl rfl (fun _ => cx1) ?_
    refine g_ld rfl rfl rfl ?_
    refine g_get rfl rfl ?_
    change Go _ _ _ _ _ _ [.ref 266, .int (6 * a4), .ref 267] _ _
    refine g_ld rfl rfl rfl ?_
    refine g_ial rfl rfl (i_in (x := a4) rfl h.1) ?_
    change Go _ _ _ _ _ _ [.int (s.2.1 266 a4.toInt.toNat), .int (6 * a4), .ref 267] _ _
    replace h := h.2
    have ex2 := i_add (x := (6 * a4)) (y := s.2.1 266 a4.toInt.toNat) rfl rfl h.1
    have cx2 := ck_add (x := (6 * a4)) (y := s.2.1 266 a4.toInt.toNat) rfl rfl h.1
    replace h := h.2 _ ex2
    refine g_ca [.int ((6 * a4) + (s.2.1 266 a4.toInt.toNat)), .ref 267] xo_iadd rfl rfl (fun _ => cx2) ?_
    refine g_ld rfl rfl rfl ?_
    refine g_get rfl rfl ?_
    change Go _ _ _ _ _ _ [.ref 231, .int ((6 * a4) + (s.2.1 266 a4.toInt.toNat)), .ref 267] _ _
    refine g_ld rfl rfl rfl ?_
    refine g_ial rfl rfl (i_in (x := a5) rfl h.1) ?_
    change Go _ _ _ _ _ _ [.int (s.2.1 231 a5.toInt.toNat), .int ((6 * a4) + (s.2.1 266 a4.toInt.toNat)), .ref 267] _ _
    replace h := h.2
    refine g_ias rfl rfl (i_in (x := ((6 * a4) + (s.2.1 266 a4.toInt.toNat))) rfl h.1) ?_
    replace h := h.2
    replace h := h _ rfl
    refine g_ld rfl rfl rfl ?_
    refine g_get rfl rfl ?_
    change Go _ _ _ _ _ _ [.ref 268] _ _
    refine g_c [.int 6, .ref 268] (xo_push (.int 6)) rfl rfl ?_
    refine g_ld rfl rfl rfl ?_
    have ex4 := i_mul (x := 6) (y := a4) (show (6 : Int32).toInt = 6 by decide) rfl h.1
    have cx4 := ck_mul (x := 6) (y := a4) (show (6 : Int32).toInt = 6 by decide) rfl h.1
    replace h := h.2 _ ex4
    refine g_ca [.int (6 * a4), .ref 268] xo_imul rfl rfl (fun _ => cx4) ?_
    refine g_ld rfl rfl rfl ?_
    refine g_get rfl rfl ?_
    change Go _ _ _ _ _ _ [.ref 266, .int (6 * a4), .ref 268] _ _
    refine g_ld rfl rfl rfl ?_
    refine g_ial rfl rfl (i_in (x := a4) rfl h.1) ?_
    change Go _ _ _ _ _ _ [.int ((sa s 267 ((6 * a4) + (s.2.1 266 a4.toInt.toNat)).toInt.toNat (s.2.1 231 a5.toInt.toNat)).2.1 266 a4.toInt.toNat), .int (6 * a4), .ref 268] _ _
    replace h := h.2
    have ex5 := i_add (x := (6 * a4)) (y := (sa s 267 ((6 * a4) + (s.2.1 266 a4.toInt.toNat)).toInt.toNat (s.2.1 231 a5.toInt.toNat)).2.1 266 a4.toInt.toNat) rfl rfl h.1
    have cx5 := ck_add (x := (6 * a4)) (y := (sa s 267 ((6 * a4) + (s.2.1 266 a4.toInt.toNat)).toInt.toNat (s.2.1 231 a5.toInt.toNat)).2.1 266 a4.toInt.toNat) rfl rfl h.1
    replace h := h.2 _ ex5
    refine g_ca [.int ((6 * a4) + ((sa s 267 ((6 * a4) + (s.2.1 266 a4.toInt.toNat)).toInt.toNat (s.2.1 231 a5.toInt.toNat)).2.1 266 a4.toInt.toNat)), .ref 268] xo_iadd rfl rfl (fun _ => cx5) ?_
    refine g_ld rfl rfl rfl ?_
    refine g_get rfl rfl ?_
    change Go _ _ _ _ _ _ [.ref 232, .int ((6 * a4) + ((sa s 267 ((6 * a4) + (s.2.1 266 a4.toInt.toNat)).toInt.toNat (s.2.1 231 a5.toInt.toNat)).2.1 266 a4.toInt.toNat)), .ref 268] _ _
    refine g_ld rfl rfl rfl ?_
    refine g_ial rfl rfl (i_in (x := a5) rfl h.1) ?_
    change Go _ _ _ _ _ _ [.int ((sa s 267 ((6 * a4) + (s.2.1 266 a4.toInt.toNat)).toInt.toNat (s.2.1 231 a5.toInt.toNat)).2.1 232 a5.toInt.toNat), .int ((6 * a4) + ((sa s 267 ((6 * a4) + (s.2.1 266 a4.toInt.toNat)).toInt.toNat (s.2.1 231 a5.toInt.toNat)).2.1 266 a4.toInt.toNat)), .ref 268] _ _
    replace h := h.2
    refine g_ias rfl rfl (i_in (x := ((6 * a4) + ((sa s 267 ((6 * a4) + (s.2.1 266 a4.toInt.toNat)).toInt.toNat (s.2.1 231 a5.toInt.toNat)).2.1 266 a4.toInt.toNat))) rfl h.1) ?_
    replace h := h.2
    replace h := h _ rfl
    refine g_ld rfl rfl rfl ?_
    refine g_get rfl rfl ?_
    change Go _ _ _ _ _ _ [.ref 266] _ _
    refine g_ld rfl rfl rfl ?_
    refine g_c [.int a4, .ref 266, .int a4, .ref 266] xo_dup2 rfl rfl ?_
    refine g_ial rfl rfl (i_in (x := a4) rfl h.1) ?_
    change Go _ _ _ _ _ _ [.int ((sa (sa s 267 ((6 * a4) + (s.2.1 266 a4.toInt.toNat)).toInt.toNat (s.2.1 231 a5.toInt.toNat)) 268 ((6 * a4) + ((sa s 267 ((6 * a4) + (s.2.1 266 a4.toInt.toNat)).toInt.toNat (s.2.1 231 a5.toInt.toNat)).2.1 266 a4.toInt.toNat)).toInt.toNat ((sa s 267 ((6 * a4) + (s.2.1 266 a4.toInt.toNat)).toInt.toNat (s.2.1 231 a5.toInt.toNat)).2.1 232 a5.toInt.toNat)).2.1 266 a4.toInt.toNat), .int a4, .ref 266] _ _
    replace h := h.2
    refine g_c [.int 1, .int ((sa (sa s 267 ((6 * a4) + (s.2.1 266 a4.toInt.toNat)).toInt.toNat (s.2.1 231 a5.toInt.toNat)) 268 ((6 * a4) + ((sa s 267 ((6 * a4) + (s.2.1 266 a4.toInt.toNat)).toInt.toNat (s.2.1 231 a5.toInt.toNat)).2.1 266 a4.toInt.toNat)).toInt.toNat ((sa s 267 ((6 * a4) + (s.2.1 266 a4.toInt.toNat)).toInt.toNat (s.2.1 231 a5.toInt.toNat)).2.1 232 a5.toInt.toNat)).2.1 266 a4.toInt.toNat), .int a4, .ref 266] (xo_push (.int 1)) rfl rfl ?_
    have ex7 := i_add (x := (sa (sa s 267 ((6 * a4) + (s.2.1 266 a4.toInt.toNat)).toInt.toNat (s.2.1 231 a5.toInt.toNat)) 268 ((6 * a4) + ((sa s 267 ((6 * a4) + (s.2.1 266 a4.toInt.toNat)).toInt.toNat (s.2.1 231 a5.toInt.toNat)).2.1 266 a4.toInt.toNat)).toInt.toNat ((sa s 267 ((6 * a4) + (s.2.1 266 a4.toInt.toNat)).toInt.toNat (s.2.1 231 a5.toInt.toNat)).2.1 232 a5.toInt.toNat)).2.1 266 a4.toInt.toNat) (y := 1) rfl (show (1 : Int32).toInt = 1 by decide) h.1
    have cx7 := ck_add (x := (sa (sa s 267 ((6 * a4) + (s.2.1 266 a4.toInt.toNat)).toInt.toNat (s.2.1 231 a5.toInt.toNat)) 268 ((6 * a4) + ((sa s 267 ((6 * a4) + (s.2.1 266 a4.toInt.toNat)).toInt.toNat (s.2.1 231 a5.toInt.toNat)).2.1 266 a4.toInt.toNat)).toInt.toNat ((sa s 267 ((6 * a4) + (s.2.1 266 a4.toInt.toNat)).toInt.toNat (s.2.1 231 a5.toInt.toNat)).2.1 232 a5.toInt.toNat)).2.1 266 a4.toInt.toNat) (y := 1) rfl (show (1 : Int32).toInt = 1 by decide) h.1
    replace h := h.2 _ ex7
    refine g_ca [.int (((sa (sa s 267 ((6 * a4) + (s.2.1 266 a4.toInt.toNat)).toInt.toNat (s.2.1 231 a5.toInt.toNat)) 268 ((6 * a4) + ((sa s 267 ((6 * a4) + (s.2.1 266 a4.toInt.toNat)).toInt.toNat (s.2.1 231 a5.toInt.toNat)).2.1 266 a4.toInt.toNat)).toInt.toNat ((sa s 267 ((6 * a4) + (s.2.1 266 a4.toInt.toNat)).toInt.toNat (s.2.1 231 a5.toInt.toNat)).2.1 232 a5.toInt.toNat)).2.1 266 a4.toInt.toNat) + 1), .int a4, .ref 266] xo_iadd rfl rfl (fun _ => cx7) ?_
    refine g_ias rfl rfl (i_in (x := a4) rfl h.1) ?_
    replace h := h.2
    replace h := h _ rfl
    refine g_ld rfl rfl rfl ?_
    refine g_get rfl rfl ?_
    change Go _ _ _ _ _ _ [.ref 225] _ _
    refine g_ld rfl rfl rfl ?_
    refine g_ial rfl rfl (i_in (x := a5) rfl h.1) ?_
    change Go _ _ _ _ _ _ [.int ((sa (sa (sa s 267 ((6 * a4) + (s.2.1 266 a4.toInt.toNat)).toInt.toNat (s.2.1 231 a5.toInt.toNat)) 268 ((6 * a4) + ((sa s 267 ((6 * a4) + (s.2.1 266 a4.toInt.toNat)).toInt.toNat (s.2.1 231 a5.toInt.toNat)).2.1 266 a4.toInt.toNat)).toInt.toNat ((sa s 267 ((6 * a4) + (s.2.1 266 a4.toInt.toNat)).toInt.toNat (s.2.1 231 a5.toInt.toNat)).2.1 232 a5.toInt.toNat)) 266 a4.toInt.toNat (((sa (sa s 267 ((6 * a4) + (s.2.1 266 a4.toInt.toNat)).toInt.toNat (s.2.1 231 a5.toInt.toNat)) 268 ((6 * a4) + ((sa s 267 ((6 * a4) + (s.2.1 266 a4.toInt.toNat)).toInt.toNat (s.2.1 231 a5.toInt.toNat)).2.1 266 a4.toInt.toNat)).toInt.toNat ((sa s 267 ((6 * a4) + (s.2.1 266 a4.toInt.toNat)).toInt.toNat (s.2.1 231 a5.toInt.toNat)).2.1 232 a5.toInt.toNat)).2.1 266 a4.toInt.toNat) + 1)).2.1 225 a5.toInt.toNat)] _ _
    replace h := h.2
    refine g_st [.ref 213, .int a1, .int a2, .int a3, .int a4, .int ((sa (sa (sa s 267 ((6 * a4) + (s.2.1 266 a4.toInt.toNat)).toInt.toNat (s.2.1 231 a5.toInt.toNat)) 268 ((6 * a4) + ((sa s 267 ((6 * a4) + (s.2.1 266 a4.toInt.toNat)).toInt.toNat (s.2.1 231 a5.toInt.toNat)).2.1 266 a4.toInt.toNat)).toInt.toNat ((sa s 267 ((6 * a4) + (s.2.1 266 a4.toInt.toNat)).toInt.toNat (s.2.1 231 a5.toInt.toNat)).2.1 232 a5.toInt.toNat)) 266 a4.toInt.toNat (((sa (sa s 267 ((6 * a4) + (s.2.1 266 a4.toInt.toNat)).toInt.toNat (s.2.1 231 a5.toInt.toNat)) 268 ((6 * a4) + ((sa s 267 ((6 * a4) + (s.2.1 266 a4.toInt.toNat)).toInt.toNat (s.2.1 231 a5.toInt.toNat)).2.1 266 a4.toInt.toNat)).toInt.toNat ((sa s 267 ((6 * a4) + (s.2.1 266 a4.toInt.toNat)).toInt.toNat (s.2.1 231 a5.toInt.toNat)).2.1 232 a5.toInt.toNat)).2.1 266 a4.toInt.toNat) + 1)).2.1 225 a5.toInt.toNat), .null, .null, .null, .null] rfl rfl rfl ?_
    refine g_go rfl ?_
    exact r27 a1 a2 a3 a4 ((sa (sa (sa s 267 ((6 * a4) + (s.2.1 266 a4.toInt.toNat)).toInt.toNat (s.2.1 231 a5.toInt.toNat)) 268 ((6 * a4) + ((sa s 267 ((6 * a4) + (s.2.1 266 a4.toInt.toNat)).toInt.toNat (s.2.1 231 a5.toInt.toNat)).2.1 266 a4.toInt.toNat)).toInt.toNat ((sa s 267 ((6 * a4) + (s.2.1 266 a4.toInt.toNat)).toInt.toNat (s.2.1 231 a5.toInt.toNat)).2.1 232 a5.toInt.toNat)) 266 a4.toInt.toNat (((sa (sa s 267 ((6 * a4) + (s.2.1 266 a4.toInt.toNat)).toInt.toNat (s.2.1 231 a5.toInt.toNat)) 268 ((6 * a4) + ((sa s 267 ((6 * a4) + (s.2.1 266 a4.toInt.toNat)).toInt.toNat (s.2.1 231 a5.toInt.toNat)).2.1 266 a4.toInt.toNat)).toInt.toNat ((sa s 267 ((6 * a4) + (s.2.1 266 a4.toInt.toNat)).toInt.toNat (s.2.1 231 a5.toInt.toNat)).2.1 232 a5.toInt.toNat)).2.1 266 a4.toInt.toNat) + 1)).2.1 225 a5.toInt.toNat)  (sa (sa (sa s 267 ((6 * a4) + (s.2.1 266 a4.toInt.toNat)).toInt.toNat (s.2.1 231 a5.toInt.toNat)) 268 ((6 * a4) + ((sa s 267 ((6 * a4) + (s.2.1 266 a4.toInt.toNat)).toInt.toNat (s.2.1 231 a5.toInt.toNat)).2.1 266 a4.toInt.toNat)).toInt.toNat ((sa s 267 ((6 * a4) + (s.2.1 266 a4.toInt.toNat)).toInt.toNat (s.2.1 231 a5.toInt.toNat)).2.1 232 a5.toInt.toNat)) 266 a4.toInt.toNat (((sa (sa s 267 ((6 * a4) + (s.2.1 266 a4.toInt.toNat)).toInt.toNat (s.2.1 231 a5.toInt.toNat)) 268 ((6 * a4) + ((sa s 267 ((6 * a4) + (s.2.1 266 a4.toInt.toNat)).toInt.toNat (s.2.1 231 a5.toInt.toNat)).2.1 266 a4.toInt.toNat)).toInt.toNat ((sa s 267 ((6 * a4) + (s.2.1 266 a4.toInt.toNat)).toInt.toNat (s.2.1 231 a5.toInt.toNat)).2.1 232 a5.toInt.toNat)).2.1 266 a4.toInt.toNat) + 1)) h
def wl_227_27 (T : Nat → List Value → yS → (Option Value → yS → Prop) → Prop)  (a1 : Int32) (a2 : Int32) (a3 : Int32) (a4 : Int32) (a5 : Int32) (s : yS) (P : Option Value → yS → Prop) : Prop :=
  ∃ (I : Int32 → Int32 → Int32 → Int32 → Int32 → yS → Prop) (μ : Int32 → Int32 → Int32 → Int32 → Int32 → yS → Nat), I a1 a2 a3 a4 a5 s ∧ ∀ (a1 : Int32) (a2 : Int32) (a3 : Int32) (a4 : Int32) (a5 : Int32) (s : yS), I a1 a2 a3 a4 a5 s → w_227_27 T (fun a1' a2' a3' a4' a5' s' => I a1' a2' a3' a4' a5' s' ∧ μ a1' a2' a3' a4' a5' s' < μ a1 a2 a3 a4 a5 s) a1 a2 a3 a4 a5 s P
theorem kl_227_27 {d : Nat}  {a1 : Int32} {a2 : Int32} {a3 : Int32} {a4 : Int32} {a5 : Int32} {s : yS} {P : Option Value → yS → Prop}  (h : wl_227_27 (Tot d)  a1 a2 a3 a4 a5 s P) : Go d 6 (none) xE_227 (xE_227.drop 27) [.ref 213, .int a1, .int a2, .int a3, .int a4, .int a5, .null, .null, .null, .null] [] s P := by
  obtain ⟨I, μ, h0, h1⟩ := h
  have key : ∀ (n : Nat) (a1 : Int32) (a2 : Int32) (a3 : Int32) (a4 : Int32) (a5 : Int32) (s : yS), μ a1 a2 a3 a4 a5 s = n → I a1 a2 a3 a4 a5 s → Go d 6 (none) xE_227 (xE_227.drop 27) [.ref 213, .int a1, .int a2, .int a3, .int a4, .int a5, .null, .null, .null, .null] [] s P := by
    intro n
    induction n using Nat.strongRecOn with
    | ind n ih =>
      intro a1 a2 a3 a4 a5 s e hI
      exact k_227_27 (fun a1' a2' a3' a4' a5' s' q => ih _ (by rw [← e]; exact q.2) _ _ _ _ _ _ rfl q.1) (h1 a1 a2 a3 a4 a5 s hI)
  exact key _ a1 a2 a3 a4 a5 s rfl h0
def w_227_0 (T : Nat → List Value → yS → (Option Value → yS → Prop) → Prop)  (a1 : Int32) (a2 : Int32) (a3 : Int32) (s : yS) (P : Option Value → yS → Prop) : Prop :=
  (-2147483648 ≤ 2 * a1.toInt ∧ 2 * a1.toInt ≤ 2147483647) ∧ (∀ x1 : Int32, x1.toInt = 2 * a1.toInt → (-2147483648 ≤ x1.toInt + 1 ∧ x1.toInt + 1 ≤ 2147483647) ∧ (∀ x2 : Int32, x2.toInt = x1.toInt + 1 → (-2147483648 ≤ 204 * (s.1 75).toInt ∧ 204 * (s.1 75).toInt ≤ 2147483647) ∧ (∀ x3 : Int32, x3.toInt = 204 * (s.1 75).toInt → (-2147483648 ≤ a2.toInt - x3.toInt ∧ a2.toInt - x3.toInt ≤ 2147483647) ∧ (∀ x4 : Int32, x4.toInt = a2.toInt - x3.toInt → (-2147483648 ≤ 6 * x4.toInt ∧ 6 * x4.toInt ≤ 2147483647) ∧ (∀ x5 : Int32, x5.toInt = 6 * x4.toInt → (-2147483648 ≤ 2000 + x5.toInt ∧ 2000 + x5.toInt ≤ 2147483647) ∧ (∀ x6 : Int32, x6.toInt = 2000 + x5.toInt → (0 ≤ x2.toInt ∧ x2.toInt < 600) ∧ (∀ s7, s7 = sa s 265 x2.toInt.toNat x6 → (0 ≤ x2.toInt ∧ x2.toInt < 600) ∧ (∀ s8, s8 = sa s7 266 x2.toInt.toNat 0 → wl_227_27 T  a1 a2 a3 x2 a3  s8 P))))))))
set_option maxRecDepth 20000 in
theorem k_227_0 {d : Nat}  {a1 : Int32} {a2 : Int32} {a3 : Int32} {s : yS} {P : Option Value → yS → Prop}  (h : w_227_0 (Tot d)  a1 a2 a3 s P) : Go d 6 (none) xE_227 (xE_227.drop 0) [.ref 213, .int a1, .int a2, .int a3, .null, .null, .null, .null, .null, .null] [] s P := by
  unfold w_227_0 at h
  refine g_c [.int 2] (xo_push (.int 2)) rfl rfl ?_
  refine g_ld rfl rfl rfl ?_
  have ex1 := i_mul (x := 2) (y := a1) (show (2 : Int32).toInt = 2 by decide) rfl h.1
  have cx1 := ck_mul (x := 2) (y := a1) (show (2 : Int32).toInt = 2 by decide) rfl h.1
  replace h := h.2 _ ex1
  refine g_ca [.int (2 * a1)] xo_imul rfl rfl (fun _ => cx1) ?_
  refine g_c [.int 1, .int (2 * a1)] (xo_push (.int 1)) rfl rfl ?_
  have ex2 := i_add (x := (2 * a1)) (y := 1) rfl (show (1 : Int32).toInt = 1 by decide) h.1
  have cx2 := ck_add (x := (2 * a1)) (y := 1) rfl (show (1 : Int32).toInt = 1 by decide) h.1
  replace h := h.2 _ ex2
  refine g_ca [.int ((2 * a1) + 1)] xo_iadd rfl rfl (fun _ => cx2) ?_
  refine g_st [.ref 213, .int a1, .int a2, .int a3, .int ((2 * a1) + 1), .null, .null, .null, .null, .null] rfl rfl rfl ?_
  refine g_ld rfl rfl rfl ?_
  refine g_get rfl rfl ?_
  change Go _ _ _ _ _ _ [.ref 265] _ _
  refine g_ld rfl rfl rfl ?_
  refine g_c [.int 2000, .int ((2 * a1) + 1), .ref 265] (xo_push (.int 2000)) rfl rfl ?_
  refine g_c [.int 6, .int 2000, .int ((2 * a1) + 1), .ref 265] (xo_push (.int 6)) rfl rfl ?_
  refine g_ld rfl rfl rfl ?_
  refine g_c [.int 204, .int a2, .int 6, .int 2000, .int ((2 * a1) + 1), .ref 265] (xo_push (.int 204)) rfl rfl ?_
  refine g_ld rfl rfl rfl ?_
  refine g_get rfl rfl ?_
  change Go _ _ _ _ _ _ [.int (s.1 75), .int 204, .int a2, .int 6, .int 2000, .int ((2 * a1) + 1), .ref 265] _ _
  have ex3 := i_mul (x := 204) (y := s.1 75) (show (204 : Int32).toInt = 204 by decide) rfl h.1
  have cx3 := ck_mul (x := 204) (y := s.1 75) (show (204 : Int32).toInt = 204 by decide) rfl h.1
  replace h := h.2 _ ex3
  refine g_ca [.int (204 * (s.1 75)), .int a2, .int 6, .int 2000, .int ((2 * a1) + 1), .ref 265] xo_imul rfl rfl (fun _ => cx3) ?_
  have ex4 := i_sub (x := a2) (y := (204 * (s.1 75))) rfl rfl h.1
  have cx4 := ck_sub (x := a2) (y := (204 * (s.1 75))) rfl rfl h.1
  replace h := h.2 _ ex4
  refine g_ca [.int (a2 - (204 * (s.1 75))), .int 6, .int 2000, .int ((2 * a1) + 1), .ref 265] xo_isub rfl rfl (fun _ => cx4) ?_
  have ex5 := i_mul (x := 6) (y := (a2 - (204 * (s.1 75)))) (show (6 : Int32).toInt = 6 by decide) rfl h.1
  have cx5 := ck_mul (x := 6) (y := (a2 - (204 * (s.1 75)))) (show (6 : Int32).toInt = 6 by decide) rfl h.1
  replace h := h.2 _ ex5
  refine g_ca [.int (6 * (a2 - (204 * (s.1 75)))), .int 2000, .int ((2 * a1) + 1), .ref 265] xo_imul rfl rfl (fun _ => cx5) ?_
  have ex6 := i_add (x := 2000) (y := (6 * (a2 - (204 * (s.1 75))))) (show (2000 : Int32).toInt = 2000 by decide) rfl h.1
  have cx6 := ck_add (x := 2000) (y := (6 * (a2 - (204 * (s.1 75))))) (show (2000 : Int32).toInt = 2000 by decide) rfl h.1
  replace h := h.2 _ ex6
  refine g_ca [.int (2000 + (6 * (a2 - (204 * (s.1 75))))), .int ((2 * a1) + 1), .ref 265] xo_iadd rfl rfl (fun _ => cx6) ?_
  refine g_ias rfl rfl (i_in (x := ((2 * a1) + 1)) rfl h.1) ?_
  replace h := h.2
  replace h := h _ rfl
  refine g_ld rfl rfl rfl ?_
  refine g_get rfl rfl ?_
  change Go _ _ _ _ _ _ [.ref 266] _ _
  refine g_ld rfl rfl rfl ?_
  refine g_c [.int 0, .int ((2 * a1) + 1), .ref 266] (xo_push (.int 0)) rfl rfl ?_
  refine g_ias rfl rfl (i_in (x := ((2 * a1) + 1)) rfl h.1) ?_
  replace h := h.2
  replace h := h _ rfl
  refine g_ld rfl rfl rfl ?_
  refine g_st [.ref 213, .int a1, .int a2, .int a3, .int ((2 * a1) + 1), .int a3, .null, .null, .null, .null] rfl rfl rfl ?_
  exact kl_227_27  h
theorem t_227 {d : Nat} {a1 : Int32} {a2 : Int32} {a3 : Int32} {s : yS} {P : Option Value → yS → Prop} (h : w_227_0 (Tot d) a1 a2 a3 s P) : Tot (d + 1) 227 [.ref 213, .int a1, .int a2, .int a3] s P := tot_of (E := xE_227) (ml := 6) (ret := none) rfl rfl rfl (k_227_0 h)
/-! typeAssert -/
def w_228_101 (T : Nat → List Value → yS → (Option Value → yS → Prop) → Prop)  (a1 : Int32) (a2 : Int32) (a3 : Int32) (a4 : Int32) (s : yS) (P : Option Value → yS → Prop) : Prop :=
  (0 ≤ a4.toInt ∧ a4.toInt < 12006) ∧ ((0 ≤ a4.toInt ∧ a4.toInt < 12006) ∧ (T 216 [.ref 213, .int (s.2.1 231 a4.toInt.toNat), .int (s.2.1 232 a4.toInt.toNat)] s (fun v2 s1 => v2 = none ∧ (P none s1))))
set_option maxRecDepth 20000 in
theorem k_228_101 {d : Nat}  {a1 : Int32} {a2 : Int32} {a3 : Int32} {a4 : Int32} {s : yS} {P : Option Value → yS → Prop}  (h : w_228_101 (Tot d)  a1 a2 a3 a4 s P) : Go d 6 (none) xE_228 (xE_228.drop 101) [.ref 213, .int a1, .int a2, .int a3, .int a4, .null, .null, .null] [] s P := by
  unfold w_228_101 at h
  refine g_ld rfl rfl rfl ?_
  refine g_ld rfl rfl rfl ?_
  refine g_get rfl rfl ?_
  change Go _ _ _ _ _ _ [.ref 231, .ref 213] _ _
  refine g_ld rfl rfl rfl ?_
  refine g_ial rfl rfl (i_in (x := a4) rfl h.1) ?_
  change Go _ _ _ _ _ _ [.int (s.2.1 231 a4.toInt.toNat), .ref 213] _ _
  replace h := h.2
  refine g_ld rfl rfl rfl ?_
  refine g_get rfl rfl ?_
  change Go _ _ _ _ _ _ [.ref 232, .int (s.2.1 231 a4.toInt.toNat), .ref 213] _ _
  refine g_ld rfl rfl rfl ?_
  refine g_ial rfl rfl (i_in (x := a4) rfl h.1) ?_
  change Go _ _ _ _ _ _ [.int (s.2.1 232 a4.toInt.toNat), .int (s.2.1 231 a4.toInt.toNat), .ref 213] _ _
  replace h := h.2
  refine g_call [.ref 213, .int (s.2.1 231 a4.toInt.toNat), .int (s.2.1 232 a4.toInt.toNat)] [] rfl rfl rfl (Tot.imp h (fun v2 s1 h => ?_))
  obtain ⟨rfl, h⟩ := h
  change Go _ _ _ _ _ _ [] _ _
  exact g_ret0 rfl h
def w_228_96 (T : Nat → List Value → yS → (Option Value → yS → Prop) → Prop)  (a1 : Int32) (a2 : Int32) (a3 : Int32) (a4 : Int32) (a5 : Int32) (t1 : Int32) (s : yS) (P : Option Value → yS → Prop) : Prop :=
  (0 ≤ a4.toInt ∧ a4.toInt < 12006) ∧ (T 163 [.ref 213, .int t1, .int (s.2.1 222 a4.toInt.toNat)] s (fun v2 s1 => v2 = none ∧ (w_228_101 T  a1 a2 a3 a4  s1 P)))
set_option maxRecDepth 20000 in
theorem k_228_96 {d : Nat}  {a1 : Int32} {a2 : Int32} {a3 : Int32} {a4 : Int32} {a5 : Int32} {t1 : Int32} {s : yS} {P : Option Value → yS → Prop}  (h : w_228_96 (Tot d)  a1 a2 a3 a4 a5 t1 s P) : Go d 6 (none) xE_228 (xE_228.drop 96) [.ref 213, .int a1, .int a2, .int a3, .int a4, .int a5, .null, .null] [.int t1, .ref 213] s P := by
  unfold w_228_96 at h
  refine g_ld rfl rfl rfl ?_
  refine g_get rfl rfl ?_
  change Go _ _ _ _ _ _ [.ref 222, .int t1, .ref 213] _ _
  refine g_ld rfl rfl rfl ?_
  refine g_ial rfl rfl (i_in (x := a4) rfl h.1) ?_
  change Go _ _ _ _ _ _ [.int (s.2.1 222 a4.toInt.toNat), .int t1, .ref 213] _ _
  replace h := h.2
  refine g_call [.ref 213, .int t1, .int (s.2.1 222 a4.toInt.toNat)] [] rfl rfl rfl (Tot.imp h (fun v2 s1 h => ?_))
  obtain ⟨rfl, h⟩ := h
  change Go _ _ _ _ _ _ [] _ _
  refine g_fg 5 ?_
  exact k_228_101  h
def w_228_74 (T : Nat → List Value → yS → (Option Value → yS → Prop) → Prop)  (a1 : Int32) (a2 : Int32) (a3 : Int32) (a4 : Int32) (s : yS) (P : Option Value → yS → Prop) : Prop :=
  (0 ≤ a4.toInt ∧ a4.toInt < 12006) ∧ ((0 ≤ a4.toInt ∧ a4.toInt < 12006) ∧ (T 195 [.ref 213, .int (s.2.1 231 a4.toInt.toNat), .int (s.2.1 232 a4.toInt.toNat), .int a2, .int a3] s (fun v2 s1 => ∃ x3, v2 = some (.int x3) ∧ ((x3.toInt = 1 → w_228_101 T  a1 a2 a3 a4  s1 P) ∧ (¬ (x3.toInt = 1) → (¬ (x3.toInt = 0) → w_228_96 T  a1 a2 a3 a4 x3 9 s1 P) ∧ (x3.toInt = 0 → w_228_96 T  a1 a2 a3 a4 x3 7 s1 P))))))
set_option maxRecDepth 20000 in
theorem k_228_74 {d : Nat}  {a1 : Int32} {a2 : Int32} {a3 : Int32} {a4 : Int32} {s : yS} {P : Option Value → yS → Prop}  (h : w_228_74 (Tot d)  a1 a2 a3 a4 s P) : Go d 6 (none) xE_228 (xE_228.drop 74) [.ref 213, .int a1, .int a2, .int a3, .int a4, .null, .null, .null] [] s P := by
  unfold w_228_74 at h
  refine g_ld rfl rfl rfl ?_
  refine g_ld rfl rfl rfl ?_
  refine g_get rfl rfl ?_
  change Go _ _ _ _ _ _ [.ref 231, .ref 213] _ _
  refine g_ld rfl rfl rfl ?_
  refine g_ial rfl rfl (i_in (x := a4) rfl h.1) ?_
  change Go _ _ _ _ _ _ [.int (s.2.1 231 a4.toInt.toNat), .ref 213] _ _
  replace h := h.2
  refine g_ld rfl rfl rfl ?_
  refine g_get rfl rfl ?_
  change Go _ _ _ _ _ _ [.ref 232, .int (s.2.1 231 a4.toInt.toNat), .ref 213] _ _
  refine g_ld rfl rfl rfl ?_
  refine g_ial rfl rfl (i_in (x := a4) rfl h.1) ?_
  change Go _ _ _ _ _ _ [.int (s.2.1 232 a4.toInt.toNat), .int (s.2.1 231 a4.toInt.toNat), .ref 213] _ _
  replace h := h.2
  refine g_ld rfl rfl rfl ?_
  refine g_ld rfl rfl rfl ?_
  refine g_call [.ref 213, .int (s.2.1 231 a4.toInt.toNat), .int (s.2.1 232 a4.toInt.toNat), .int a2, .int a3] [] rfl rfl rfl (Tot.imp h (fun v2 s1 h => ?_))
  obtain ⟨x3, rfl, h⟩ := h
  change Go _ _ _ _ _ _ [.int x3] _ _
  refine g_st [.ref 213, .int a1, .int a2, .int a3, .int a4, .int x3, .null, .null] rfl rfl rfl ?_
  refine g_ld rfl rfl rfl ?_
  refine g_c [.int 1, .int x3] (xo_push (.int 1)) rfl rfl ?_
  refine g_brP rfl rfl ⟨fun hc => ?_, fun hc => ?_⟩
  · replace h := h.1 ((i_eq (x := x3) (y := 1) rfl (show (1 : Int32).toInt = 1 by decide)).mp hc)
    refine g_fg 5 ?_
    exact k_228_101  h
  · replace h := h.2 (fun q => hc ((i_eq (x := x3) (y := 1) rfl (show (1 : Int32).toInt = 1 by decide)).mpr q))
    refine g_ld rfl rfl rfl ?_
    refine g_ld rfl rfl rfl ?_
    refine g_brN rfl rfl ⟨fun hc => ?_, fun hc => ?_⟩
    · replace h := h.1 (fun q => hc ((i_eq (x := x3) (y := 0) rfl (show (0 : Int32).toInt = 0 by decide)).mpr q))
      refine g_c [.int 9, .ref 213] (xo_push (.int 9)) rfl rfl ?_
      exact k_228_96  h
    · replace h := h.2 ((i_eq (x := x3) (y := 0) rfl (show (0 : Int32).toInt = 0 by decide)).mp hc)
      refine g_c [.int 7, .ref 213] (xo_push (.int 7)) rfl rfl ?_
      refine g_go rfl ?_
      exact k_228_96  h
def w_228_43 (T : Nat → List Value → yS → (Option Value → yS → Prop) → Prop)  (a1 : Int32) (a2 : Int32) (a3 : Int32) (a4 : Int32) (s : yS) (P : Option Value → yS → Prop) : Prop :=
  ((s.1 8).toInt ≤ 0 → (0 ≤ a4.toInt ∧ a4.toInt < 12006) ∧ (T 220 [.ref 213, .int (s.2.1 231 a4.toInt.toNat)] s (fun v2 s1 => ∃ x3, v2 = some (.int x3) ∧ ((x3.toInt = 0 → w_228_101 T  a1 a2 a3 a4  s1 P) ∧ (¬ (x3.toInt = 0) → (0 ≤ a2.toInt ∧ a2.toInt < 200000) ∧ (T 185 [.int (s1.2.1 264 a2.toInt.toNat)] s1 (fun v5 s4 => ∃ x6, v5 = some (.int x6) ∧ ((x6.toInt < 1000 → w_228_74 T  a1 a2 a3 a4  s4 P) ∧ (¬ (x6.toInt < 1000) → (0 ≤ a2.toInt ∧ a2.toInt < 200000) ∧ (T 185 [.int (s4.2.1 264 a2.toInt.toNat)] s4 (fun v8 s7 => ∃ x9, v8 = some (.int x9) ∧ (T 194 [.ref 213, .int x9] s7 (fun v11 s10 => v11 = none ∧ (w_228_74 T  a1 (s10.1 71) (s10.1 72) a4  s10 P)))))))))))))) ∧ (¬ ((s.1 8).toInt ≤ 0) → P none s)
set_option maxRecDepth 20000 in
theorem k_228_43 {d : Nat}  {a1 : Int32} {a2 : Int32} {a3 : Int32} {a4 : Int32} {s : yS} {P : Option Value → yS → Prop}  (h : w_228_43 (Tot d)  a1 a2 a3 a4 s P) : Go d 6 (none) xE_228 (xE_228.drop 43) [.ref 213, .int a1, .int a2, .int a3, .int a4, .null, .null, .null] [] s P := by
  unfold w_228_43 at h
  refine g_ld rfl rfl rfl ?_
  refine g_get rfl rfl ?_
  change Go _ _ _ _ _ _ [.int (s.1 8)] _ _
  refine g_brP rfl rfl ⟨fun hc => ?_, fun hc => ?_⟩
  · replace h := h.1 ((i_le (x := s.1 8) (y := 0) rfl (show (0 : Int32).toInt = 0 by decide)).mp hc)
    refine g_ld rfl rfl rfl ?_
    refine g_ld rfl rfl rfl ?_
    refine g_get rfl rfl ?_
    change Go _ _ _ _ _ _ [.ref 231, .ref 213] _ _
    refine g_ld rfl rfl rfl ?_
    refine g_ial rfl rfl (i_in (x := a4) rfl h.1) ?_
    change Go _ _ _ _ _ _ [.int (s.2.1 231 a4.toInt.toNat), .ref 213] _ _
    replace h := h.2
    refine g_call [.ref 213, .int (s.2.1 231 a4.toInt.toNat)] [] rfl rfl rfl (Tot.imp h (fun v2 s1 h => ?_))
    obtain ⟨x3, rfl, h⟩ := h
    change Go _ _ _ _ _ _ [.int x3] _ _
    refine g_brP rfl rfl ⟨fun hc => ?_, fun hc => ?_⟩
    · replace h := h.1 ((i_eq (x := x3) (y := 0) rfl (show (0 : Int32).toInt = 0 by decide)).mp hc)
      exact k_228_101  h
    · replace h := h.2 (fun q => hc ((i_eq (x := x3) (y := 0) rfl (show (0 : Int32).toInt = 0 by decide)).mpr q))
      refine g_ld rfl rfl rfl ?_
      refine g_get rfl rfl ?_
      change Go _ _ _ _ _ _ [.ref 264] _ _
      refine g_ld rfl rfl rfl ?_
      refine g_ial rfl rfl (i_in (x := a2) rfl h.1) ?_
      change Go _ _ _ _ _ _ [.int (s1.2.1 264 a2.toInt.toNat)] _ _
      replace h := h.2
      refine g_call [.int (s1.2.1 264 a2.toInt.toNat)] [] rfl rfl rfl (Tot.imp h (fun v5 s4 h => ?_))
      obtain ⟨x6, rfl, h⟩ := h
      change Go _ _ _ _ _ _ [.int x6] _ _
      refine g_c [.int 1000, .int x6] (xo_push (.int 1000)) rfl rfl ?_
      refine g_brP rfl rfl ⟨fun hc => ?_, fun hc => ?_⟩
      · replace h := h.1 ((i_lt (x := x6) (y := 1000) rfl (show (1000 : Int32).toInt = 1000 by decide)).mp hc)
        exact k_228_74  h
      · replace h := h.2 (fun q => hc ((i_lt (x := x6) (y := 1000) rfl (show (1000 : Int32).toInt = 1000 by decide)).mpr q))
        refine g_ld rfl rfl rfl ?_
        refine g_ld rfl rfl rfl ?_
        refine g_get rfl rfl ?_
        change Go _ _ _ _ _ _ [.ref 264, .ref 213] _ _
        refine g_ld rfl rfl rfl ?_
        refine g_ial rfl rfl (i_in (x := a2) rfl h.1) ?_
        change Go _ _ _ _ _ _ [.int (s4.2.1 264 a2.toInt.toNat), .ref 213] _ _
        replace h := h.2
        refine g_call [.int (s4.2.1 264 a2.toInt.toNat)] [.ref 213] rfl rfl rfl (Tot.imp h (fun v8 s7 h => ?_))
        obtain ⟨x9, rfl, h⟩ := h
        change Go _ _ _ _ _ _ [.int x9, .ref 213] _ _
        refine g_call [.ref 213, .int x9] [] rfl rfl rfl (Tot.imp h (fun v11 s10 h => ?_))
        obtain ⟨rfl, h⟩ := h
        change Go _ _ _ _ _ _ [] _ _
        refine g_ld rfl rfl rfl ?_
        refine g_get rfl rfl ?_
        change Go _ _ _ _ _ _ [.int (s10.1 71)] _ _
        refine g_st [.ref 213, .int a1, .int (s10.1 71), .int a3, .int a4, .null, .null, .null] rfl rfl rfl ?_
        refine g_ld rfl rfl rfl ?_
        refine g_get rfl rfl ?_
        change Go _ _ _ _ _ _ [.int (s10.1 72)] _ _
        refine g_st [.ref 213, .int a1, .int (s10.1 71), .int (s10.1 72), .int a4, .null, .null, .null] rfl rfl rfl ?_
        exact k_228_74  h
  · replace h := h.2 (fun q => hc ((i_le (x := s.1 8) (y := 0) rfl (show (0 : Int32).toInt = 0 by decide)).mpr q))
    exact g_ret0 rfl h
def w_228_0 (T : Nat → List Value → yS → (Option Value → yS → Prop) → Prop)  (a1 : Int32) (s : yS) (P : Option Value → yS → Prop) : Prop :=
  (0 ≤ a1.toInt ∧ a1.toInt < 12006) ∧ (T 217 [.ref 213, .int (s.2.1 227 a1.toInt.toNat)] s (fun v2 s1 => v2 = none ∧ (((s1.1 8).toInt ≤ 0 → T 220 [.ref 213, .int (s1.1 80)] s1 (fun v4 s3 => ∃ x5, v4 = some (.int x5) ∧ ((x5.toInt = 0 → (0 ≤ a1.toInt ∧ a1.toInt < 12006) ∧ (T 204 [.ref 213, .int (s3.2.1 229 a1.toInt.toNat), .int 0] s3 (fun v7 s6 => v7 = none ∧ ((¬ ((s6.1 8).toInt = 0) → w_228_43 T  a1 (s1.1 80) (s1.1 81) (s3.2.1 229 a1.toInt.toNat)  s6 P) ∧ ((s6.1 8).toInt = 0 → T 211 [.ref 213, .int (s3.2.1 229 a1.toInt.toNat)] s6 (fun v9 s8 => v9 = none ∧ (w_228_43 T  a1 (s1.1 80) (s1.1 81) (s3.2.1 229 a1.toInt.toNat)  s8 P))))))) ∧ (¬ (x5.toInt = 0) → (0 ≤ a1.toInt ∧ a1.toInt < 12006) ∧ (T 163 [.ref 213, .int 6, .int (s3.2.1 223 a1.toInt.toNat)] s3 (fun v11 s10 => v11 = none ∧ (P none s10))))))) ∧ (¬ ((s1.1 8).toInt ≤ 0) → P none s1))))
set_option maxRecDepth 20000 in
theorem k_228_0 {d : Nat}  {a1 : Int32} {s : yS} {P : Option Value → yS → Prop}  (h : w_228_0 (Tot d)  a1 s P) : Go d 6 (none) xE_228 (xE_228.drop 0) [.ref 213, .int a1, .null, .null, .null, .null, .null, .null] [] s P := by
  unfold w_228_0 at h
  refine g_ld rfl rfl rfl ?_
  refine g_ld rfl rfl rfl ?_
  refine g_get rfl rfl ?_
  change Go _ _ _ _ _ _ [.ref 227, .ref 213] _ _
  refine g_ld rfl rfl rfl ?_
  refine g_ial rfl rfl (i_in (x := a1) rfl h.1) ?_
  change Go _ _ _ _ _ _ [.int (s.2.1 227 a1.toInt.toNat), .ref 213] _ _
  replace h := h.2
  refine g_call [.ref 213, .int (s.2.1 227 a1.toInt.toNat)] [] rfl rfl rfl (Tot.imp h (fun v2 s1 h => ?_))
  obtain ⟨rfl, h⟩ := h
  change Go _ _ _ _ _ _ [] _ _
  refine g_ld rfl rfl rfl ?_
  refine g_get rfl rfl ?_
  change Go _ _ _ _ _ _ [.int (s1.1 8)] _ _
  refine g_brP rfl rfl ⟨fun hc => ?_, fun hc => ?_⟩
  · replace h := h.1 ((i_le (x := s1.1 8) (y := 0) rfl (show (0 : Int32).toInt = 0 by decide)).mp hc)
    refine g_ld rfl rfl rfl ?_
    refine g_get rfl rfl ?_
    change Go _ _ _ _ _ _ [.int (s1.1 80)] _ _
    refine g_st [.ref 213, .int a1, .int (s1.1 80), .null, .null, .null, .null, .null] rfl rfl rfl ?_
    refine g_ld rfl rfl rfl ?_
    refine g_get rfl rfl ?_
    change Go _ _ _ _ _ _ [.int (s1.1 81)] _ _
    refine g_st [.ref 213, .int a1, .int (s1.1 80), .int (s1.1 81), .null, .null, .null, .null] rfl rfl rfl ?_
    refine g_ld rfl rfl rfl ?_
    refine g_ld rfl rfl rfl ?_
    refine g_call [.ref 213, .int (s1.1 80)] [] rfl rfl rfl (Tot.imp h (fun v4 s3 h => ?_))
    obtain ⟨x5, rfl, h⟩ := h
    change Go _ _ _ _ _ _ [.int x5] _ _
    refine g_brP rfl rfl ⟨fun hc => ?_, fun hc => ?_⟩
    · replace h := h.1 ((i_eq (x := x5) (y := 0) rfl (show (0 : Int32).toInt = 0 by decide)).mp hc)
      refine g_ld rfl rfl rfl ?_
      refine g_get rfl rfl ?_
      change Go _ _ _ _ _ _ [.ref 229] _ _
      refine g_ld rfl rfl rfl ?_
      refine g_ial rfl rfl (i_in (x := a1) rfl h.1) ?_
      change Go _ _ _ _ _ _ [.int (s3.2.1 229 a1.toInt.toNat)] _ _
      replace h := h.2
      refine g_st [.ref 213, .int a1, .int (s1.1 80), .int (s1.1 81), .int (s3.2.1 229 a1.toInt.toNat), .null, .null, .null] rfl rfl rfl ?_
      refine g_ld rfl rfl rfl ?_
      refine g_ld rfl rfl rfl ?_
      refine g_c [.int 0, .int (s3.2.1 229 a1.toInt.toNat), .ref 213] (xo_push (.int 0)) rfl rfl ?_
      refine g_call [.ref 213, .int (s3.2.1 229 a1.toInt.toNat), .int 0] [] rfl rfl rfl (Tot.imp h (fun v7 s6 h => ?_))
      obtain ⟨rfl, h⟩ := h
      change Go _ _ _ _ _ _ [] _ _
      refine g_ld rfl rfl rfl ?_
      refine g_get rfl rfl ?_
      change Go _ _ _ _ _ _ [.int (s6.1 8)] _ _
      refine g_brN rfl rfl ⟨fun hc => ?_, fun hc => ?_⟩
      · replace h := h.1 (fun q => hc ((i_eq (x := s6.1 8) (y := 0) rfl (show (0 : Int32).toInt = 0 by decide)).mpr q))
        exact k_228_43  h
      · replace h := h.2 ((i_eq (x := s6.1 8) (y := 0) rfl (show (0 : Int32).toInt = 0 by decide)).mp hc)
        refine g_ld rfl rfl rfl ?_
        refine g_ld rfl rfl rfl ?_
        refine g_call [.ref 213, .int (s3.2.1 229 a1.toInt.toNat)] [] rfl rfl rfl (Tot.imp h (fun v9 s8 h => ?_))
        obtain ⟨rfl, h⟩ := h
        change Go _ _ _ _ _ _ [] _ _
        exact k_228_43  h
    · replace h := h.2 (fun q => hc ((i_eq (x := x5) (y := 0) rfl (show (0 : Int32).toInt = 0 by decide)).mpr q))
      refine g_ld rfl rfl rfl ?_
      refine g_c [.int 6, .ref 213] (xo_push (.int 6)) rfl rfl ?_
      refine g_ld rfl rfl rfl ?_
      refine g_get rfl rfl ?_
      change Go _ _ _ _ _ _ [.ref 223, .int 6, .ref 213] _ _
      refine g_ld rfl rfl rfl ?_
      refine g_ial rfl rfl (i_in (x := a1) rfl h.1) ?_
      change Go _ _ _ _ _ _ [.int (s3.2.1 223 a1.toInt.toNat), .int 6, .ref 213] _ _
      replace h := h.2
      refine g_call [.ref 213, .int 6, .int (s3.2.1 223 a1.toInt.toNat)] [] rfl rfl rfl (Tot.imp h (fun v11 s10 h => ?_))
      obtain ⟨rfl, h⟩ := h
      change Go _ _ _ _ _ _ [] _ _
      exact g_ret0 rfl h
  · replace h := h.2 (fun q => hc ((i_le (x := s1.1 8) (y := 0) rfl (show (0 : Int32).toInt = 0 by decide)).mpr q))
    exact g_ret0 rfl h
theorem t_228 {d : Nat} {a1 : Int32} {s : yS} {P : Option Value → yS → Prop} (h : w_228_0 (Tot d) a1 s P) : Tot (d + 1) 228 [.ref 213, .int a1] s P := tot_of (E := xE_228) (ml := 6) (ret := none) rfl rfl rfl (k_228_0 h)
