/-! typeFunc -/
def w_229_52 (T : Nat → List Value → yS → (Option Value → yS → Prop) → Prop)  (a1 : Int32) (s : yS) (P : Option Value → yS → Prop) : Prop :=
  P none s
set_option maxRecDepth 20000 in
theorem k_229_52 {d : Nat}  {a1 : Int32} {s : yS} {P : Option Value → yS → Prop}  (h : w_229_52 (Tot d)  a1 s P) : Go d 3 (none) xE_229 (xE_229.drop 52) [.ref 213, .int a1, .null, .null, .null] [] s P := by
  unfold w_229_52 at h
  exact g_ret0 rfl h
def w_229_0 (T : Nat → List Value → yS → (Option Value → yS → Prop) → Prop)  (a1 : Int32) (s : yS) (P : Option Value → yS → Prop) : Prop :=
  (0 ≤ a1.toInt ∧ a1.toInt < 120) ∧ (T 206 [.ref 213, .int (-1), .int (s.2.1 257 a1.toInt.toNat), .int a1] s (fun v2 s1 => v2 = none ∧ (∀ s3, s3 = sf s1 64 100000 → ∀ s4, s4 = sf s3 70 0 → (0 ≤ a1.toInt ∧ a1.toInt < 120) ∧ (T 217 [.ref 213, .int (s4.2.1 258 a1.toInt.toNat)] s4 (fun v6 s5 => v6 = none ∧ ((¬ ((s5.1 8).toInt = 0) → w_229_52 T  a1  s5 P) ∧ ((s5.1 8).toInt = 0 → T 188 [.ref 213] s5 (fun v8 s7 => ∃ x9, v8 = some (.int x9) ∧ ((0 ≤ a1.toInt ∧ a1.toInt < 120) ∧ ((0 ≤ (s7.2.1 257 a1.toInt.toNat).toInt ∧ (s7.2.1 257 a1.toInt.toNat).toInt < 408) ∧ ((0 ≤ a1.toInt ∧ a1.toInt < 120) ∧ (T 178 [.ref 213, .int (s7.2.1 258 a1.toInt.toNat)] s7 (fun v11 s10 => ∃ x12, v11 = some (.int x12) ∧ (T 212 [.ref 213, .int (s7.1 80), .int (s7.1 81), .int (s7.2.1 251 (s7.2.1 257 a1.toInt.toNat).toInt.toNat), .int x9, .int x12] s10 (fun v14 s13 => v14 = none ∧ ((-2147483648 ≤ (s13.1 70).toInt - 1 ∧ (s13.1 70).toInt - 1 ≤ 2147483647) ∧ (∀ x15 : Int32, x15.toInt = (s13.1 70).toInt - 1 → ∀ s16, s16 = sf s13 70 x15 → w_229_52 T  a1  s16 P)))))))))))))))))
set_option maxRecDepth 20000 in
theorem k_229_0 {d : Nat}  {a1 : Int32} {s : yS} {P : Option Value → yS → Prop}  (h : w_229_0 (Tot d)  a1 s P) : Go d 3 (none) xE_229 (xE_229.drop 0) [.ref 213, .int a1, .null, .null, .null] [] s P := by
  unfold w_229_0 at h
  refine g_ld rfl rfl rfl ?_
  refine g_c [.int (-1), .ref 213] (xo_push (.int (-1))) rfl rfl ?_
  refine g_ld rfl rfl rfl ?_
  refine g_get rfl rfl ?_
  change Go _ _ _ _ _ _ [.ref 257, .int (-1), .ref 213] _ _
  refine g_ld rfl rfl rfl ?_
  refine g_ial rfl rfl (i_in (x := a1) rfl h.1) ?_
  change Go _ _ _ _ _ _ [.int (s.2.1 257 a1.toInt.toNat), .int (-1), .ref 213] _ _
  replace h := h.2
  refine g_ld rfl rfl rfl ?_
  refine g_call [.ref 213, .int (-1), .int (s.2.1 257 a1.toInt.toNat), .int a1] [] rfl rfl rfl (Tot.imp h (fun v2 s1 h => ?_))
  obtain ⟨rfl, h⟩ := h
  change Go _ _ _ _ _ _ [] _ _
  refine g_ld rfl rfl rfl ?_
  refine g_c [.int 100000, .ref 213] (xo_push (.int 100000)) rfl rfl ?_
  refine g_put rfl rfl rfl ?_
  replace h := h _ rfl
  refine g_ld rfl rfl rfl ?_
  refine g_c [.int 0, .ref 213] (xo_push (.int 0)) rfl rfl ?_
  refine g_put rfl rfl rfl ?_
  replace h := h _ rfl
  refine g_ld rfl rfl rfl ?_
  refine g_ld rfl rfl rfl ?_
  refine g_get rfl rfl ?_
  change Go _ _ _ _ _ _ [.ref 258, .ref 213] _ _
  refine g_ld rfl rfl rfl ?_
  refine g_ial rfl rfl (i_in (x := a1) rfl h.1) ?_
  change Go _ _ _ _ _ _ [.int ((sf (sf s1 64 100000) 70 0).2.1 258 a1.toInt.toNat), .ref 213] _ _
  replace h := h.2
  refine g_call [.ref 213, .int ((sf (sf s1 64 100000) 70 0).2.1 258 a1.toInt.toNat)] [] rfl rfl rfl (Tot.imp h (fun v6 s5 h => ?_))
  obtain ⟨rfl, h⟩ := h
  change Go _ _ _ _ _ _ [] _ _
  refine g_ld rfl rfl rfl ?_
  refine g_get rfl rfl ?_
  change Go _ _ _ _ _ _ [.int (s5.1 8)] _ _
  refine g_brN rfl rfl ⟨fun hc => ?_, fun hc => ?_⟩
  · replace h := h.1 (fun q => hc ((i_eq (x := s5.1 8) (y := 0) rfl (show (0 : Int32).toInt = 0 by decide)).mpr q))
    exact k_229_52  h
  · replace h := h.2 ((i_eq (x := s5.1 8) (y := 0) rfl (show (0 : Int32).toInt = 0 by decide)).mp hc)
    refine g_ld rfl rfl rfl ?_
    refine g_call [.ref 213] [] rfl rfl rfl (Tot.imp h (fun v8 s7 h => ?_))
    obtain ⟨x9, rfl, h⟩ := h
    change Go _ _ _ _ _ _ [.int x9] _ _
    refine g_st [.ref 213, .int a1, .int x9, .null, .null] rfl rfl rfl ?_
    refine g_ld rfl rfl rfl ?_
    refine g_ld rfl rfl rfl ?_
    refine g_get rfl rfl ?_
    change Go _ _ _ _ _ _ [.int (s7.1 80), .ref 213] _ _
    refine g_ld rfl rfl rfl ?_
    refine g_get rfl rfl ?_
    change Go _ _ _ _ _ _ [.int (s7.1 81), .int (s7.1 80), .ref 213] _ _
    refine g_ld rfl rfl rfl ?_
    refine g_get rfl rfl ?_
    change Go _ _ _ _ _ _ [.ref 251, .int (s7.1 81), .int (s7.1 80), .ref 213] _ _
    refine g_ld rfl rfl rfl ?_
    refine g_get rfl rfl ?_
    change Go _ _ _ _ _ _ [.ref 257, .ref 251, .int (s7.1 81), .int (s7.1 80), .ref 213] _ _
    refine g_ld rfl rfl rfl ?_
    refine g_ial rfl rfl (i_in (x := a1) rfl h.1) ?_
    change Go _ _ _ _ _ _ [.int (s7.2.1 257 a1.toInt.toNat), .ref 251, .int (s7.1 81), .int (s7.1 80), .ref 213] _ _
    replace h := h.2
    refine g_ial rfl rfl (i_in (x := s7.2.1 257 a1.toInt.toNat) rfl h.1) ?_
    change Go _ _ _ _ _ _ [.int (s7.2.1 251 (s7.2.1 257 a1.toInt.toNat).toInt.toNat), .int (s7.1 81), .int (s7.1 80), .ref 213] _ _
    replace h := h.2
    refine g_ld rfl rfl rfl ?_
    refine g_ld rfl rfl rfl ?_
    refine g_ld rfl rfl rfl ?_
    refine g_get rfl rfl ?_
    change Go _ _ _ _ _ _ [.ref 258, .ref 213, .int x9, .int (s7.2.1 251 (s7.2.1 257 a1.toInt.toNat).toInt.toNat), .int (s7.1 81), .int (s7.1 80), .ref 213] _ _
    refine g_ld rfl rfl rfl ?_
    refine g_ial rfl rfl (i_in (x := a1) rfl h.1) ?_
    change Go _ _ _ _ _ _ [.int (s7.2.1 258 a1.toInt.toNat), .ref 213, .int x9, .int (s7.2.1 251 (s7.2.1 257 a1.toInt.toNat).toInt.toNat), .int (s7.1 81), .int (s7.1 80), .ref 213] _ _
    replace h := h.2
    refine g_call [.ref 213, .int (s7.2.1 258 a1.toInt.toNat)] [.int x9, .int (s7.2.1 251 (s7.2.1 257 a1.toInt.toNat).toInt.toNat), .int (s7.1 81), .int (s7.1 80), .ref 213] rfl rfl rfl (Tot.imp h (fun v11 s10 h => ?_))
    obtain ⟨x12, rfl, h⟩ := h
    change Go _ _ _ _ _ _ [.int x12, .int x9, .int (s7.2.1 251 (s7.2.1 257 a1.toInt.toNat).toInt.toNat), .int (s7.1 81), .int (s7.1 80), .ref 213] _ _
    refine g_call [.ref 213, .int (s7.1 80), .int (s7.1 81), .int (s7.2.1 251 (s7.2.1 257 a1.toInt.toNat).toInt.toNat), .int x9, .int x12] [] rfl rfl rfl (Tot.imp h (fun v14 s13 h => ?_))
    obtain ⟨rfl, h⟩ := h
    change Go _ _ _ _ _ _ [] _ _
    refine g_ld rfl rfl rfl ?_
    refine g_c [.ref 213, .ref 213] xo_dup rfl rfl ?_
    refine g_get rfl rfl ?_
    change Go _ _ _ _ _ _ [.int (s13.1 70), .ref 213] _ _
    refine g_c [.int 1, .int (s13.1 70), .ref 213] (xo_push (.int 1)) rfl rfl ?_
    have ex15 := i_sub (x := s13.1 70) (y := 1) rfl (show (1 : Int32).toInt = 1 by decide) h.1
    have cx15 := ck_sub (x := s13.1 70) (y := 1) rfl (show (1 : Int32).toInt = 1 by decide) h.1
    replace h := h.2 _ ex15
    refine g_ca [.int ((s13.1 70) - 1), .ref 213] xo_isub rfl rfl (fun _ => cx15) ?_
    refine g_put rfl rfl rfl ?_
    replace h := h _ rfl
    refine g_fg 2 ?_
    exact k_229_52  h
theorem t_229 {d : Nat} {a1 : Int32} {s : yS} {P : Option Value → yS → Prop} (h : w_229_0 (Tot d) a1 s P) : Tot (d + 1) 229 [.ref 213, .int a1] s P := tot_of (E := xE_229) (ml := 3) (ret := none) rfl rfl rfl (k_229_0 h)
/-! program -/
def w_230_207 (T : Nat → List Value → yS → (Option Value → yS → Prop) → Prop)  (a1 : Int32) (s : yS) (P : Option Value → yS → Prop) : Prop :=
  ∀ s1, s1 = sf s 75 (s.1 29) → P (some (.int (s1.1 8))) s1
set_option maxRecDepth 20000 in
theorem k_230_207 {d : Nat}  {a1 : Int32} {s : yS} {P : Option Value → yS → Prop}  (h : w_230_207 (Tot d)  a1 s P) : Go d 3 (some .int) xE_230 (xE_230.drop 207) [.ref 213, .int a1, .null, .null] [] s P := by
  unfold w_230_207 at h
  refine g_ld rfl rfl rfl ?_
  refine g_ld rfl rfl rfl ?_
  refine g_get rfl rfl ?_
  change Go _ _ _ _ _ _ [.int (s.1 29), .ref 213] _ _
  refine g_put rfl rfl rfl ?_
  replace h := h _ rfl
  refine g_ld rfl rfl rfl ?_
  refine g_get rfl rfl ?_
  change Go _ _ _ _ _ _ [.int ((sf s 75 (s.1 29)).1 8)] _ _
  exact g_retI rfl h
def w_230_172 (T : Nat → List Value → yS → (Option Value → yS → Prop) → Prop) (R172 : Int32 → yS → Prop) (a1 : Int32) (s : yS) (P : Option Value → yS → Prop) : Prop :=
  ((s.1 81).toInt ≤ a1.toInt → (0 ≤ (s.1 30).toInt ∧ (s.1 30).toInt < 2) ∧ (∀ s1, s1 = sa s 274 (s.1 30).toInt.toNat (s.1 81) → ∀ s2, s2 = sf s1 29 (s1.1 30) → T 232 [.ref 213] s2 (fun v4 s3 => v4 = none ∧ (w_230_207 T  a1  s3 P)))) ∧ (¬ ((s.1 81).toInt ≤ a1.toInt) → (-2147483648 ≤ 60 * (s.1 30).toInt ∧ 60 * (s.1 30).toInt ≤ 2147483647) ∧ (∀ x5 : Int32, x5.toInt = 60 * (s.1 30).toInt → (-2147483648 ≤ x5.toInt + a1.toInt ∧ x5.toInt + a1.toInt ≤ 2147483647) ∧ (∀ x6 : Int32, x6.toInt = x5.toInt + a1.toInt → (-2147483648 ≤ (s.1 80).toInt + a1.toInt ∧ (s.1 80).toInt + a1.toInt ≤ 2147483647) ∧ (∀ x7 : Int32, x7.toInt = (s.1 80).toInt + a1.toInt → (0 ≤ x7.toInt ∧ x7.toInt < 200000) ∧ ((0 ≤ x6.toInt ∧ x6.toInt < 120) ∧ (∀ s8, s8 = sa s 273 x6.toInt.toNat (s.2.1 264 x7.toInt.toNat) → (-2147483648 ≤ a1.toInt + 1 ∧ a1.toInt + 1 ≤ 2147483647) ∧ (∀ x9 : Int32, x9.toInt = a1.toInt + 1 → R172 x9  s8)))))))
set_option maxRecDepth 20000 in
theorem k_230_172 {d : Nat} {R172 : Int32 → yS → Prop} {a1 : Int32} {s : yS} {P : Option Value → yS → Prop} (r172 : ∀ a1 s, R172 a1 s → Go d 3 (some .int) xE_230 (xE_230.drop 172) [.ref 213, .int a1, .null, .null] [] s P) (h : w_230_172 (Tot d) R172 a1 s P) : Go d 3 (some .int) xE_230 (xE_230.drop 172) [.ref 213, .int a1, .null, .null] [] s P := by
  unfold w_230_172 at h
  refine g_ld rfl rfl rfl ?_
  refine g_ld rfl rfl rfl ?_
  refine g_get rfl rfl ?_
  change Go _ _ _ _ _ _ [.int (s.1 81), .int a1] _ _
  refine g_brP rfl rfl ⟨fun hc => ?_, fun hc => ?_⟩
  · replace h := h.1 ((i_le (x := s.1 81) (y := a1) rfl rfl).mp hc)
    refine g_ld rfl rfl rfl ?_
    refine g_get rfl rfl ?_
    change Go _ _ _ _ _ _ [.ref 274] _ _
    refine g_ld rfl rfl rfl ?_
    refine g_get rfl rfl ?_
    change Go _ _ _ _ _ _ [.int (s.1 30), .ref 274] _ _
    refine g_ld rfl rfl rfl ?_
    refine g_get rfl rfl ?_
    change Go _ _ _ _ _ _ [.int (s.1 81), .int (s.1 30), .ref 274] _ _
    refine g_ias rfl rfl (i_in (x := s.1 30) rfl h.1) ?_
    replace h := h.2
    replace h := h _ rfl
    refine g_ld rfl rfl rfl ?_
    refine g_ld rfl rfl rfl ?_
    refine g_get rfl rfl ?_
    change Go _ _ _ _ _ _ [.int ((sa s 274 (s.1 30).toInt.toNat (s.1 81)).1 30), .ref 213] _ _
    refine g_put rfl rfl rfl ?_
    replace h := h _ rfl
    refine g_ld rfl rfl rfl ?_
    refine g_call [.ref 213] [] rfl rfl rfl (Tot.imp h (fun v4 s3 h => ?_))
    obtain ⟨rfl, h⟩ := h
    change Go _ _ _ _ _ _ [] _ _
    exact k_230_207  h
  · replace h := h.2 (fun q => hc ((i_le (x := s.1 81) (y := a1) rfl rfl).mpr q))
    refine g_ld rfl rfl rfl ?_
    refine g_get rfl rfl ?_
    change Go _ _ _ _ _ _ [.ref 273] _ _
    refine g_c [.int 60, .ref 273] (xo_push (.int 60)) rfl rfl ?_
    refine g_ld rfl rfl rfl ?_
    refine g_get rfl rfl ?_
    change Go _ _ _ _ _ _ [.int (s.1 30), .int 60, .ref 273] _ _
    have ex5 := i_mul (x := 60) (y := s.1 30) (show (60 : Int32).toInt = 60 by decide) rfl h.1
    have cx5 := ck_mul (x := 60) (y := s.1 30) (show (60 : Int32).toInt = 60 by decide) rfl h.1
    replace h := h.2 _ ex5
    refine g_ca [.int (60 * (s.1 30)), .ref 273] xo_imul rfl rfl (fun _ => cx5) ?_
    refine g_ld rfl rfl rfl ?_
    have ex6 := i_add (x := (60 * (s.1 30))) (y := a1) rfl rfl h.1
    have cx6 := ck_add (x := (60 * (s.1 30))) (y := a1) rfl rfl h.1
    replace h := h.2 _ ex6
    refine g_ca [.int ((60 * (s.1 30)) + a1), .ref 273] xo_iadd rfl rfl (fun _ => cx6) ?_
    refine g_ld rfl rfl rfl ?_
    refine g_get rfl rfl ?_
    change Go _ _ _ _ _ _ [.ref 264, .int ((60 * (s.1 30)) + a1), .ref 273] _ _
    refine g_ld rfl rfl rfl ?_
    refine g_get rfl rfl ?_
    change Go _ _ _ _ _ _ [.int (s.1 80), .ref 264, .int ((60 * (s.1 30)) + a1), .ref 273] _ _
    refine g_ld rfl rfl rfl ?_
    have ex7 := i_add (x := s.1 80) (y := a1) rfl rfl h.1
    have cx7 := ck_add (x := s.1 80) (y := a1) rfl rfl h.1
    replace h := h.2 _ ex7
    refine g_ca [.int ((s.1 80) + a1), .ref 264, .int ((60 * (s.1 30)) + a1), .ref 273] xo_iadd rfl rfl (fun _ => cx7) ?_
    refine g_ial rfl rfl (i_in (x := ((s.1 80) + a1)) rfl h.1) ?_
    change Go _ _ _ _ _ _ [.int (s.2.1 264 ((s.1 80) + a1).toInt.toNat), .int ((60 * (s.1 30)) + a1), .ref 273] _ _
    replace h := h.2
    refine g_ias rfl rfl (i_in (x := ((60 * (s.1 30)) + a1)) rfl h.1) ?_
    replace h := h.2
    replace h := h _ rfl
    have ex9 := i_add (x := a1) (y := 1) rfl (show (1 : Int32).toInt = 1 by decide) h.1
    have cx9 := ck_inc (x := a1) (n := 1) rfl h.1
    replace h := h.2 _ ex9
    refine g_inc [.ref 213, .int (a1 + 1), .null, .null] rfl rfl rfl rfl cx9 ?_
    refine g_go rfl ?_
    exact r172 (a1 + 1)  (sa s 273 ((60 * (s.1 30)) + a1).toInt.toNat (s.2.1 264 ((s.1 80) + a1).toInt.toNat)) h
def wl_230_172 (T : Nat → List Value → yS → (Option Value → yS → Prop) → Prop)  (a1 : Int32) (s : yS) (P : Option Value → yS → Prop) : Prop :=
  ∃ (I : Int32 → yS → Prop) (μ : Int32 → yS → Nat), I a1 s ∧ ∀ (a1 : Int32) (s : yS), I a1 s → w_230_172 T (fun a1' s' => I a1' s' ∧ μ a1' s' < μ a1 s) a1 s P
theorem kl_230_172 {d : Nat}  {a1 : Int32} {s : yS} {P : Option Value → yS → Prop}  (h : wl_230_172 (Tot d)  a1 s P) : Go d 3 (some .int) xE_230 (xE_230.drop 172) [.ref 213, .int a1, .null, .null] [] s P := by
  obtain ⟨I, μ, h0, h1⟩ := h
  have key : ∀ (n : Nat) (a1 : Int32) (s : yS), μ a1 s = n → I a1 s → Go d 3 (some .int) xE_230 (xE_230.drop 172) [.ref 213, .int a1, .null, .null] [] s P := by
    intro n
    induction n using Nat.strongRecOn with
    | ind n ih =>
      intro a1 s e hI
      exact k_230_172 (fun a1' s' q => ih _ (by rw [← e]; exact q.2) _ _  rfl q.1) (h1 a1 s hI)
  exact key _ a1 s rfl h0
def w_230_167 (T : Nat → List Value → yS → (Option Value → yS → Prop) → Prop)  (a1 : Int32) (s : yS) (P : Option Value → yS → Prop) : Prop :=
  (¬ ((s.1 8).toInt = 0) → w_230_207 T  a1  s P) ∧ ((s.1 8).toInt = 0 → wl_230_172 T  0  s P)
set_option maxRecDepth 20000 in
theorem k_230_167 {d : Nat}  {a1 : Int32} {s : yS} {P : Option Value → yS → Prop}  (h : w_230_167 (Tot d)  a1 s P) : Go d 3 (some .int) xE_230 (xE_230.drop 167) [.ref 213, .int a1, .null, .null] [] s P := by
  unfold w_230_167 at h
  refine g_ld rfl rfl rfl ?_
  refine g_get rfl rfl ?_
  change Go _ _ _ _ _ _ [.int (s.1 8)] _ _
  refine g_brN rfl rfl ⟨fun hc => ?_, fun hc => ?_⟩
  · replace h := h.1 (fun q => hc ((i_eq (x := s.1 8) (y := 0) rfl (show (0 : Int32).toInt = 0 by decide)).mpr q))
    exact k_230_207  h
  · replace h := h.2 ((i_eq (x := s.1 8) (y := 0) rfl (show (0 : Int32).toInt = 0 by decide)).mp hc)
    refine g_c [.int 0] (xo_push (.int 0)) rfl rfl ?_
    refine g_st [.ref 213, .int 0, .null, .null] rfl rfl rfl ?_
    exact kl_230_172  h
def w_230_149 (T : Nat → List Value → yS → (Option Value → yS → Prop) → Prop)  (a1 : Int32) (s : yS) (P : Option Value → yS → Prop) : Prop :=
  (¬ ((s.1 8).toInt = 0) → w_230_167 T  a1  s P) ∧ ((s.1 8).toInt = 0 → T 206 [.ref 213, .int (-1), .int (-1), .int (-1)] s (fun v2 s1 => v2 = none ∧ (∀ s3, s3 = sf s1 64 100000 → (0 ≤ (s3.1 30).toInt ∧ (s3.1 30).toInt < 2) ∧ (T 217 [.ref 213, .int (s3.2.1 259 (s3.1 30).toInt.toNat)] s3 (fun v5 s4 => v5 = none ∧ (w_230_167 T  a1  s4 P))))))
set_option maxRecDepth 20000 in
theorem k_230_149 {d : Nat}  {a1 : Int32} {s : yS} {P : Option Value → yS → Prop}  (h : w_230_149 (Tot d)  a1 s P) : Go d 3 (some .int) xE_230 (xE_230.drop 149) [.ref 213, .int a1, .null, .null] [] s P := by
  unfold w_230_149 at h
  refine g_ld rfl rfl rfl ?_
  refine g_get rfl rfl ?_
  change Go _ _ _ _ _ _ [.int (s.1 8)] _ _
  refine g_brN rfl rfl ⟨fun hc => ?_, fun hc => ?_⟩
  · replace h := h.1 (fun q => hc ((i_eq (x := s.1 8) (y := 0) rfl (show (0 : Int32).toInt = 0 by decide)).mpr q))
    exact k_230_167  h
  · replace h := h.2 ((i_eq (x := s.1 8) (y := 0) rfl (show (0 : Int32).toInt = 0 by decide)).mp hc)
    refine g_ld rfl rfl rfl ?_
    refine g_c [.int (-1), .ref 213] (xo_push (.int (-1))) rfl rfl ?_
    refine g_c [.int (-1), .int (-1), .ref 213] (xo_push (.int (-1))) rfl rfl ?_
    refine g_c [.int (-1), .int (-1), .int (-1), .ref 213] (xo_push (.int (-1))) rfl rfl ?_
    refine g_call [.ref 213, .int (-1), .int (-1), .int (-1)] [] rfl rfl rfl (Tot.imp h (fun v2 s1 h => ?_))
    obtain ⟨rfl, h⟩ := h
    change Go _ _ _ _ _ _ [] _ _
    refine g_ld rfl rfl rfl ?_
    refine g_c [.int 100000, .ref 213] (xo_push (.int 100000)) rfl rfl ?_
    refine g_put rfl rfl rfl ?_
    replace h := h _ rfl
    refine g_ld rfl rfl rfl ?_
    refine g_ld rfl rfl rfl ?_
    refine g_get rfl rfl ?_
    change Go _ _ _ _ _ _ [.ref 259, .ref 213] _ _
    refine g_ld rfl rfl rfl ?_
    refine g_get rfl rfl ?_
    change Go _ _ _ _ _ _ [.int ((sf s1 64 100000).1 30), .ref 259, .ref 213] _ _
    refine g_ial rfl rfl (i_in (x := (sf s1 64 100000).1 30) rfl h.1) ?_
    change Go _ _ _ _ _ _ [.int ((sf s1 64 100000).2.1 259 ((sf s1 64 100000).1 30).toInt.toNat), .ref 213] _ _
    replace h := h.2
    refine g_call [.ref 213, .int ((sf s1 64 100000).2.1 259 ((sf s1 64 100000).1 30).toInt.toNat)] [] rfl rfl rfl (Tot.imp h (fun v5 s4 h => ?_))
    obtain ⟨rfl, h⟩ := h
    change Go _ _ _ _ _ _ [] _ _
    exact k_230_167  h
def w_230_129 (T : Nat → List Value → yS → (Option Value → yS → Prop) → Prop) (R129 : Int32 → yS → Prop) (a1 : Int32) (s : yS) (P : Option Value → yS → Prop) : Prop :=
  (0 ≤ (s.1 30).toInt ∧ (s.1 30).toInt < 2) ∧ (((s.2.1 252 (s.1 30).toInt.toNat).toInt ≤ a1.toInt → w_230_149 T  a1  s P) ∧ (¬ ((s.2.1 252 (s.1 30).toInt.toNat).toInt ≤ a1.toInt) → (¬ ((s.1 8).toInt = 0) → w_230_149 T  a1  s P) ∧ ((s.1 8).toInt = 0 → (-2147483648 ≤ 60 * (s.1 30).toInt ∧ 60 * (s.1 30).toInt ≤ 2147483647) ∧ (∀ x1 : Int32, x1.toInt = 60 * (s.1 30).toInt → (-2147483648 ≤ x1.toInt + a1.toInt ∧ x1.toInt + a1.toInt ≤ 2147483647) ∧ (∀ x2 : Int32, x2.toInt = x1.toInt + a1.toInt → T 229 [.ref 213, .int x2] s (fun v4 s3 => v4 = none ∧ ((-2147483648 ≤ a1.toInt + 1 ∧ a1.toInt + 1 ≤ 2147483647) ∧ (∀ x5 : Int32, x5.toInt = a1.toInt + 1 → R129 x5  s3))))))))
set_option maxRecDepth 20000 in
theorem k_230_129 {d : Nat} {R129 : Int32 → yS → Prop} {a1 : Int32} {s : yS} {P : Option Value → yS → Prop} (r129 : ∀ a1 s, R129 a1 s → Go d 3 (some .int) xE_230 (xE_230.drop 129) [.ref 213, .int a1, .null, .null] [] s P) (h : w_230_129 (Tot d) R129 a1 s P) : Go d 3 (some .int) xE_230 (xE_230.drop 129) [.ref 213, .int a1, .null, .null] [] s P := by
  unfold w_230_129 at h
  refine g_ld rfl rfl rfl ?_
  refine g_ld rfl rfl rfl ?_
  refine g_get rfl rfl ?_
  change Go _ _ _ _ _ _ [.ref 252, .int a1] _ _
  refine g_ld rfl rfl rfl ?_
  refine g_get rfl rfl ?_
  change Go _ _ _ _ _ _ [.int (s.1 30), .ref 252, .int a1] _ _
  refine g_ial rfl rfl (i_in (x := s.1 30) rfl h.1) ?_
  change Go _ _ _ _ _ _ [.int (s.2.1 252 (s.1 30).toInt.toNat), .int a1] _ _
  replace h := h.2
  refine g_brP rfl rfl ⟨fun hc => ?_, fun hc => ?_⟩
  · replace h := h.1 ((i_le (x := s.2.1 252 (s.1 30).toInt.toNat) (y := a1) rfl rfl).mp hc)
    exact k_230_149  h
  · replace h := h.2 (fun q => hc ((i_le (x := s.2.1 252 (s.1 30).toInt.toNat) (y := a1) rfl rfl).mpr q))
    refine g_ld rfl rfl rfl ?_
    refine g_get rfl rfl ?_
    change Go _ _ _ _ _ _ [.int (s.1 8)] _ _
    refine g_brN rfl rfl ⟨fun hc => ?_, fun hc => ?_⟩
    · replace h := h.1 (fun q => hc ((i_eq (x := s.1 8) (y := 0) rfl (show (0 : Int32).toInt = 0 by decide)).mpr q))
      exact k_230_149  h
    · replace h := h.2 ((i_eq (x := s.1 8) (y := 0) rfl (show (0 : Int32).toInt = 0 by decide)).mp hc)
      refine g_ld rfl rfl rfl ?_
      refine g_c [.int 60, .ref 213] (xo_push (.int 60)) rfl rfl ?_
      refine g_ld rfl rfl rfl ?_
      refine g_get rfl rfl ?_
      change Go _ _ _ _ _ _ [.int (s.1 30), .int 60, .ref 213] _ _
      have ex1 := i_mul (x := 60) (y := s.1 30) (show (60 : Int32).toInt = 60 by decide) rfl h.1
      have cx1 := ck_mul (x := 60) (y := s.1 30) (show (60 : Int32).toInt = 60 by decide) rfl h.1
      replace h := h.2 _ ex1
      refine g_ca [.int (60 * (s.1 30)), .ref 213] xo_imul rfl rfl (fun _ => cx1) ?_
      refine g_ld rfl rfl rfl ?_
      have ex2 := i_add (x := (60 * (s.1 30))) (y := a1) rfl rfl h.1
      have cx2 := ck_add (x := (60 * (s.1 30))) (y := a1) rfl rfl h.1
      replace h := h.2 _ ex2
      refine g_ca [.int ((60 * (s.1 30)) + a1), .ref 213] xo_iadd rfl rfl (fun _ => cx2) ?_
      refine g_call [.ref 213, .int ((60 * (s.1 30)) + a1)] [] rfl rfl rfl (Tot.imp h (fun v4 s3 h => ?_))
      obtain ⟨rfl, h⟩ := h
      change Go _ _ _ _ _ _ [] _ _
      have ex5 := i_add (x := a1) (y := 1) rfl (show (1 : Int32).toInt = 1 by decide) h.1
      have cx5 := ck_inc (x := a1) (n := 1) rfl h.1
      replace h := h.2 _ ex5
      refine g_inc [.ref 213, .int (a1 + 1), .null, .null] rfl rfl rfl rfl cx5 ?_
      refine g_go rfl ?_
      exact r129 (a1 + 1)  s3 h
def wl_230_129 (T : Nat → List Value → yS → (Option Value → yS → Prop) → Prop)  (a1 : Int32) (s : yS) (P : Option Value → yS → Prop) : Prop :=
  ∃ (I : Int32 → yS → Prop) (μ : Int32 → yS → Nat), I a1 s ∧ ∀ (a1 : Int32) (s : yS), I a1 s → w_230_129 T (fun a1' s' => I a1' s' ∧ μ a1' s' < μ a1 s) a1 s P
theorem kl_230_129 {d : Nat}  {a1 : Int32} {s : yS} {P : Option Value → yS → Prop}  (h : wl_230_129 (Tot d)  a1 s P) : Go d 3 (some .int) xE_230 (xE_230.drop 129) [.ref 213, .int a1, .null, .null] [] s P := by
  obtain ⟨I, μ, h0, h1⟩ := h
  have key : ∀ (n : Nat) (a1 : Int32) (s : yS), μ a1 s = n → I a1 s → Go d 3 (some .int) xE_230 (xE_230.drop 129) [.ref 213, .int a1, .null, .null] [] s P := by
    intro n
    induction n using Nat.strongRecOn with
    | ind n ih =>
      intro a1 s e hI
      exact k_230_129 (fun a1' s' q => ih _ (by rw [← e]; exact q.2) _ _  rfl q.1) (h1 a1 s hI)
  exact key _ a1 s rfl h0
def w_230_127 (T : Nat → List Value → yS → (Option Value → yS → Prop) → Prop)  (a1 : Int32) (s : yS) (P : Option Value → yS → Prop) : Prop :=
  wl_230_129 T  0  s P
set_option maxRecDepth 20000 in
theorem k_230_127 {d : Nat}  {a1 : Int32} {s : yS} {P : Option Value → yS → Prop}  (h : w_230_127 (Tot d)  a1 s P) : Go d 3 (some .int) xE_230 (xE_230.drop 127) [.ref 213, .int a1, .null, .null] [] s P := by
  unfold w_230_127 at h
  refine g_c [.int 0] (xo_push (.int 0)) rfl rfl ?_
  refine g_st [.ref 213, .int 0, .null, .null] rfl rfl rfl ?_
  exact kl_230_129  h
def w_230_120 (T : Nat → List Value → yS → (Option Value → yS → Prop) → Prop) (R91 : Int32 → yS → Prop) (a1 : Int32) (a2 : Int32) (s : yS) (P : Option Value → yS → Prop) : Prop :=
  (-2147483648 ≤ a1.toInt + 1 ∧ a1.toInt + 1 ≤ 2147483647) ∧ (∀ x1 : Int32, x1.toInt = a1.toInt + 1 → R91 x1  s)
set_option maxRecDepth 20000 in
theorem k_230_120 {d : Nat} {R91 : Int32 → yS → Prop} {a1 : Int32} {a2 : Int32} {s : yS} {P : Option Value → yS → Prop} (r91 : ∀ a1 s, R91 a1 s → Go d 3 (some .int) xE_230 (xE_230.drop 91) [.ref 213, .int a1, .null, .null] [] s P) (h : w_230_120 (Tot d) R91 a1 a2 s P) : Go d 3 (some .int) xE_230 (xE_230.drop 120) [.ref 213, .int a1, .int a2, .null] [] s P := by
  unfold w_230_120 at h
  have ex1 := i_add (x := a1) (y := 1) rfl (show (1 : Int32).toInt = 1 by decide) h.1
  have cx1 := ck_inc (x := a1) (n := 1) rfl h.1
  replace h := h.2 _ ex1
  refine g_inc [.ref 213, .int (a1 + 1), .int a2, .null] rfl rfl rfl rfl cx1 ?_
  refine g_go rfl ?_
  refine g_fg 2 ?_
  exact r91 (a1 + 1)  s h
def w_230_96 (T : Nat → List Value → yS → (Option Value → yS → Prop) → Prop) (R91 : Int32 → yS → Prop) (R96 : Int32 → Int32 → yS → Prop) (a1 : Int32) (a2 : Int32) (s : yS) (P : Option Value → yS → Prop) : Prop :=
  (0 ≤ (s.1 30).toInt ∧ (s.1 30).toInt < 2) ∧ (((s.2.1 263 (s.1 30).toInt.toNat).toInt ≤ a2.toInt → w_230_120 T R91 a1 a2  s P) ∧ (¬ ((s.2.1 263 (s.1 30).toInt.toNat).toInt ≤ a2.toInt) → (¬ ((s.1 8).toInt = 0) → w_230_120 T R91 a1 a2  s P) ∧ ((s.1 8).toInt = 0 → (-2147483648 ≤ 84 * (s.1 30).toInt ∧ 84 * (s.1 30).toInt ≤ 2147483647) ∧ (∀ x1 : Int32, x1.toInt = 84 * (s.1 30).toInt → (-2147483648 ≤ x1.toInt + a2.toInt ∧ x1.toInt + a2.toInt ≤ 2147483647) ∧ (∀ x2 : Int32, x2.toInt = x1.toInt + a2.toInt → (0 ≤ x2.toInt ∧ x2.toInt < 168) ∧ (T 231 [.ref 213, .int a1, .int (s.2.1 262 x2.toInt.toNat)] s (fun v4 s3 => v4 = none ∧ ((-2147483648 ≤ a2.toInt + 1 ∧ a2.toInt + 1 ≤ 2147483647) ∧ (∀ x5 : Int32, x5.toInt = a2.toInt + 1 → R96 a1 x5  s3)))))))))
set_option maxRecDepth 20000 in
theorem k_230_96 {d : Nat} {R91 : Int32 → yS → Prop} {R96 : Int32 → Int32 → yS → Prop} {a1 : Int32} {a2 : Int32} {s : yS} {P : Option Value → yS → Prop} (r91 : ∀ a1 s, R91 a1 s → Go d 3 (some .int) xE_230 (xE_230.drop 91) [.ref 213, .int a1, .null, .null] [] s P) (r96 : ∀ a1 a2 s, R96 a1 a2 s → Go d 3 (some .int) xE_230 (xE_230.drop 96) [.ref 213, .int a1, .int a2, .null] [] s P) (h : w_230_96 (Tot d) R91 R96 a1 a2 s P) : Go d 3 (some .int) xE_230 (xE_230.drop 96) [.ref 213, .int a1, .int a2, .null] [] s P := by
  unfold w_230_96 at h
  refine g_ld rfl rfl rfl ?_
  refine g_ld rfl rfl rfl ?_
  refine g_get rfl rfl ?_
  change Go _ _ _ _ _ _ [.ref 263, .int a2] _ _
  refine g_ld rfl rfl rfl ?_
  refine g_get rfl rfl ?_
  change Go _ _ _ _ _ _ [.int (s.1 30), .ref 263, .int a2] _ _
  refine g_ial rfl rfl (i_in (x := s.1 30) rfl h.1) ?_
  change Go _ _ _ _ _ _ [.int (s.2.1 263 (s.1 30).toInt.toNat), .int a2] _ _
  replace h := h.2
  refine g_brP rfl rfl ⟨fun hc => ?_, fun hc => ?_⟩
  · replace h := h.1 ((i_le (x := s.2.1 263 (s.1 30).toInt.toNat) (y := a2) rfl rfl).mp hc)
    exact k_230_120 r91 h
  · replace h := h.2 (fun q => hc ((i_le (x := s.2.1 263 (s.1 30).toInt.toNat) (y := a2) rfl rfl).mpr q))
    refine g_ld rfl rfl rfl ?_
    refine g_get rfl rfl ?_
    change Go _ _ _ _ _ _ [.int (s.1 8)] _ _
    refine g_brN rfl rfl ⟨fun hc => ?_, fun hc => ?_⟩
    · replace h := h.1 (fun q => hc ((i_eq (x := s.1 8) (y := 0) rfl (show (0 : Int32).toInt = 0 by decide)).mpr q))
      exact k_230_120 r91 h
    · replace h := h.2 ((i_eq (x := s.1 8) (y := 0) rfl (show (0 : Int32).toInt = 0 by decide)).mp hc)
      refine g_ld rfl rfl rfl ?_
      refine g_ld rfl rfl rfl ?_
      refine g_ld rfl rfl rfl ?_
      refine g_get rfl rfl ?_
      change Go _ _ _ _ _ _ [.ref 262, .int a1, .ref 213] _ _
      refine g_c [.int 84, .ref 262, .int a1, .ref 213] (xo_push (.int 84)) rfl rfl ?_
      refine g_ld rfl rfl rfl ?_
      refine g_get rfl rfl ?_
      change Go _ _ _ _ _ _ [.int (s.1 30), .int 84, .ref 262, .int a1, .ref 213] _ _
      have ex1 := i_mul (x := 84) (y := s.1 30) (show (84 : Int32).toInt = 84 by decide) rfl h.1
      have cx1 := ck_mul (x := 84) (y := s.1 30) (show (84 : Int32).toInt = 84 by decide) rfl h.1
      replace h := h.2 _ ex1
      refine g_ca [.int (84 * (s.1 30)), .ref 262, .int a1, .ref 213] xo_imul rfl rfl (fun _ => cx1) ?_
      refine g_ld rfl rfl rfl ?_
      have ex2 := i_add (x := (84 * (s.1 30))) (y := a2) rfl rfl h.1
      have cx2 := ck_add (x := (84 * (s.1 30))) (y := a2) rfl rfl h.1
      replace h := h.2 _ ex2
      refine g_ca [.int ((84 * (s.1 30)) + a2), .ref 262, .int a1, .ref 213] xo_iadd rfl rfl (fun _ => cx2) ?_
      refine g_ial rfl rfl (i_in (x := ((84 * (s.1 30)) + a2)) rfl h.1) ?_
      change Go _ _ _ _ _ _ [.int (s.2.1 262 ((84 * (s.1 30)) + a2).toInt.toNat), .int a1, .ref 213] _ _
      replace h := h.2
      refine g_call [.ref 213, .int a1, .int (s.2.1 262 ((84 * (s.1 30)) + a2).toInt.toNat)] [] rfl rfl rfl (Tot.imp h (fun v4 s3 h => ?_))
      obtain ⟨rfl, h⟩ := h
      change Go _ _ _ _ _ _ [] _ _
      have ex5 := i_add (x := a2) (y := 1) rfl (show (1 : Int32).toInt = 1 by decide) h.1
      have cx5 := ck_inc (x := a2) (n := 1) rfl h.1
      replace h := h.2 _ ex5
      refine g_inc [.ref 213, .int a1, .int (a2 + 1), .null] rfl rfl rfl rfl cx5 ?_
      refine g_go rfl ?_
      exact r96 a1 (a2 + 1)  s3 h
def wl_230_96 (T : Nat → List Value → yS → (Option Value → yS → Prop) → Prop) (R91 : Int32 → yS → Prop) (a1 : Int32) (a2 : Int32) (s : yS) (P : Option Value → yS → Prop) : Prop :=
  ∃ (I : Int32 → Int32 → yS → Prop) (μ : Int32 → Int32 → yS → Nat), I a1 a2 s ∧ ∀ (a1 : Int32) (a2 : Int32) (s : yS), I a1 a2 s → w_230_96 T R91 (fun a1' a2' s' => I a1' a2' s' ∧ μ a1' a2' s' < μ a1 a2 s) a1 a2 s P
theorem kl_230_96 {d : Nat} {R91 : Int32 → yS → Prop} {a1 : Int32} {a2 : Int32} {s : yS} {P : Option Value → yS → Prop} (r91 : ∀ a1 s, R91 a1 s → Go d 3 (some .int) xE_230 (xE_230.drop 91) [.ref 213, .int a1, .null, .null] [] s P) (h : wl_230_96 (Tot d) R91 a1 a2 s P) : Go d 3 (some .int) xE_230 (xE_230.drop 96) [.ref 213, .int a1, .int a2, .null] [] s P := by
  obtain ⟨I, μ, h0, h1⟩ := h
  have key : ∀ (n : Nat) (a1 : Int32) (a2 : Int32) (s : yS), μ a1 a2 s = n → I a1 a2 s → Go d 3 (some .int) xE_230 (xE_230.drop 96) [.ref 213, .int a1, .int a2, .null] [] s P := by
    intro n
    induction n using Nat.strongRecOn with
    | ind n ih =>
      intro a1 a2 s e hI
      exact k_230_96 r91 (fun a1' a2' s' q => ih _ (by rw [← e]; exact q.2) _ _ _ rfl q.1) (h1 a1 a2 s hI)
  exact key _ a1 a2 s rfl h0
def w_230_91 (T : Nat → List Value → yS → (Option Value → yS → Prop) → Prop) (R91 : Int32 → yS → Prop) (a1 : Int32) (s : yS) (P : Option Value → yS → Prop) : Prop :=
  (3 ≤ a1.toInt → (¬ ((s.1 8).toInt = 0) → w_230_127 T  a1  s P) ∧ ((s.1 8).toInt = 0 → T 215 [.ref 213] s (fun v2 s1 => v2 = none ∧ (w_230_127 T  a1  s1 P)))) ∧ (¬ (3 ≤ a1.toInt) → wl_230_96 T R91 a1 0  s P)
set_option maxRecDepth 20000 in
theorem k_230_91 {d : Nat} {R91 : Int32 → yS → Prop} {a1 : Int32} {s : yS} {P : Option Value → yS → Prop} (r91 : ∀ a1 s, R91 a1 s → Go d 3 (some .int) xE_230 (xE_230.drop 91) [.ref 213, .int a1, .null, .null] [] s P) (h : w_230_91 (Tot d) R91 a1 s P) : Go d 3 (some .int) xE_230 (xE_230.drop 91) [.ref 213, .int a1, .null, .null] [] s P := by
  unfold w_230_91 at h
  refine g_ld rfl rfl rfl ?_
  refine g_c [.int 3, .int a1] (xo_push (.int 3)) rfl rfl ?_
  refine g_brP rfl rfl ⟨fun hc => ?_, fun hc => ?_⟩
  · replace h := h.1 ((i_le (x := 3) (y := a1) (show (3 : Int32).toInt = 3 by decide) rfl).mp hc)
    refine g_ld rfl rfl rfl ?_
    refine g_get rfl rfl ?_
    change Go _ _ _ _ _ _ [.int (s.1 8)] _ _
    refine g_brN rfl rfl ⟨fun hc => ?_, fun hc => ?_⟩
    · replace h := h.1 (fun q => hc ((i_eq (x := s.1 8) (y := 0) rfl (show (0 : Int32).toInt = 0 by decide)).mpr q))
      exact k_230_127  h
    · replace h := h.2 ((i_eq (x := s.1 8) (y := 0) rfl (show (0 : Int32).toInt = 0 by decide)).mp hc)
      refine g_ld rfl rfl rfl ?_
      refine g_call [.ref 213] [] rfl rfl rfl (Tot.imp h (fun v2 s1 h => ?_))
      obtain ⟨rfl, h⟩ := h
      change Go _ _ _ _ _ _ [] _ _
      exact k_230_127  h
  · replace h := h.2 (fun q => hc ((i_le (x := 3) (y := a1) (show (3 : Int32).toInt = 3 by decide) rfl).mpr q))
    refine g_c [.int 0] (xo_push (.int 0)) rfl rfl ?_
    refine g_st [.ref 213, .int a1, .int 0, .null] rfl rfl rfl ?_
    exact kl_230_96 r91 h
def wl_230_91 (T : Nat → List Value → yS → (Option Value → yS → Prop) → Prop)  (a1 : Int32) (s : yS) (P : Option Value → yS → Prop) : Prop :=
  ∃ (I : Int32 → yS → Prop) (μ : Int32 → yS → Nat), I a1 s ∧ ∀ (a1 : Int32) (s : yS), I a1 s → w_230_91 T (fun a1' s' => I a1' s' ∧ μ a1' s' < μ a1 s) a1 s P
theorem kl_230_91 {d : Nat}  {a1 : Int32} {s : yS} {P : Option Value → yS → Prop}  (h : wl_230_91 (Tot d)  a1 s P) : Go d 3 (some .int) xE_230 (xE_230.drop 91) [.ref 213, .int a1, .null, .null] [] s P := by
  obtain ⟨I, μ, h0, h1⟩ := h
  have key : ∀ (n : Nat) (a1 : Int32) (s : yS), μ a1 s = n → I a1 s → Go d 3 (some .int) xE_230 (xE_230.drop 91) [.ref 213, .int a1, .null, .null] [] s P := by
    intro n
    induction n using Nat.strongRecOn with
    | ind n ih =>
      intro a1 s e hI
      exact k_230_91 (fun a1' s' q => ih _ (by rw [← e]; exact q.2) _ _  rfl q.1) (h1 a1 s hI)
  exact key _ a1 s rfl h0
def w_230_69 (T : Nat → List Value → yS → (Option Value → yS → Prop) → Prop) (R69 : Int32 → yS → Prop) (a1 : Int32) (s : yS) (P : Option Value → yS → Prop) : Prop :=
  (6 ≤ a1.toInt → ∀ s1, s1 = sf s 64 100000 → ∀ s2, s2 = sf s1 70 0 → wl_230_91 T  0  s2 P) ∧ (¬ (6 ≤ a1.toInt) → (-2147483648 ≤ 5000 + a1.toInt ∧ 5000 + a1.toInt ≤ 2147483647) ∧ (∀ x3 : Int32, x3.toInt = 5000 + a1.toInt → (-2147483648 ≤ 8 * x3.toInt ∧ 8 * x3.toInt ≤ 2147483647) ∧ (∀ x4 : Int32, x4.toInt = 8 * x3.toInt → (0 ≤ a1.toInt ∧ a1.toInt < 200000) ∧ (∀ s5, s5 = sa s 264 a1.toInt.toNat x4 → (-2147483648 ≤ a1.toInt + 1 ∧ a1.toInt + 1 ≤ 2147483647) ∧ (∀ x6 : Int32, x6.toInt = a1.toInt + 1 → R69 x6  s5)))))
set_option maxRecDepth 20000 in
theorem k_230_69 {d : Nat} {R69 : Int32 → yS → Prop} {a1 : Int32} {s : yS} {P : Option Value → yS → Prop} (r69 : ∀ a1 s, R69 a1 s → Go d 3 (some .int) xE_230 (xE_230.drop 69) [.ref 213, .int a1, .null, .null] [] s P) (h : w_230_69 (Tot d) R69 a1 s P) : Go d 3 (some .int) xE_230 (xE_230.drop 69) [.ref 213, .int a1, .null, .null] [] s P := by
  unfold w_230_69 at h
  refine g_ld rfl rfl rfl ?_
  refine g_c [.int 6, .int a1] (xo_push (.int 6)) rfl rfl ?_
  refine g_brP rfl rfl ⟨fun hc => ?_, fun hc => ?_⟩
  · replace h := h.1 ((i_le (x := 6) (y := a1) (show (6 : Int32).toInt = 6 by decide) rfl).mp hc)
    refine g_ld rfl rfl rfl ?_
    refine g_c [.int 100000, .ref 213] (xo_push (.int 100000)) rfl rfl ?_
    refine g_put rfl rfl rfl ?_
    replace h := h _ rfl
    refine g_ld rfl rfl rfl ?_
    refine g_c [.int 0, .ref 213] (xo_push (.int 0)) rfl rfl ?_
    refine g_put rfl rfl rfl ?_
    replace h := h _ rfl
    refine g_c [.int 0] (xo_push (.int 0)) rfl rfl ?_
    refine g_st [.ref 213, .int 0, .null, .null] rfl rfl rfl ?_
    exact kl_230_91  h
  · replace h := h.2 (fun q => hc ((i_le (x := 6) (y := a1) (show (6 : Int32).toInt = 6 by decide) rfl).mpr q))
    refine g_ld rfl rfl rfl ?_
    refine g_get rfl rfl ?_
    change Go _ _ _ _ _ _ [.ref 264] _ _
    refine g_ld rfl rfl rfl ?_
    refine g_c [.int 8, .int a1, .ref 264] (xo_push (.int 8)) rfl rfl ?_
    refine g_c [.int 5000, .int 8, .int a1, .ref 264] (xo_push (.int 5000)) rfl rfl ?_
    refine g_ld rfl rfl rfl ?_
    have ex3 := i_add (x := 5000) (y := a1) (show (5000 : Int32).toInt = 5000 by decide) rfl h.1
    have cx3 := ck_add (x := 5000) (y := a1) (show (5000 : Int32).toInt = 5000 by decide) rfl h.1
    replace h := h.2 _ ex3
    refine g_ca [.int (5000 + a1), .int 8, .int a1, .ref 264] xo_iadd rfl rfl (fun _ => cx3) ?_
    have ex4 := i_mul (x := 8) (y := (5000 + a1)) (show (8 : Int32).toInt = 8 by decide) rfl h.1
    have cx4 := ck_mul (x := 8) (y := (5000 + a1)) (show (8 : Int32).toInt = 8 by decide) rfl h.1
    replace h := h.2 _ ex4
    refine g_ca [.int (8 * (5000 + a1)), .int a1, .ref 264] xo_imul rfl rfl (fun _ => cx4) ?_
    refine g_ias rfl rfl (i_in (x := a1) rfl h.1) ?_
    replace h := h.2
    replace h := h _ rfl
    have ex6 := i_add (x := a1) (y := 1) rfl (show (1 : Int32).toInt = 1 by decide) h.1
    have cx6 := ck_inc (x := a1) (n := 1) rfl h.1
    replace h := h.2 _ ex6
    refine g_inc [.ref 213, .int (a1 + 1), .null, .null] rfl rfl rfl rfl cx6 ?_
    refine g_go rfl ?_
    exact r69 (a1 + 1)  (sa s 264 a1.toInt.toNat (8 * (5000 + a1))) h
def wl_230_69 (T : Nat → List Value → yS → (Option Value → yS → Prop) → Prop)  (a1 : Int32) (s : yS) (P : Option Value → yS → Prop) : Prop :=
  ∃ (I : Int32 → yS → Prop) (μ : Int32 → yS → Nat), I a1 s ∧ ∀ (a1 : Int32) (s : yS), I a1 s → w_230_69 T (fun a1' s' => I a1' s' ∧ μ a1' s' < μ a1 s) a1 s P
theorem kl_230_69 {d : Nat}  {a1 : Int32} {s : yS} {P : Option Value → yS → Prop}  (h : wl_230_69 (Tot d)  a1 s P) : Go d 3 (some .int) xE_230 (xE_230.drop 69) [.ref 213, .int a1, .null, .null] [] s P := by
  obtain ⟨I, μ, h0, h1⟩ := h
  have key : ∀ (n : Nat) (a1 : Int32) (s : yS), μ a1 s = n → I a1 s → Go d 3 (some .int) xE_230 (xE_230.drop 69) [.ref 213, .int a1, .null, .null] [] s P := by
    intro n
    induction n using Nat.strongRecOn with
    | ind n ih =>
      intro a1 s e hI
      exact k_230_69 (fun a1' s' q => ih _ (by rw [← e]; exact q.2) _ _  rfl q.1) (h1 a1 s hI)
  exact key _ a1 s rfl h0
def w_230_0 (T : Nat → List Value → yS → (Option Value → yS → Prop) → Prop)   (s : yS) (P : Option Value → yS → Prop) : Prop :=
  ∀ s1, s1 = sf s 0 0 → (-2147483648 ≤ 1 - (s1.1 29).toInt ∧ 1 - (s1.1 29).toInt ≤ 2147483647) ∧ (∀ x2 : Int32, x2.toInt = 1 - (s1.1 29).toInt → ∀ s3, s3 = sf s1 30 x2 → ∀ s4, s4 = sf s3 9 (s3.1 30) → T 161 [.ref 213] s4 (fun v6 s5 => v6 = none ∧ (T 162 [.ref 213] s5 (fun v8 s7 => v8 = none ∧ ((-2147483648 ≤ 4002 * (s7.1 30).toInt ∧ 4002 * (s7.1 30).toInt ≤ 2147483647) ∧ (∀ x9 : Int32, x9.toInt = 4002 * (s7.1 30).toInt → ∀ s10, s10 = sf s7 26 x9 → (0 ≤ (s10.1 30).toInt ∧ (s10.1 30).toInt < 2) ∧ (∀ s11, s11 = sa s10 233 (s10.1 30).toInt.toNat 0 → (0 ≤ (s11.1 30).toInt ∧ (s11.1 30).toInt < 2) ∧ (∀ s12, s12 = sa s11 252 (s11.1 30).toInt.toNat 0 → (-2147483648 ≤ 204 * (s12.1 30).toInt ∧ 204 * (s12.1 30).toInt ≤ 2147483647) ∧ (∀ x13 : Int32, x13.toInt = 204 * (s12.1 30).toInt → ∀ s14, s14 = sf s12 42 x13 → (0 ≤ (s14.1 30).toInt ∧ (s14.1 30).toInt < 2) ∧ (∀ s15, s15 = sa s14 263 (s14.1 30).toInt.toNat 0 → T 179 [.ref 213] s15 (fun v17 s16 => v17 = none ∧ (∀ s18, s18 = sf s16 75 (s16.1 30) → (-2147483648 ≤ 4100 * (s18.1 30).toInt ∧ 4100 * (s18.1 30).toInt ≤ 2147483647) ∧ (∀ x19 : Int32, x19.toInt = 4100 * (s18.1 30).toInt → (-2147483648 ≤ 10 + x19.toInt ∧ 10 + x19.toInt ≤ 2147483647) ∧ (∀ x20 : Int32, x20.toInt = 10 + x19.toInt → ∀ s21, s21 = sf s18 65 x20 → (-2147483648 ≤ 60000 * (s21.1 30).toInt ∧ 60000 * (s21.1 30).toInt ≤ 2147483647) ∧ (∀ x22 : Int32, x22.toInt = 60000 * (s21.1 30).toInt → ∀ s23, s23 = sf s21 85 x22 → wl_230_69 T  0  s23 P)))))))))))))))
set_option maxRecDepth 20000 in
theorem k_230_0 {d : Nat}   {s : yS} {P : Option Value → yS → Prop}  (h : w_230_0 (Tot d)   s P) : Go d 3 (some .int) xE_230 (xE_230.drop 0) [.ref 213, .null, .null, .null] [] s P := by
  unfold w_230_0 at h
  refine g_ld rfl rfl rfl ?_
  refine g_c [.int 0, .ref 213] (xo_push (.int 0)) rfl rfl ?_
  refine g_put rfl rfl rfl ?_
  replace h := h _ rfl
  refine g_ld rfl rfl rfl ?_
  refine g_c [.int 1, .ref 213] (xo_push (.int 1)) rfl rfl ?_
  refine g_ld rfl rfl rfl ?_
  refine g_get rfl rfl ?_
  change Go _ _ _ _ _ _ [.int ((sf s 0 0).1 29), .int 1, .ref 213] _ _
  have ex2 := i_sub (x := 1) (y := (sf s 0 0).1 29) (show (1 : Int32).toInt = 1 by decide) rfl h.1
  have cx2 := ck_sub (x := 1) (y := (sf s 0 0).1 29) (show (1 : Int32).toInt = 1 by decide) rfl h.1
  replace h := h.2 _ ex2
  refine g_ca [.int (1 - ((sf s 0 0).1 29)), .ref 213] xo_isub rfl rfl (fun _ => cx2) ?_
  refine g_put rfl rfl rfl ?_
  replace h := h _ rfl
  refine g_ld rfl rfl rfl ?_
  refine g_ld rfl rfl rfl ?_
  refine g_get rfl rfl ?_
  change Go _ _ _ _ _ _ [.int ((sf (sf s 0 0) 30 (1 - ((sf s 0 0).1 29))).1 30), .ref 213] _ _
  refine g_put rfl rfl rfl ?_
  replace h := h _ rfl
  refine g_ld rfl rfl rfl ?_
  refine g_call [.ref 213] [] rfl rfl rfl (Tot.imp h (fun v6 s5 h => ?_))
  obtain ⟨rfl, h⟩ := h
  change Go _ _ _ _ _ _ [] _ _
  refine g_ld rfl rfl rfl ?_
  refine g_call [.ref 213] [] rfl rfl rfl (Tot.imp h (fun v8 s7 h => ?_))
  obtain ⟨rfl, h⟩ := h
  change Go _ _ _ _ _ _ [] _ _
  refine g_ld rfl rfl rfl ?_
  refine g_c [.int 4002, .ref 213] (xo_push (.int 4002)) rfl rfl ?_
  refine g_ld rfl rfl rfl ?_
  refine g_get rfl rfl ?_
  change Go _ _ _ _ _ _ [.int (s7.1 30), .int 4002, .ref 213] _ _
  have ex9 := i_mul (x := 4002) (y := s7.1 30) (show (4002 : Int32).toInt = 4002 by decide) rfl h.1
  have cx9 := ck_mul (x := 4002) (y := s7.1 30) (show (4002 : Int32).toInt = 4002 by decide) rfl h.1
  replace h := h.2 _ ex9
  refine g_ca [.int (4002 * (s7.1 30)), .ref 213] xo_imul rfl rfl (fun _ => cx9) ?_
  refine g_put rfl rfl rfl ?_
  replace h := h _ rfl
  refine g_ld rfl rfl rfl ?_
  refine g_get rfl rfl ?_
  change Go _ _ _ _ _ _ [.ref 233] _ _
  refine g_ld rfl rfl rfl ?_
  refine g_get rfl rfl ?_
  change Go _ _ _ _ _ _ [.int ((sf s7 26 (4002 * (s7.1 30))).1 30), .ref 233] _ _
  refine g_c [.int 0, .int ((sf s7 26 (4002 * (s7.1 30))).1 30), .ref 233] (xo_push (.int 0)) rfl rfl ?_
  refine g_ias rfl rfl (i_in (x := (sf s7 26 (4002 * (s7.1 30))).1 30) rfl h.1) ?_
  replace h := h.2
  replace h := h _ rfl
  refine g_ld rfl rfl rfl ?_
  refine g_get rfl rfl ?_
  change Go _ _ _ _ _ _ [.ref 252] _ _
  refine g_ld rfl rfl rfl ?_
  refine g_get rfl rfl ?_
  change Go _ _ _ _ _ _ [.int ((sa (sf s7 26 (4002 * (s7.1 30))) 233 ((sf s7 26 (4002 * (s7.1 30))).1 30).toInt.toNat 0).1 30), .ref 252] _ _
  refine g_c [.int 0, .int ((sa (sf s7 26 (4002 * (s7.1 30))) 233 ((sf s7 26 (4002 * (s7.1 30))).1 30).toInt.toNat 0).1 30), .ref 252] (xo_push (.int 0)) rfl rfl ?_
  refine g_ias rfl rfl (i_in (x := (sa (sf s7 26 (4002 * (s7.1 30))) 233 ((sf s7 26 (4002 * (s7.1 30))).1 30).toInt.toNat 0).1 30) rfl h.1) ?_
  replace h := h.2
  replace h := h _ rfl
  refine g_ld rfl rfl rfl ?_
  refine g_c [.int 204, .ref 213] (xo_push (.int 204)) rfl rfl ?_
  refine g_ld rfl rfl rfl ?_
  refine g_get rfl rfl ?_
  change Go _ _ _ _ _ _ [.int ((sa (sa (sf s7 26 (4002 * (s7.1 30))) 233 ((sf s7 26 (4002 * (s7.1 30))).1 30).toInt.toNat 0) 252 ((sa (sf s7 26 (4002 * (s7.1 30))) 233 ((sf s7 26 (4002 * (s7.1 30))).1 30).toInt.toNat 0).1 30).toInt.toNat 0).1 30), .int 204, .ref 213] _ _
  have ex13 := i_mul (x := 204) (y := (sa (sa (sf s7 26 (4002 * (s7.1 30))) 233 ((sf s7 26 (4002 * (s7.1 30))).1 30).toInt.toNat 0) 252 ((sa (sf s7 26 (4002 * (s7.1 30))) 233 ((sf s7 26 (4002 * (s7.1 30))).1 30).toInt.toNat 0).1 30).toInt.toNat 0).1 30) (show (204 : Int32).toInt = 204 by decide) rfl h.1
  have cx13 := ck_mul (x := 204) (y := (sa (sa (sf s7 26 (4002 * (s7.1 30))) 233 ((sf s7 26 (4002 * (s7.1 30))).1 30).toInt.toNat 0) 252 ((sa (sf s7 26 (4002 * (s7.1 30))) 233 ((sf s7 26 (4002 * (s7.1 30))).1 30).toInt.toNat 0).1 30).toInt.toNat 0).1 30) (show (204 : Int32).toInt = 204 by decide) rfl h.1
  replace h := h.2 _ ex13
  refine g_ca [.int (204 * ((sa (sa (sf s7 26 (4002 * (s7.1 30))) 233 ((sf s7 26 (4002 * (s7.1 30))).1 30).toInt.toNat 0) 252 ((sa (sf s7 26 (4002 * (s7.1 30))) 233 ((sf s7 26 (4002 * (s7.1 30))).1 30).toInt.toNat 0).1 30).toInt.toNat 0).1 30)), .ref 213] xo_imul rfl rfl (fun _ => cx13) ?_
  refine g_put rfl rfl rfl ?_
  replace h := h _ rfl
  refine g_ld rfl rfl rfl ?_
  refine g_get rfl rfl ?_
  change Go _ _ _ _ _ _ [.ref 263] _ _
  refine g_ld rfl rfl rfl ?_
  refine g_get rfl rfl ?_
  change Go _ _ _ _ _ _ [.int ((sf (sa (sa (sf s7 26 (4002 * (s7.1 30))) 233 ((sf s7 26 (4002 * (s7.1 30))).1 30).toInt.toNat 0) 252 ((sa (sf s7 26 (4002 * (s7.1 30))) 233 ((sf s7 26 (4002 * (s7.1 30))).1 30).toInt.toNat 0).1 30).toInt.toNat 0) 42 (204 * ((sa (sa (sf s7 26 (4002 * (s7.1 30))) 233 ((sf s7 26 (4002 * (s7.1 30))).1 30).toInt.toNat 0) 252 ((sa (sf s7 26 (4002 * (s7.1 30))) 233 ((sf s7 26 (4002 * (s7.1 30))).1 30).toInt.toNat 0).1 30).toInt.toNat 0).1 30))).1 30), .ref 263] _ _
  refine g_c [.int 0, .int ((sf (sa (sa (sf s7 26 (4002 * (s7.1 30))) 233 ((sf s7 26 (4002 * (s7.1 30))).1 30).toInt.toNat 0) 252 ((sa (sf s7 26 (4002 * (s7.1 30))) 233 ((sf s7 26 (4002 * (s7.1 30))).1 30).toInt.toNat 0).1 30).toInt.toNat 0) 42 (204 * ((sa (sa (sf s7 26 (4002 * (s7.1 30))) 233 ((sf s7 26 (4002 * (s7.1 30))).1 30).toInt.toNat 0) 252 ((sa (sf s7 26 (4002 * (s7.1 30))) 233 ((sf s7 26 (4002 * (s7.1 30))).1 30).toInt.toNat 0).1 30).toInt.toNat 0).1 30))).1 30), .ref 263] (xo_push (.int 0)) rfl rfl ?_
  refine g_ias rfl rfl (i_in (x := (sf (sa (sa (sf s7 26 (4002 * (s7.1 30))) 233 ((sf s7 26 (4002 * (s7.1 30))).1 30).toInt.toNat 0) 252 ((sa (sf s7 26 (4002 * (s7.1 30))) 233 ((sf s7 26 (4002 * (s7.1 30))).1 30).toInt.toNat 0).1 30).toInt.toNat 0) 42 (204 * ((sa (sa (sf s7 26 (4002 * (s7.1 30))) 233 ((sf s7 26 (4002 * (s7.1 30))).1 30).toInt.toNat 0) 252 ((sa (sf s7 26 (4002 * (s7.1 30))) 233 ((sf s7 26 (4002 * (s7.1 30))).1 30).toInt.toNat 0).1 30).toInt.toNat 0).1 30))).1 30) rfl h.1) ?_
  replace h := h.2
  replace h := h _ rfl
  refine g_ld rfl rfl rfl ?_
  refine g_call [.ref 213] [] rfl rfl rfl (Tot.imp h (fun v17 s16 h => ?_))
  obtain ⟨rfl, h⟩ := h
  change Go _ _ _ _ _ _ [] _ _
  refine g_ld rfl rfl rfl ?_
  refine g_ld rfl rfl rfl ?_
  refine g_get rfl rfl ?_
  change Go _ _ _ _ _ _ [.int (s16.1 30), .ref 213] _ _
  refine g_put rfl rfl rfl ?_
  replace h := h _ rfl
  refine g_ld rfl rfl rfl ?_
  refine g_c [.int 10, .ref 213] (xo_push (.int 10)) rfl rfl ?_
  refine g_c [.int 4100, .int 10, .ref 213] (xo_push (.int 4100)) rfl rfl ?_
  refine g_ld rfl rfl rfl ?_
  refine g_get rfl rfl ?_
  change Go _ _ _ _ _ _ [.int ((sf s16 75 (s16.1 30)).1 30), .int 4100, .int 10, .ref 213] _ _
  have ex19 := i_mul (x := 4100) (y := (sf s16 75 (s16.1 30)).1 30) (show (4100 : Int32).toInt = 4100 by decide) rfl h.1
  have cx19 := ck_mul (x := 4100) (y := (sf s16 75 (s16.1 30)).1 30) (show (4100 : Int32).toInt = 4100 by decide) rfl h.1
  replace h := h.2 _ ex19
  refine g_ca [.int (4100 * ((sf s16 75 (s16.1 30)).1 30)), .int 10, .ref 213] xo_imul rfl rfl (fun _ => cx19) ?_
  have ex20 := i_add (x := 10) (y := (4100 * ((sf s16 75 (s16.1 30)).1 30))) (show (10 : Int32).toInt = 10 by decide) rfl h.1
  have cx20 := ck_add (x := 10) (y := (4100 * ((sf s16 75 (s16.1 30)).1 30))) (show (10 : Int32).toInt = 10 by decide) rfl h.1
  replace h := h.2 _ ex20
  refine g_ca [.int (10 + (4100 * ((sf s16 75 (s16.1 30)).1 30))), .ref 213] xo_iadd rfl rfl (fun _ => cx20) ?_
  refine g_put rfl rfl rfl ?_
  replace h := h _ rfl
  refine g_ld rfl rfl rfl ?_
  refine g_c [.int 60000, .ref 213] (xo_push (.int 60000)) rfl rfl ?_
  refine g_ld rfl rfl rfl ?_
  refine g_get rfl rfl ?_
  change Go _ _ _ _ _ _ [.int ((sf (sf s16 75 (s16.1 30)) 65 (10 + (4100 * ((sf s16 75 (s16.1 30)).1 30)))).1 30), .int 60000, .ref 213] _ _
  have ex22 := i_mul (x := 60000) (y := (sf (sf s16 75 (s16.1 30)) 65 (10 + (4100 * ((sf s16 75 (s16.1 30)).1 30)))).1 30) (show (60000 : Int32).toInt = 60000 by decide) rfl h.1
  have cx22 := ck_mul (x := 60000) (y := (sf (sf s16 75 (s16.1 30)) 65 (10 + (4100 * ((sf s16 75 (s16.1 30)).1 30)))).1 30) (show (60000 : Int32).toInt = 60000 by decide) rfl h.1
  replace h := h.2 _ ex22
  refine g_ca [.int (60000 * ((sf (sf s16 75 (s16.1 30)) 65 (10 + (4100 * ((sf s16 75 (s16.1 30)).1 30)))).1 30)), .ref 213] xo_imul rfl rfl (fun _ => cx22) ?_
  refine g_put rfl rfl rfl ?_
  replace h := h _ rfl
  refine g_c [.int 0] (xo_push (.int 0)) rfl rfl ?_
  refine g_st [.ref 213, .int 0, .null, .null] rfl rfl rfl ?_
  exact kl_230_69  h
theorem t_230 {d : Nat}  {s : yS} {P : Option Value → yS → Prop} (h : w_230_0 (Tot d)  s P) : Tot (d + 1) 230 [.ref 213] s P := tot_of (E := xE_230) (ml := 3) (ret := some .int) rfl rfl rfl (k_230_0 h)
/-! goThrough -/
def w_231_56 (T : Nat → List Value → yS → (Option Value → yS → Prop) → Prop)  (a1 : Int32) (a2 : Int32) (a3 : Int32) (a4 : Int32) (s : yS) (P : Option Value → yS → Prop) : Prop :=
  P none s
set_option maxRecDepth 20000 in
theorem k_231_56 {d : Nat}  {a1 : Int32} {a2 : Int32} {a3 : Int32} {a4 : Int32} {s : yS} {P : Option Value → yS → Prop}  (h : w_231_56 (Tot d)  a1 a2 a3 a4 s P) : Go d 5 (none) xE_231 (xE_231.drop 56) [.ref 213, .int a1, .int a2, .int a3, .int a4, .null, .null, .null] [] s P := by
  unfold w_231_56 at h
  exact g_ret0 rfl h
def w_231_0 (T : Nat → List Value → yS → (Option Value → yS → Prop) → Prop)  (a1 : Int32) (a2 : Int32) (s : yS) (P : Option Value → yS → Prop) : Prop :=
  (-2147483648 ≤ 24 * (s.1 30).toInt ∧ 24 * (s.1 30).toInt ≤ 2147483647) ∧ (∀ x1 : Int32, x1.toInt = 24 * (s.1 30).toInt → (-2147483648 ≤ x1.toInt + a2.toInt ∧ x1.toInt + a2.toInt ≤ 2147483647) ∧ (∀ x2 : Int32, x2.toInt = x1.toInt + a2.toInt → (-2147483648 ≤ 60 * (s.1 30).toInt ∧ 60 * (s.1 30).toInt ≤ 2147483647) ∧ (∀ x3 : Int32, x3.toInt = 60 * (s.1 30).toInt → (-2147483648 ≤ x3.toInt + a2.toInt ∧ x3.toInt + a2.toInt ≤ 2147483647) ∧ (∀ x4 : Int32, x4.toInt = x3.toInt + a2.toInt → (-2147483648 ≤ x4.toInt - 100 ∧ x4.toInt - 100 ≤ 2147483647) ∧ (∀ x5 : Int32, x5.toInt = x4.toInt - 100 → (¬ (a1.toInt = 0) → (¬ (a1.toInt = 1) → (100 ≤ a2.toInt → (0 ≤ x5.toInt ∧ x5.toInt < 120) ∧ (T 213 [.ref 213, .int (s.2.1 257 x5.toInt.toNat)] s (fun v7 s6 => v7 = none ∧ (w_231_56 T  a1 a2 x2 x5  s6 P)))) ∧ (¬ (100 ≤ a2.toInt) → T 214 [.ref 213, .int x2] s (fun v9 s8 => v9 = none ∧ (w_231_56 T  a1 a2 x2 x5  s8 P)))) ∧ (a1.toInt = 1 → (100 ≤ a2.toInt → T 210 [.ref 213, .int x5] s (fun v11 s10 => v11 = none ∧ (w_231_56 T  a1 a2 x2 x5  s10 P))) ∧ (¬ (100 ≤ a2.toInt) → T 209 [.ref 213, .int x2] s (fun v13 s12 => v13 = none ∧ (w_231_56 T  a1 a2 x2 x5  s12 P))))) ∧ (a1.toInt = 0 → (100 ≤ a2.toInt → T 202 [.ref 213, .int x5] s (fun v15 s14 => v15 = none ∧ (w_231_56 T  a1 a2 x2 x5  s14 P))) ∧ (¬ (100 ≤ a2.toInt) → T 201 [.ref 213, .int x2] s (fun v17 s16 => v17 = none ∧ (w_231_56 T  a1 a2 x2 x5  s16 P)))))))))
set_option maxRecDepth 20000 in
theorem k_231_0 {d : Nat}  {a1 : Int32} {a2 : Int32} {s : yS} {P : Option Value → yS → Prop}  (h : w_231_0 (Tot d)  a1 a2 s P) : Go d 5 (none) xE_231 (xE_231.drop 0) [.ref 213, .int a1, .int a2, .null, .null, .null, .null, .null] [] s P := by
  unfold w_231_0 at h
  refine g_c [.int 24] (xo_push (.int 24)) rfl rfl ?_
  refine g_ld rfl rfl rfl ?_
  refine g_get rfl rfl ?_
  change Go _ _ _ _ _ _ [.int (s.1 30), .int 24] _ _
  have ex1 := i_mul (x := 24) (y := s.1 30) (show (24 : Int32).toInt = 24 by decide) rfl h.1
  have cx1 := ck_mul (x := 24) (y := s.1 30) (show (24 : Int32).toInt = 24 by decide) rfl h.1
  replace h := h.2 _ ex1
  refine g_ca [.int (24 * (s.1 30))] xo_imul rfl rfl (fun _ => cx1) ?_
  refine g_ld rfl rfl rfl ?_
  have ex2 := i_add (x := (24 * (s.1 30))) (y := a2) rfl rfl h.1
  have cx2 := ck_add (x := (24 * (s.1 30))) (y := a2) rfl rfl h.1
  replace h := h.2 _ ex2
  refine g_ca [.int ((24 * (s.1 30)) + a2)] xo_iadd rfl rfl (fun _ => cx2) ?_
  refine g_st [.ref 213, .int a1, .int a2, .int ((24 * (s.1 30)) + a2), .null, .null, .null, .null] rfl rfl rfl ?_
  refine g_c [.int 60] (xo_push (.int 60)) rfl rfl ?_
  refine g_ld rfl rfl rfl ?_
  refine g_get rfl rfl ?_
  change Go _ _ _ _ _ _ [.int (s.1 30), .int 60] _ _
  have ex3 := i_mul (x := 60) (y := s.1 30) (show (60 : Int32).toInt = 60 by decide) rfl h.1
  have cx3 := ck_mul (x := 60) (y := s.1 30) (show (60 : Int32).toInt = 60 by decide) rfl h.1
  replace h := h.2 _ ex3
  refine g_ca [.int (60 * (s.1 30))] xo_imul rfl rfl (fun _ => cx3) ?_
  refine g_ld rfl rfl rfl ?_
  have ex4 := i_add (x := (60 * (s.1 30))) (y := a2) rfl rfl h.1
  have cx4 := ck_add (x := (60 * (s.1 30))) (y := a2) rfl rfl h.1
  replace h := h.2 _ ex4
  refine g_ca [.int ((60 * (s.1 30)) + a2)] xo_iadd rfl rfl (fun _ => cx4) ?_
  refine g_c [.int 100, .int ((60 * (s.1 30)) + a2)] (xo_push (.int 100)) rfl rfl ?_
  have ex5 := i_sub (x := ((60 * (s.1 30)) + a2)) (y := 100) rfl (show (100 : Int32).toInt = 100 by decide) h.1
  have cx5 := ck_sub (x := ((60 * (s.1 30)) + a2)) (y := 100) rfl (show (100 : Int32).toInt = 100 by decide) h.1
  replace h := h.2 _ ex5
  refine g_ca [.int (((60 * (s.1 30)) + a2) - 100)] xo_isub rfl rfl (fun _ => cx5) ?_
  refine g_st [.ref 213, .int a1, .int a2, .int ((24 * (s.1 30)) + a2), .int (((60 * (s.1 30)) + a2) - 100), .null, .null, .null] rfl rfl rfl ?_
  refine g_ld rfl rfl rfl ?_
  refine g_brN rfl rfl ⟨fun hc => ?_, fun hc => ?_⟩
  · replace h := h.1 (fun q => hc ((i_eq (x := a1) (y := 0) rfl (show (0 : Int32).toInt = 0 by decide)).mpr q))
    refine g_ld rfl rfl rfl ?_
    refine g_c [.int 1, .int a1] (xo_push (.int 1)) rfl rfl ?_
    refine g_brN rfl rfl ⟨fun hc => ?_, fun hc => ?_⟩
    · replace h := h.1 (fun q => hc ((i_eq (x := a1) (y := 1) rfl (show (1 : Int32).toInt = 1 by decide)).mpr q))
      refine g_ld rfl rfl rfl ?_
      refine g_c [.int 100, .int a2] (xo_push (.int 100)) rfl rfl ?_
      refine g_brP rfl rfl ⟨fun hc => ?_, fun hc => ?_⟩
      · replace h := h.1 ((i_le (x := 100) (y := a2) (show (100 : Int32).toInt = 100 by decide) rfl).mp hc)
        refine g_ld rfl rfl rfl ?_
        refine g_ld rfl rfl rfl ?_
        refine g_get rfl rfl ?_
        change Go _ _ _ _ _ _ [.ref 257, .ref 213] _ _
        refine g_ld rfl rfl rfl ?_
        refine g_ial rfl rfl (i_in (x := (((60 * (s.1 30)) + a2) - 100)) rfl h.1) ?_
        change Go _ _ _ _ _ _ [.int (s.2.1 257 (((60 * (s.1 30)) + a2) - 100).toInt.toNat), .ref 213] _ _
        replace h := h.2
        refine g_call [.ref 213, .int (s.2.1 257 (((60 * (s.1 30)) + a2) - 100).toInt.toNat)] [] rfl rfl rfl (Tot.imp h (fun v7 s6 h => ?_))
        obtain ⟨rfl, h⟩ := h
        change Go _ _ _ _ _ _ [] _ _
        exact k_231_56  h
      · replace h := h.2 (fun q => hc ((i_le (x := 100) (y := a2) (show (100 : Int32).toInt = 100 by decide) rfl).mpr q))
        refine g_ld rfl rfl rfl ?_
        refine g_ld rfl rfl rfl ?_
        refine g_call [.ref 213, .int ((24 * (s.1 30)) + a2)] [] rfl rfl rfl (Tot.imp h (fun v9 s8 h => ?_))
        obtain ⟨rfl, h⟩ := h
        change Go _ _ _ _ _ _ [] _ _
        refine g_go rfl ?_
        exact k_231_56  h
    · replace h := h.2 ((i_eq (x := a1) (y := 1) rfl (show (1 : Int32).toInt = 1 by decide)).mp hc)
      refine g_ld rfl rfl rfl ?_
      refine g_c [.int 100, .int a2] (xo_push (.int 100)) rfl rfl ?_
      refine g_brP rfl rfl ⟨fun hc => ?_, fun hc => ?_⟩
      · replace h := h.1 ((i_le (x := 100) (y := a2) (show (100 : Int32).toInt = 100 by decide) rfl).mp hc)
        refine g_ld rfl rfl rfl ?_
        refine g_ld rfl rfl rfl ?_
        refine g_call [.ref 213, .int (((60 * (s.1 30)) + a2) - 100)] [] rfl rfl rfl (Tot.imp h (fun v11 s10 h => ?_))
        obtain ⟨rfl, h⟩ := h
        change Go _ _ _ _ _ _ [] _ _
        refine g_go rfl ?_
        exact k_231_56  h
      · replace h := h.2 (fun q => hc ((i_le (x := 100) (y := a2) (show (100 : Int32).toInt = 100 by decide) rfl).mpr q))
        refine g_ld rfl rfl rfl ?_
        refine g_ld rfl rfl rfl ?_
        refine g_call [.ref 213, .int ((24 * (s.1 30)) + a2)] [] rfl rfl rfl (Tot.imp h (fun v13 s12 h => ?_))
        obtain ⟨rfl, h⟩ := h
        change Go _ _ _ _ _ _ [] _ _
        refine g_go rfl ?_
        exact k_231_56  h
  · replace h := h.2 ((i_eq (x := a1) (y := 0) rfl (show (0 : Int32).toInt = 0 by decide)).mp hc)
    refine g_ld rfl rfl rfl ?_
    refine g_c [.int 100, .int a2] (xo_push (.int 100)) rfl rfl ?_
    refine g_brP rfl rfl ⟨fun hc => ?_, fun hc => ?_⟩
    · replace h := h.1 ((i_le (x := 100) (y := a2) (show (100 : Int32).toInt = 100 by decide) rfl).mp hc)
      refine g_ld rfl rfl rfl ?_
      refine g_ld rfl rfl rfl ?_
      refine g_call [.ref 213, .int (((60 * (s.1 30)) + a2) - 100)] [] rfl rfl rfl (Tot.imp h (fun v15 s14 h => ?_))
      obtain ⟨rfl, h⟩ := h
      change Go _ _ _ _ _ _ [] _ _
      refine g_go rfl ?_
      exact k_231_56  h
    · replace h := h.2 (fun q => hc ((i_le (x := 100) (y := a2) (show (100 : Int32).toInt = 100 by decide) rfl).mpr q))
      refine g_ld rfl rfl rfl ?_
      refine g_ld rfl rfl rfl ?_
      refine g_call [.ref 213, .int ((24 * (s.1 30)) + a2)] [] rfl rfl rfl (Tot.imp h (fun v17 s16 h => ?_))
      obtain ⟨rfl, h⟩ := h
      change Go _ _ _ _ _ _ [] _ _
      refine g_go rfl ?_
      exact k_231_56  h
theorem t_231 {d : Nat} {a1 : Int32} {a2 : Int32} {s : yS} {P : Option Value → yS → Prop} (h : w_231_0 (Tot d) a1 a2 s P) : Tot (d + 1) 231 [.ref 213, .int a1, .int a2] s P := tot_of (E := xE_231) (ml := 5) (ret := none) rfl rfl rfl (k_231_0 h)
/-! forget -/
def w_232_0 (T : Nat → List Value → yS → (Option Value → yS → Prop) → Prop)   (s : yS) (P : Option Value → yS → Prop) : Prop :=
  ∀ s1, s1 = sf s 90 1 → ∀ s2, s2 = sf s1 91 (-1) → ∀ s3, s3 = sf s2 92 (-1) → ∀ s4, s4 = sf s3 93 0 → ∀ s5, s5 = sf s4 95 0 → ∀ s6, s6 = sf s5 109 (-1) → ∀ s7, s7 = sf s6 110 0 → P none s7
set_option maxRecDepth 20000 in
theorem k_232_0 {d : Nat}   {s : yS} {P : Option Value → yS → Prop}  (h : w_232_0 (Tot d)   s P) : Go d 1 (none) xE_232 (xE_232.drop 0) [.ref 213, .null] [] s P := by
  unfold w_232_0 at h
  refine g_ld rfl rfl rfl ?_
  refine g_c [.int 1, .ref 213] (xo_push (.int 1)) rfl rfl ?_
  refine g_put rfl rfl rfl ?_
  replace h := h _ rfl
  refine g_ld rfl rfl rfl ?_
  refine g_c [.int (-1), .ref 213] (xo_push (.int (-1))) rfl rfl ?_
  refine g_put rfl rfl rfl ?_
  replace h := h _ rfl
  refine g_ld rfl rfl rfl ?_
  refine g_c [.int (-1), .ref 213] (xo_push (.int (-1))) rfl rfl ?_
  refine g_put rfl rfl rfl ?_
  replace h := h _ rfl
  refine g_ld rfl rfl rfl ?_
  refine g_c [.int 0, .ref 213] (xo_push (.int 0)) rfl rfl ?_
  refine g_put rfl rfl rfl ?_
  replace h := h _ rfl
  refine g_ld rfl rfl rfl ?_
  refine g_c [.int 0, .ref 213] (xo_push (.int 0)) rfl rfl ?_
  refine g_put rfl rfl rfl ?_
  replace h := h _ rfl
  refine g_ld rfl rfl rfl ?_
  refine g_c [.int (-1), .ref 213] (xo_push (.int (-1))) rfl rfl ?_
  refine g_put rfl rfl rfl ?_
  replace h := h _ rfl
  refine g_ld rfl rfl rfl ?_
  refine g_c [.int 0, .ref 213] (xo_push (.int 0)) rfl rfl ?_
  refine g_put rfl rfl rfl ?_
  replace h := h _ rfl
  exact g_ret0 rfl h
theorem t_232 {d : Nat}  {s : yS} {P : Option Value → yS → Prop} (h : w_232_0 (Tot d)  s P) : Tot (d + 1) 232 [.ref 213] s P := tot_of (E := xE_232) (ml := 1) (ret := none) rfl rfl rfl (k_232_0 h)
/-! askedType -/
def w_233_12 (T : Nat → List Value → yS → (Option Value → yS → Prop) → Prop)  (a1 : Int32) (t0 : Int32) (s : yS) (P : Option Value → yS → Prop) : Prop :=
  P (some (.int t0)) s
set_option maxRecDepth 20000 in
theorem k_233_12 {d : Nat}  {a1 : Int32} {t0 : Int32} {s : yS} {P : Option Value → yS → Prop}  (h : w_233_12 (Tot d)  a1 t0 s P) : Go d 2 (some .int) xE_233 (xE_233.drop 12) [.ref 213, .int a1, .null] [.int t0] s P := by
  unfold w_233_12 at h
  exact g_retI rfl h
def w_233_0 (T : Nat → List Value → yS → (Option Value → yS → Prop) → Prop)   (s : yS) (P : Option Value → yS → Prop) : Prop :=
  ∀ s1, s1 = sf s 27 0 → T 173 [.ref 213] s1 (fun v3 s2 => ∃ x4, v3 = some (.int x4) ∧ (((s2.1 8).toInt ≤ 0 → w_233_12 T  x4 x4 s2 P) ∧ (¬ ((s2.1 8).toInt ≤ 0) → w_233_12 T  x4 (-1) s2 P)))
set_option maxRecDepth 20000 in
theorem k_233_0 {d : Nat}   {s : yS} {P : Option Value → yS → Prop}  (h : w_233_0 (Tot d)   s P) : Go d 2 (some .int) xE_233 (xE_233.drop 0) [.ref 213, .null, .null] [] s P := by
  unfold w_233_0 at h
  refine g_ld rfl rfl rfl ?_
  refine g_c [.int 0, .ref 213] (xo_push (.int 0)) rfl rfl ?_
  refine g_put rfl rfl rfl ?_
  replace h := h _ rfl
  refine g_ld rfl rfl rfl ?_
  refine g_call [.ref 213] [] rfl rfl rfl (Tot.imp h (fun v3 s2 h => ?_))
  obtain ⟨x4, rfl, h⟩ := h
  change Go _ _ _ _ _ _ [.int x4] _ _
  refine g_st [.ref 213, .int x4, .null] rfl rfl rfl ?_
  refine g_ld rfl rfl rfl ?_
  refine g_get rfl rfl ?_
  change Go _ _ _ _ _ _ [.int (s2.1 8)] _ _
  refine g_brP rfl rfl ⟨fun hc => ?_, fun hc => ?_⟩
  · replace h := h.1 ((i_le (x := s2.1 8) (y := 0) rfl (show (0 : Int32).toInt = 0 by decide)).mp hc)
    refine g_ld rfl rfl rfl ?_
    exact k_233_12  h
  · replace h := h.2 (fun q => hc ((i_le (x := s2.1 8) (y := 0) rfl (show (0 : Int32).toInt = 0 by decide)).mpr q))
    refine g_c [.int (-1)] (xo_push (.int (-1))) rfl rfl ?_
    refine g_go rfl ?_
    exact k_233_12  h
theorem t_233 {d : Nat}  {s : yS} {P : Option Value → yS → Prop} (h : w_233_0 (Tot d)  s P) : Tot (d + 1) 233 [.ref 213] s P := tot_of (E := xE_233) (ml := 2) (ret := some .int) rfl rfl rfl (k_233_0 h)
/-! isGood -/
def w_234_31 (T : Nat → List Value → yS → (Option Value → yS → Prop) → Prop)  (a1 : Int32) (t0 : Int32) (s : yS) (P : Option Value → yS → Prop) : Prop :=
  (t0.toInt = 0 ∨ t0.toInt = 1) ∧ P (some (.int t0)) s
set_option maxRecDepth 20000 in
theorem k_234_31 {d : Nat}  {a1 : Int32} {t0 : Int32} {s : yS} {P : Option Value → yS → Prop}  (h : w_234_31 (Tot d)  a1 t0 s P) : Go d 2 (some .boolean) xE_234 (xE_234.drop 31) [.ref 213, .int a1, .null, .null] [.int t0] s P := by
  unfold w_234_31 at h
  exact g_retZ rfl (i_z (x := t0) rfl h.1) h.2
def w_234_25 (T : Nat → List Value → yS → (Option Value → yS → Prop) → Prop)  (a1 : Int32) (s : yS) (P : Option Value → yS → Prop) : Prop :=
  (¬ ((s.1 8).toInt = 0) → w_234_31 T  a1 0 s P) ∧ ((s.1 8).toInt = 0 → w_234_31 T  a1 1 s P)
set_option maxRecDepth 20000 in
theorem k_234_25 {d : Nat}  {a1 : Int32} {s : yS} {P : Option Value → yS → Prop}  (h : w_234_25 (Tot d)  a1 s P) : Go d 2 (some .boolean) xE_234 (xE_234.drop 25) [.ref 213, .int a1, .null, .null] [] s P := by
  unfold w_234_25 at h
  refine g_ld rfl rfl rfl ?_
  refine g_get rfl rfl ?_
  change Go _ _ _ _ _ _ [.int (s.1 8)] _ _
  refine g_brN rfl rfl ⟨fun hc => ?_, fun hc => ?_⟩
  · replace h := h.1 (fun q => hc ((i_eq (x := s.1 8) (y := 0) rfl (show (0 : Int32).toInt = 0 by decide)).mpr q))
    refine g_c [.int 0] (xo_push (.int 0)) rfl rfl ?_
    exact k_234_31  h
  · replace h := h.2 ((i_eq (x := s.1 8) (y := 0) rfl (show (0 : Int32).toInt = 0 by decide)).mp hc)
    refine g_c [.int 1] (xo_push (.int 1)) rfl rfl ?_
    refine g_go rfl ?_
    exact k_234_31  h
def w_234_0 (T : Nat → List Value → yS → (Option Value → yS → Prop) → Prop)  (a1 : Int32) (s : yS) (P : Option Value → yS → Prop) : Prop :=
  T 206 [.ref 213, .int (-1), .int (-1), .int (-1)] s (fun v2 s1 => v2 = none ∧ (∀ s3, s3 = sf s1 75 (s1.1 29) → T 204 [.ref 213, .int a1, .int 1] s3 (fun v5 s4 => v5 = none ∧ ((¬ ((s4.1 8).toInt = 0) → w_234_25 T  a1  s4 P) ∧ ((s4.1 8).toInt = 0 → ∀ s6, s6 = sf s4 64 100000 → ∀ s7, s7 = sf s6 70 0 → T 211 [.ref 213, .int a1] s7 (fun v9 s8 => v9 = none ∧ (w_234_25 T  a1  s8 P)))))))
set_option maxRecDepth 20000 in
theorem k_234_0 {d : Nat}  {a1 : Int32} {s : yS} {P : Option Value → yS → Prop}  (h : w_234_0 (Tot d)  a1 s P) : Go d 2 (some .boolean) xE_234 (xE_234.drop 0) [.ref 213, .int a1, .null, .null] [] s P := by
  unfold w_234_0 at h
  refine g_ld rfl rfl rfl ?_
  refine g_c [.int (-1), .ref 213] (xo_push (.int (-1))) rfl rfl ?_
  refine g_c [.int (-1), .int (-1), .ref 213] (xo_push (.int (-1))) rfl rfl ?_
  refine g_c [.int (-1), .int (-1), .int (-1), .ref 213] (xo_push (.int (-1))) rfl rfl ?_
  refine g_call [.ref 213, .int (-1), .int (-1), .int (-1)] [] rfl rfl rfl (Tot.imp h (fun v2 s1 h => ?_))
  obtain ⟨rfl, h⟩ := h
  change Go _ _ _ _ _ _ [] _ _
  refine g_ld rfl rfl rfl ?_
  refine g_ld rfl rfl rfl ?_
  refine g_get rfl rfl ?_
  change Go _ _ _ _ _ _ [.int (s1.1 29), .ref 213] _ _
  refine g_put rfl rfl rfl ?_
  replace h := h _ rfl
  refine g_ld rfl rfl rfl ?_
  refine g_ld rfl rfl rfl ?_
  refine g_c [.int 1, .int a1, .ref 213] (xo_push (.int 1)) rfl rfl ?_
  refine g_call [.ref 213, .int a1, .int 1] [] rfl rfl rfl (Tot.imp h (fun v5 s4 h => ?_))
  obtain ⟨rfl, h⟩ := h
  change Go _ _ _ _ _ _ [] _ _
  refine g_ld rfl rfl rfl ?_
  refine g_get rfl rfl ?_
  change Go _ _ _ _ _ _ [.int (s4.1 8)] _ _
  refine g_brN rfl rfl ⟨fun hc => ?_, fun hc => ?_⟩
  · replace h := h.1 (fun q => hc ((i_eq (x := s4.1 8) (y := 0) rfl (show (0 : Int32).toInt = 0 by decide)).mpr q))
    exact k_234_25  h
  · replace h := h.2 ((i_eq (x := s4.1 8) (y := 0) rfl (show (0 : Int32).toInt = 0 by decide)).mp hc)
    refine g_ld rfl rfl rfl ?_
    refine g_c [.int 100000, .ref 213] (xo_push (.int 100000)) rfl rfl ?_
    refine g_put rfl rfl rfl ?_
    replace h := h _ rfl
    refine g_ld rfl rfl rfl ?_
    refine g_c [.int 0, .ref 213] (xo_push (.int 0)) rfl rfl ?_
    refine g_put rfl rfl rfl ?_
    replace h := h _ rfl
    refine g_ld rfl rfl rfl ?_
    refine g_ld rfl rfl rfl ?_
    refine g_call [.ref 213, .int a1] [] rfl rfl rfl (Tot.imp h (fun v9 s8 h => ?_))
    obtain ⟨rfl, h⟩ := h
    change Go _ _ _ _ _ _ [] _ _
    exact k_234_25  h
theorem t_234 {d : Nat} {a1 : Int32} {s : yS} {P : Option Value → yS → Prop} (h : w_234_0 (Tot d) a1 s P) : Tot (d + 1) 234 [.ref 213, .int a1] s P := tot_of (E := xE_234) (ml := 2) (ret := some .boolean) rfl rfl rfl (k_234_0 h)
/-! asks -/
def w_235_0 (T : Nat → List Value → yS → (Option Value → yS → Prop) → Prop)   (s : yS) (P : Option Value → yS → Prop) : Prop :=
  ∀ s1, s1 = sf s 9 2 → T 161 [.ref 213] s1 (fun v3 s2 => v3 = none ∧ (T 162 [.ref 213] s2 (fun v5 s4 => v5 = none ∧ (∀ s6, s6 = sf s4 26 8004 → ∀ s7, s7 = sf s6 65 8210 → P none s7))))
set_option maxRecDepth 20000 in
theorem k_235_0 {d : Nat}   {s : yS} {P : Option Value → yS → Prop}  (h : w_235_0 (Tot d)   s P) : Go d 1 (none) xE_235 (xE_235.drop 0) [.ref 213, .null] [] s P := by
  unfold w_235_0 at h
  refine g_ld rfl rfl rfl ?_
  refine g_c [.int 2, .ref 213] (xo_push (.int 2)) rfl rfl ?_
  refine g_put rfl rfl rfl ?_
  replace h := h _ rfl
  refine g_ld rfl rfl rfl ?_
  refine g_call [.ref 213] [] rfl rfl rfl (Tot.imp h (fun v3 s2 h => ?_))
  obtain ⟨rfl, h⟩ := h
  change Go _ _ _ _ _ _ [] _ _
  refine g_ld rfl rfl rfl ?_
  refine g_call [.ref 213] [] rfl rfl rfl (Tot.imp h (fun v5 s4 h => ?_))
  obtain ⟨rfl, h⟩ := h
  change Go _ _ _ _ _ _ [] _ _
  refine g_ld rfl rfl rfl ?_
  refine g_c [.int 8004, .ref 213] (xo_push (.int 8004)) rfl rfl ?_
  refine g_put rfl rfl rfl ?_
  replace h := h _ rfl
  refine g_ld rfl rfl rfl ?_
  refine g_c [.int 8210, .ref 213] (xo_push (.int 8210)) rfl rfl ?_
  refine g_put rfl rfl rfl ?_
  replace h := h _ rfl
  exact g_ret0 rfl h
theorem t_235 {d : Nat}  {s : yS} {P : Option Value → yS → Prop} (h : w_235_0 (Tot d)  s P) : Tot (d + 1) 235 [.ref 213] s P := tot_of (E := xE_235) (ml := 1) (ret := none) rfl rfl rfl (k_235_0 h)
/-! implementing -/
def w_236_85 (T : Nat → List Value → yS → (Option Value → yS → Prop) → Prop)  (a1 : Int32) (a2 : Int32) (a3 : Int32) (t0 : Int32) (s : yS) (P : Option Value → yS → Prop) : Prop :=
  P (some (.int t0)) s
set_option maxRecDepth 20000 in
theorem k_236_85 {d : Nat}  {a1 : Int32} {a2 : Int32} {a3 : Int32} {t0 : Int32} {s : yS} {P : Option Value → yS → Prop}  (h : w_236_85 (Tot d)  a1 a2 a3 t0 s P) : Go d 4 (some .int) xE_236 (xE_236.drop 85) [.ref 213, .int a1, .int a2, .int a3, .null] [.int t0] s P := by
  unfold w_236_85 at h
  exact g_retI rfl h
def w_236_58 (T : Nat → List Value → yS → (Option Value → yS → Prop) → Prop)  (a1 : Int32) (a2 : Int32) (s : yS) (P : Option Value → yS → Prop) : Prop :=
  P (some (.int (-2))) s
set_option maxRecDepth 20000 in
theorem k_236_58 {d : Nat}  {a1 : Int32} {a2 : Int32} {s : yS} {P : Option Value → yS → Prop}  (h : w_236_58 (Tot d)  a1 a2 s P) : Go d 4 (some .int) xE_236 (xE_236.drop 58) [.ref 213, .int a1, .int a2, .null, .null] [] s P := by
  unfold w_236_58 at h
  refine g_c [.int (-2)] (xo_push (.int (-2))) rfl rfl ?_
  exact g_retI rfl h
def w_236_45 (T : Nat → List Value → yS → (Option Value → yS → Prop) → Prop)  (a1 : Int32) (a2 : Int32) (s : yS) (P : Option Value → yS → Prop) : Prop :=
  P (some (.int (-1))) s
set_option maxRecDepth 20000 in
theorem k_236_45 {d : Nat}  {a1 : Int32} {a2 : Int32} {s : yS} {P : Option Value → yS → Prop}  (h : w_236_45 (Tot d)  a1 a2 s P) : Go d 4 (some .int) xE_236 (xE_236.drop 45) [.ref 213, .int a1, .int a2, .null, .null] [] s P := by
  unfold w_236_45 at h
  refine g_c [.int (-1)] (xo_push (.int (-1))) rfl rfl ?_
  exact g_retI rfl h
def w_236_36 (T : Nat → List Value → yS → (Option Value → yS → Prop) → Prop)  (a1 : Int32) (a2 : Int32) (s : yS) (P : Option Value → yS → Prop) : Prop :=
  ((s.1 90).toInt = 0 → w_236_45 T  a1 a2  s P) ∧ (¬ ((s.1 90).toInt = 0) → 0 ≤ (s.1 8).toInt ∧ (∀ x1 : Int32, x1.toInt = (s.1 8).toInt % 16 → (¬ (x1.toInt = 1) → (0 < (s.1 8).toInt → w_236_58 T  a1 a2  s P) ∧ (¬ (0 < (s.1 8).toInt) → T 234 [.ref 213, .int a1] s (fun v3 s2 => ∃ x4, v3 = some (.int x4) ∧ ((x4.toInt = 0 → w_236_58 T  a1 a2  s2 P) ∧ (¬ (x4.toInt = 0) → T 234 [.ref 213, .int a2] s2 (fun v6 s5 => ∃ x7, v6 = some (.int x7) ∧ ((¬ (x7.toInt = 0) → (0 ≤ a1.toInt ∧ a1.toInt < 12006) ∧ ((0 ≤ a1.toInt ∧ a1.toInt < 12006) ∧ ((0 ≤ a2.toInt ∧ a2.toInt < 12006) ∧ ((0 ≤ a2.toInt ∧ a2.toInt < 12006) ∧ (T 195 [.ref 213, .int (s5.2.1 231 a1.toInt.toNat), .int (s5.2.1 232 a1.toInt.toNat), .int (s5.2.1 231 a2.toInt.toNat), .int (s5.2.1 232 a2.toInt.toNat)] s5 (fun v9 s8 => ∃ x10, v9 = some (.int x10) ∧ ((¬ (x10.toInt = 2) → w_236_85 T  a1 a2 x10 x10 s8 P) ∧ (x10.toInt = 2 → w_236_85 T  a1 a2 x10 (-2) s8 P)))))))) ∧ (x7.toInt = 0 → w_236_58 T  a1 a2  s5 P)))))))) ∧ (x1.toInt = 1 → w_236_45 T  a1 a2  s P)))
set_option maxRecDepth 20000 in
theorem k_236_36 {d : Nat}  {a1 : Int32} {a2 : Int32} {s : yS} {P : Option Value → yS → Prop}  (h : w_236_36 (Tot d)  a1 a2 s P) : Go d 4 (some .int) xE_236 (xE_236.drop 36) [.ref 213, .int a1, .int a2, .null, .null] [] s P := by
  unfold w_236_36 at h
  refine g_ld rfl rfl rfl ?_
  refine g_get rfl rfl ?_
  change Go _ _ _ _ _ _ [.int (s.1 90)] _ _
  refine g_brP rfl rfl ⟨fun hc => ?_, fun hc => ?_⟩
  · replace h := h.1 ((i_eq (x := s.1 90) (y := 0) rfl (show (0 : Int32).toInt = 0 by decide)).mp hc)
    exact k_236_45  h
  · replace h := h.2 (fun q => hc ((i_eq (x := s.1 90) (y := 0) rfl (show (0 : Int32).toInt = 0 by decide)).mpr q))
    refine g_ld rfl rfl rfl ?_
    refine g_get rfl rfl ?_
    change Go _ _ _ _ _ _ [.int (s.1 8)] _ _
    refine g_c [.int 15, .int (s.1 8)] (xo_push (.int 15)) rfl rfl ?_
    have ex1 := i_and15 (x := s.1 8) rfl h.1
    have cx1 := ck_and (x := s.1 8) (y := 15) rfl h.1
    replace h := h.2 _ ex1
    refine g_ca [.int ((s.1 8) &&& 15)] xo_iand rfl rfl (fun _ => cx1) ?_
    refine g_c [.int 1, .int ((s.1 8) &&& 15)] (xo_push (.int 1)) rfl rfl ?_
    refine g_brN rfl rfl ⟨fun hc => ?_, fun hc => ?_⟩
    · replace h := h.1 (fun q => hc ((i_eq (x := ((s.1 8) &&& 15)) (y := 1) rfl (show (1 : Int32).toInt = 1 by decide)).mpr q))
      refine g_ld rfl rfl rfl ?_
      refine g_get rfl rfl ?_
      change Go _ _ _ _ _ _ [.int (s.1 8)] _ _
      refine g_brP rfl rfl ⟨fun hc => ?_, fun hc => ?_⟩
      · replace h := h.1 ((i_lt (x := 0) (y := s.1 8) (show (0 : Int32).toInt = 0 by decide) rfl).mp hc)
        exact k_236_58  h
      · replace h := h.2 (fun q => hc ((i_lt (x := 0) (y := s.1 8) (show (0 : Int32).toInt = 0 by decide) rfl).mpr q))
        refine g_ld rfl rfl rfl ?_
        refine g_ld rfl rfl rfl ?_
        refine g_call [.ref 213, .int a1] [] rfl rfl rfl (Tot.imp h (fun v3 s2 h => ?_))
        obtain ⟨x4, rfl, h⟩ := h
        change Go _ _ _ _ _ _ [.int x4] _ _
        refine g_brP rfl rfl ⟨fun hc => ?_, fun hc => ?_⟩
        · replace h := h.1 ((i_eq (x := x4) (y := 0) rfl (show (0 : Int32).toInt = 0 by decide)).mp hc)
          exact k_236_58  h
        · replace h := h.2 (fun q => hc ((i_eq (x := x4) (y := 0) rfl (show (0 : Int32).toInt = 0 by decide)).mpr q))
          refine g_ld rfl rfl rfl ?_
          refine g_ld rfl rfl rfl ?_
          refine g_call [.ref 213, .int a2] [] rfl rfl rfl (Tot.imp h (fun v6 s5 h => ?_))
          obtain ⟨x7, rfl, h⟩ := h
          change Go _ _ _ _ _ _ [.int x7] _ _
          refine g_brN rfl rfl ⟨fun hc => ?_, fun hc => ?_⟩
          · replace h := h.1 (fun q => hc ((i_eq (x := x7) (y := 0) rfl (show (0 : Int32).toInt = 0 by decide)).mpr q))
            refine g_ld rfl rfl rfl ?_
            refine g_ld rfl rfl rfl ?_
            refine g_get rfl rfl ?_
            change Go _ _ _ _ _ _ [.ref 231, .ref 213] _ _
            refine g_ld rfl rfl rfl ?_
            refine g_ial rfl rfl (i_in (x := a1) rfl h.1) ?_
            change Go _ _ _ _ _ _ [.int (s5.2.1 231 a1.toInt.toNat), .ref 213] _ _
            replace h := h.2
            refine g_ld rfl rfl rfl ?_
            refine g_get rfl rfl ?_
            change Go _ _ _ _ _ _ [.ref 232, .int (s5.2.1 231 a1.toInt.toNat), .ref 213] _ _
            refine g_ld rfl rfl rfl ?_
            refine g_ial rfl rfl (i_in (x := a1) rfl h.1) ?_
            change Go _ _ _ _ _ _ [.int (s5.2.1 232 a1.toInt.toNat), .int (s5.2.1 231 a1.toInt.toNat), .ref 213] _ _
            replace h := h.2
            refine g_ld rfl rfl rfl ?_
            refine g_get rfl rfl ?_
            change Go _ _ _ _ _ _ [.ref 231, .int (s5.2.1 232 a1.toInt.toNat), .int (s5.2.1 231 a1.toInt.toNat), .ref 213] _ _
            refine g_ld rfl rfl rfl ?_
            refine g_ial rfl rfl (i_in (x := a2) rfl h.1) ?_
            change Go _ _ _ _ _ _ [.int (s5.2.1 231 a2.toInt.toNat), .int (s5.2.1 232 a1.toInt.toNat), .int (s5.2.1 231 a1.toInt.toNat), .ref 213] _ _
            replace h := h.2
            refine g_ld rfl rfl rfl ?_
            refine g_get rfl rfl ?_
            change Go _ _ _ _ _ _ [.ref 232, .int (s5.2.1 231 a2.toInt.toNat), .int (s5.2.1 232 a1.toInt.toNat), .int (s5.2.1 231 a1.toInt.toNat), .ref 213] _ _
            refine g_ld rfl rfl rfl ?_
            refine g_ial rfl rfl (i_in (x := a2) rfl h.1) ?_
            change Go _ _ _ _ _ _ [.int (s5.2.1 232 a2.toInt.toNat), .int (s5.2.1 231 a2.toInt.toNat), .int (s5.2.1 232 a1.toInt.toNat), .int (s5.2.1 231 a1.toInt.toNat), .ref 213] _ _
            replace h := h.2
            refine g_call [.ref 213, .int (s5.2.1 231 a1.toInt.toNat), .int (s5.2.1 232 a1.toInt.toNat), .int (s5.2.1 231 a2.toInt.toNat), .int (s5.2.1 232 a2.toInt.toNat)] [] rfl rfl rfl (Tot.imp h (fun v9 s8 h => ?_))
            obtain ⟨x10, rfl, h⟩ := h
            change Go _ _ _ _ _ _ [.int x10] _ _
            refine g_st [.ref 213, .int a1, .int a2, .int x10, .null] rfl rfl rfl ?_
            refine g_ld rfl rfl rfl ?_
            refine g_c [.int 2, .int x10] (xo_push (.int 2)) rfl rfl ?_
            refine g_brN rfl rfl ⟨fun hc => ?_, fun hc => ?_⟩
            · replace h := h.1 (fun q => hc ((i_eq (x := x10) (y := 2) rfl (show (2 : Int32).toInt = 2 by decide)).mpr q))
              refine g_ld rfl rfl rfl ?_
              exact k_236_85  h
            · replace h := h.2 ((i_eq (x := x10) (y := 2) rfl (show (2 : Int32).toInt = 2 by decide)).mp hc)
              refine g_c [.int (-2)] (xo_push (.int (-2))) rfl rfl ?_
              refine g_go rfl ?_
              exact k_236_85  h
          · replace h := h.2 ((i_eq (x := x7) (y := 0) rfl (show (0 : Int32).toInt = 0 by decide)).mp hc)
            exact k_236_58  h
    · replace h := h.2 ((i_eq (x := ((s.1 8) &&& 15)) (y := 1) rfl (show (1 : Int32).toInt = 1 by decide)).mp hc)
      exact k_236_45  h
def w_236_21 (T : Nat → List Value → yS → (Option Value → yS → Prop) → Prop)  (a1 : Int32) (t0 : Int32) (s : yS) (P : Option Value → yS → Prop) : Prop :=
  (¬ ((s.1 8).toInt = 0) → w_236_36 T  a1 t0  s P) ∧ ((s.1 8).toInt = 0 → (0 ≤ (s.1 7).toInt ∧ (s.1 7).toInt < 12006) ∧ (((s.2.1 215 (s.1 7).toInt.toNat).toInt = 0 → w_236_36 T  a1 t0  s P) ∧ (¬ ((s.2.1 215 (s.1 7).toInt.toNat).toInt = 0) → T 163 [.ref 213, .int 1, .int (s.1 7)] s (fun v2 s1 => v2 = none ∧ (w_236_36 T  a1 t0  s1 P)))))
set_option maxRecDepth 20000 in
theorem k_236_21 {d : Nat}  {a1 : Int32} {t0 : Int32} {s : yS} {P : Option Value → yS → Prop}  (h : w_236_21 (Tot d)  a1 t0 s P) : Go d 4 (some .int) xE_236 (xE_236.drop 21) [.ref 213, .int a1, .null, .null, .null] [.int t0] s P := by
  unfold w_236_21 at h
  refine g_st [.ref 213, .int a1, .int t0, .null, .null] rfl rfl rfl ?_
  refine g_ld rfl rfl rfl ?_
  refine g_get rfl rfl ?_
  change Go _ _ _ _ _ _ [.int (s.1 8)] _ _
  refine g_brN rfl rfl ⟨fun hc => ?_, fun hc => ?_⟩
  · replace h := h.1 (fun q => hc ((i_eq (x := s.1 8) (y := 0) rfl (show (0 : Int32).toInt = 0 by decide)).mpr q))
    exact k_236_36  h
  · replace h := h.2 ((i_eq (x := s.1 8) (y := 0) rfl (show (0 : Int32).toInt = 0 by decide)).mp hc)
    refine g_ld rfl rfl rfl ?_
    refine g_get rfl rfl ?_
    change Go _ _ _ _ _ _ [.ref 215] _ _
    refine g_ld rfl rfl rfl ?_
    refine g_get rfl rfl ?_
    change Go _ _ _ _ _ _ [.int (s.1 7), .ref 215] _ _
    refine g_ial rfl rfl (i_in (x := s.1 7) rfl h.1) ?_
    change Go _ _ _ _ _ _ [.int (s.2.1 215 (s.1 7).toInt.toNat)] _ _
    replace h := h.2
    refine g_brP rfl rfl ⟨fun hc => ?_, fun hc => ?_⟩
    · replace h := h.1 ((i_eq (x := s.2.1 215 (s.1 7).toInt.toNat) (y := 0) rfl (show (0 : Int32).toInt = 0 by decide)).mp hc)
      exact k_236_36  h
    · replace h := h.2 (fun q => hc ((i_eq (x := s.2.1 215 (s.1 7).toInt.toNat) (y := 0) rfl (show (0 : Int32).toInt = 0 by decide)).mpr q))
      refine g_ld rfl rfl rfl ?_
      refine g_c [.int 1, .ref 213] (xo_push (.int 1)) rfl rfl ?_
      refine g_ld rfl rfl rfl ?_
      refine g_get rfl rfl ?_
      change Go _ _ _ _ _ _ [.int (s.1 7), .int 1, .ref 213] _ _
      refine g_call [.ref 213, .int 1, .int (s.1 7)] [] rfl rfl rfl (Tot.imp h (fun v2 s1 h => ?_))
      obtain ⟨rfl, h⟩ := h
      change Go _ _ _ _ _ _ [] _ _
      exact k_236_36  h
def w_236_14 (T : Nat → List Value → yS → (Option Value → yS → Prop) → Prop)  (a1 : Int32) (s : yS) (P : Option Value → yS → Prop) : Prop :=
  (¬ ((s.1 8).toInt = 0) → w_236_21 T  a1 (-1) s P) ∧ ((s.1 8).toInt = 0 → T 233 [.ref 213] s (fun v2 s1 => ∃ x3, v2 = some (.int x3) ∧ (w_236_21 T  a1 x3 s1 P)))
set_option maxRecDepth 20000 in
theorem k_236_14 {d : Nat}  {a1 : Int32} {s : yS} {P : Option Value → yS → Prop}  (h : w_236_14 (Tot d)  a1 s P) : Go d 4 (some .int) xE_236 (xE_236.drop 14) [.ref 213, .int a1, .null, .null, .null] [] s P := by
  unfold w_236_14 at h
  refine g_ld rfl rfl rfl ?_
  refine g_get rfl rfl ?_
  change Go _ _ _ _ _ _ [.int (s.1 8)] _ _
  refine g_brN rfl rfl ⟨fun hc => ?_, fun hc => ?_⟩
  · replace h := h.1 (fun q => hc ((i_eq (x := s.1 8) (y := 0) rfl (show (0 : Int32).toInt = 0 by decide)).mpr q))
    refine g_c [.int (-1)] (xo_push (.int (-1))) rfl rfl ?_
    exact k_236_21  h
  · replace h := h.2 ((i_eq (x := s.1 8) (y := 0) rfl (show (0 : Int32).toInt = 0 by decide)).mp hc)
    refine g_ld rfl rfl rfl ?_
    refine g_call [.ref 213] [] rfl rfl rfl (Tot.imp h (fun v2 s1 h => ?_))
    obtain ⟨x3, rfl, h⟩ := h
    change Go _ _ _ _ _ _ [.int x3] _ _
    refine g_go rfl ?_
    exact k_236_21  h
def w_236_0 (T : Nat → List Value → yS → (Option Value → yS → Prop) → Prop)   (s : yS) (P : Option Value → yS → Prop) : Prop :=
  ∀ s1, s1 = sf s 0 0 → T 235 [.ref 213] s1 (fun v3 s2 => v3 = none ∧ (T 233 [.ref 213] s2 (fun v5 s4 => ∃ x6, v5 = some (.int x6) ∧ ((¬ ((s4.1 8).toInt = 0) → w_236_14 T  x6  s4 P) ∧ ((s4.1 8).toInt = 0 → T 167 [.ref 213, .int 59] s4 (fun v8 s7 => v8 = none ∧ (w_236_14 T  x6  s7 P)))))))
set_option maxRecDepth 20000 in
theorem k_236_0 {d : Nat}   {s : yS} {P : Option Value → yS → Prop}  (h : w_236_0 (Tot d)   s P) : Go d 4 (some .int) xE_236 (xE_236.drop 0) [.ref 213, .null, .null, .null, .null] [] s P := by
  unfold w_236_0 at h
  refine g_ld rfl rfl rfl ?_
  refine g_c [.int 0, .ref 213] (xo_push (.int 0)) rfl rfl ?_
  refine g_put rfl rfl rfl ?_
  replace h := h _ rfl
  refine g_ld rfl rfl rfl ?_
  refine g_call [.ref 213] [] rfl rfl rfl (Tot.imp h (fun v3 s2 h => ?_))
  obtain ⟨rfl, h⟩ := h
  change Go _ _ _ _ _ _ [] _ _
  refine g_ld rfl rfl rfl ?_
  refine g_call [.ref 213] [] rfl rfl rfl (Tot.imp h (fun v5 s4 h => ?_))
  obtain ⟨x6, rfl, h⟩ := h
  change Go _ _ _ _ _ _ [.int x6] _ _
  refine g_st [.ref 213, .int x6, .null, .null, .null] rfl rfl rfl ?_
  refine g_ld rfl rfl rfl ?_
  refine g_get rfl rfl ?_
  change Go _ _ _ _ _ _ [.int (s4.1 8)] _ _
  refine g_brN rfl rfl ⟨fun hc => ?_, fun hc => ?_⟩
  · replace h := h.1 (fun q => hc ((i_eq (x := s4.1 8) (y := 0) rfl (show (0 : Int32).toInt = 0 by decide)).mpr q))
    exact k_236_14  h
  · replace h := h.2 ((i_eq (x := s4.1 8) (y := 0) rfl (show (0 : Int32).toInt = 0 by decide)).mp hc)
    refine g_ld rfl rfl rfl ?_
    refine g_c [.int 59, .ref 213] (xo_push (.int 59)) rfl rfl ?_
    refine g_call [.ref 213, .int 59] [] rfl rfl rfl (Tot.imp h (fun v8 s7 h => ?_))
    obtain ⟨rfl, h⟩ := h
    change Go _ _ _ _ _ _ [] _ _
    exact k_236_14  h
theorem t_236 {d : Nat}  {s : yS} {P : Option Value → yS → Prop} (h : w_236_0 (Tot d)  s P) : Tot (d + 1) 236 [.ref 213] s P := tot_of (E := xE_236) (ml := 4) (ret := some .int) rfl rfl rfl (k_236_0 h)
/-! spend -/
def w_237_46 (T : Nat → List Value → yS → (Option Value → yS → Prop) → Prop)  (a1 : Int32) (a2 : Int32) (a3 : Int32) (t0 : Int32) (s : yS) (P : Option Value → yS → Prop) : Prop :=
  P (some (.int t0)) s
set_option maxRecDepth 20000 in
theorem k_237_46 {d : Nat}  {a1 : Int32} {a2 : Int32} {a3 : Int32} {t0 : Int32} {s : yS} {P : Option Value → yS → Prop}  (h : w_237_46 (Tot d)  a1 a2 a3 t0 s P) : Go d 4 (some .int) xE_237 (xE_237.drop 46) [.ref 213, .int a1, .int a2, .int a3, .null, .null] [.int t0] s P := by
  unfold w_237_46 at h
  exact g_retI rfl h
def w_237_27 (T : Nat → List Value → yS → (Option Value → yS → Prop) → Prop)  (a1 : Int32) (a2 : Int32) (t0 : Int32) (s : yS) (P : Option Value → yS → Prop) : Prop :=
  (-2147483648 ≤ (s.1 95).toInt + t0.toInt ∧ (s.1 95).toInt + t0.toInt ≤ 2147483647) ∧ (∀ x1 : Int32, x1.toInt = (s.1 95).toInt + t0.toInt → ∀ s2, s2 = sf s 95 x1 → (-2147483648 ≤ (s2.1 94).toInt + t0.toInt ∧ (s2.1 94).toInt + t0.toInt ≤ 2147483647) ∧ (∀ x3 : Int32, x3.toInt = (s2.1 94).toInt + t0.toInt → ∀ s4, s4 = sf s2 94 x3 → (a1.toInt ≤ a2.toInt → w_237_46 T  a1 a2 t0 0 s4 P) ∧ (¬ (a1.toInt ≤ a2.toInt) → w_237_46 T  a1 a2 t0 2 s4 P)))
set_option maxRecDepth 20000 in
theorem k_237_27 {d : Nat}  {a1 : Int32} {a2 : Int32} {t0 : Int32} {s : yS} {P : Option Value → yS → Prop}  (h : w_237_27 (Tot d)  a1 a2 t0 s P) : Go d 4 (some .int) xE_237 (xE_237.drop 27) [.ref 213, .int a1, .int a2, .null, .null, .null] [.int t0] s P := by
  unfold w_237_27 at h
  refine g_st [.ref 213, .int a1, .int a2, .int t0, .null, .null] rfl rfl rfl ?_
  refine g_ld rfl rfl rfl ?_
  refine g_c [.ref 213, .ref 213] xo_dup rfl rfl ?_
  refine g_get rfl rfl ?_
  change Go _ _ _ _ _ _ [.int (s.1 95), .ref 213] _ _
  refine g_ld rfl rfl rfl ?_
  have ex1 := i_add (x := s.1 95) (y := t0) rfl rfl h.1
  have cx1 := ck_add (x := s.1 95) (y := t0) rfl rfl h.1
  replace h := h.2 _ ex1
  refine g_ca [.int ((s.1 95) + t0), .ref 213] xo_iadd rfl rfl (fun _ => cx1) ?_
  refine g_put rfl rfl rfl ?_
  replace h := h _ rfl
  refine g_ld rfl rfl rfl ?_
  refine g_c [.ref 213, .ref 213] xo_dup rfl rfl ?_
  refine g_get rfl rfl ?_
  change Go _ _ _ _ _ _ [.int ((sf s 95 ((s.1 95) + t0)).1 94), .ref 213] _ _
  refine g_ld rfl rfl rfl ?_
  have ex3 := i_add (x := (sf s 95 ((s.1 95) + t0)).1 94) (y := t0) rfl rfl h.1
  have cx3 := ck_add (x := (sf s 95 ((s.1 95) + t0)).1 94) (y := t0) rfl rfl h.1
  replace h := h.2 _ ex3
  refine g_ca [.int (((sf s 95 ((s.1 95) + t0)).1 94) + t0), .ref 213] xo_iadd rfl rfl (fun _ => cx3) ?_
  refine g_put rfl rfl rfl ?_
  replace h := h _ rfl
  refine g_ld rfl rfl rfl ?_
  refine g_ld rfl rfl rfl ?_
  refine g_brP rfl rfl ⟨fun hc => ?_, fun hc => ?_⟩
  · replace h := h.1 ((i_le (x := a1) (y := a2) rfl rfl).mp hc)
    refine g_c [.int 0] (xo_push (.int 0)) rfl rfl ?_
    exact k_237_46  h
  · replace h := h.2 (fun q => hc ((i_le (x := a1) (y := a2) rfl rfl).mpr q))
    refine g_c [.int 2] (xo_push (.int 2)) rfl rfl ?_
    refine g_go rfl ?_
    exact k_237_46  h
def w_237_20 (T : Nat → List Value → yS → (Option Value → yS → Prop) → Prop)  (a1 : Int32) (t0 : Int32) (s : yS) (P : Option Value → yS → Prop) : Prop :=
  (t0.toInt ≤ a1.toInt → w_237_27 T  a1 t0 t0 s P) ∧ (¬ (t0.toInt ≤ a1.toInt) → w_237_27 T  a1 t0 a1 s P)
set_option maxRecDepth 20000 in
theorem k_237_20 {d : Nat}  {a1 : Int32} {t0 : Int32} {s : yS} {P : Option Value → yS → Prop}  (h : w_237_20 (Tot d)  a1 t0 s P) : Go d 4 (some .int) xE_237 (xE_237.drop 20) [.ref 213, .int a1, .null, .null, .null, .null] [.int t0] s P := by
  unfold w_237_20 at h
  refine g_st [.ref 213, .int a1, .int t0, .null, .null, .null] rfl rfl rfl ?_
  refine g_ld rfl rfl rfl ?_
  refine g_ld rfl rfl rfl ?_
  refine g_brP rfl rfl ⟨fun hc => ?_, fun hc => ?_⟩
  · replace h := h.1 ((i_le (x := t0) (y := a1) rfl rfl).mp hc)
    refine g_ld rfl rfl rfl ?_
    exact k_237_27  h
  · replace h := h.2 (fun q => hc ((i_le (x := t0) (y := a1) rfl rfl).mpr q))
    refine g_ld rfl rfl rfl ?_
    refine g_go rfl ?_
    exact k_237_27  h
def w_237_0 (T : Nat → List Value → yS → (Option Value → yS → Prop) → Prop)  (a1 : Int32) (s : yS) (P : Option Value → yS → Prop) : Prop :=
  (-2147483648 ≤ (s.1 96).toInt - (s.1 95).toInt ∧ (s.1 96).toInt - (s.1 95).toInt ≤ 2147483647) ∧ (∀ x1 : Int32, x1.toInt = (s.1 96).toInt - (s.1 95).toInt → (-2147483648 ≤ 60000 - (s.1 94).toInt ∧ 60000 - (s.1 94).toInt ≤ 2147483647) ∧ (∀ x2 : Int32, x2.toInt = 60000 - (s.1 94).toInt → (x2.toInt ≤ x1.toInt → (-2147483648 ≤ 60000 - (s.1 94).toInt ∧ 60000 - (s.1 94).toInt ≤ 2147483647) ∧ (∀ x3 : Int32, x3.toInt = 60000 - (s.1 94).toInt → w_237_20 T  a1 x3 s P)) ∧ (¬ (x2.toInt ≤ x1.toInt) → (-2147483648 ≤ (s.1 96).toInt - (s.1 95).toInt ∧ (s.1 96).toInt - (s.1 95).toInt ≤ 2147483647) ∧ (∀ x4 : Int32, x4.toInt = (s.1 96).toInt - (s.1 95).toInt → w_237_20 T  a1 x4 s P))))
set_option maxRecDepth 20000 in
theorem k_237_0 {d : Nat}  {a1 : Int32} {s : yS} {P : Option Value → yS → Prop}  (h : w_237_0 (Tot d)  a1 s P) : Go d 4 (some .int) xE_237 (xE_237.drop 0) [.ref 213, .int a1, .null, .null, .null, .null] [] s P := by
  unfold w_237_0 at h
  refine g_ld rfl rfl rfl ?_
  refine g_get rfl rfl ?_
  change Go _ _ _ _ _ _ [.int (s.1 96)] _ _
  refine g_ld rfl rfl rfl ?_
  refine g_get rfl rfl ?_
  change Go _ _ _ _ _ _ [.int (s.1 95), .int (s.1 96)] _ _
  have ex1 := i_sub (x := s.1 96) (y := s.1 95) rfl rfl h.1
  have cx1 := ck_sub (x := s.1 96) (y := s.1 95) rfl rfl h.1
  replace h := h.2 _ ex1
  refine g_ca [.int ((s.1 96) - (s.1 95))] xo_isub rfl rfl (fun _ => cx1) ?_
  refine g_c [.int 60000, .int ((s.1 96) - (s.1 95))] (xo_push (.int 60000)) rfl rfl ?_
  refine g_ld rfl rfl rfl ?_
  refine g_get rfl rfl ?_
  change Go _ _ _ _ _ _ [.int (s.1 94), .int 60000, .int ((s.1 96) - (s.1 95))] _ _
  have ex2 := i_sub (x := 60000) (y := s.1 94) (show (60000 : Int32).toInt = 60000 by decide) rfl h.1
  have cx2 := ck_sub (x := 60000) (y := s.1 94) (show (60000 : Int32).toInt = 60000 by decide) rfl h.1
  replace h := h.2 _ ex2
  refine g_ca [.int (60000 - (s.1 94)), .int ((s.1 96) - (s.1 95))] xo_isub rfl rfl (fun _ => cx2) ?_
  refine g_brP rfl rfl ⟨fun hc => ?_, fun hc => ?_⟩
  · replace h := h.1 ((i_le (x := (60000 - (s.1 94))) (y := ((s.1 96) - (s.1 95))) rfl rfl).mp hc)
    refine g_c [.int 60000] (xo_push (.int 60000)) rfl rfl ?_
    refine g_ld rfl rfl rfl ?_
    refine g_get rfl rfl ?_
    change Go _ _ _ _ _ _ [.int (s.1 94), .int 60000] _ _
    have ex3 := i_sub (x := 60000) (y := s.1 94) (show (60000 : Int32).toInt = 60000 by decide) rfl h.1
    have cx3 := ck_sub (x := 60000) (y := s.1 94) (show (60000 : Int32).toInt = 60000 by decide) rfl h.1
    replace h := h.2 _ ex3
    refine g_ca [.int (60000 - (s.1 94))] xo_isub rfl rfl (fun _ => cx3) ?_
    exact k_237_20  h
  · replace h := h.2 (fun q => hc ((i_le (x := (60000 - (s.1 94))) (y := ((s.1 96) - (s.1 95))) rfl rfl).mpr q))
    refine g_ld rfl rfl rfl ?_
    refine g_get rfl rfl ?_
    change Go _ _ _ _ _ _ [.int (s.1 96)] _ _
    refine g_ld rfl rfl rfl ?_
    refine g_get rfl rfl ?_
    change Go _ _ _ _ _ _ [.int (s.1 95), .int (s.1 96)] _ _
    have ex4 := i_sub (x := s.1 96) (y := s.1 95) rfl rfl h.1
    have cx4 := ck_sub (x := s.1 96) (y := s.1 95) rfl rfl h.1
    replace h := h.2 _ ex4
    refine g_ca [.int ((s.1 96) - (s.1 95))] xo_isub rfl rfl (fun _ => cx4) ?_
    refine g_go rfl ?_
    exact k_237_20  h
theorem t_237 {d : Nat} {a1 : Int32} {s : yS} {P : Option Value → yS → Prop} (h : w_237_0 (Tot d) a1 s P) : Tot (d + 1) 237 [.ref 213, .int a1] s P := tot_of (E := xE_237) (ml := 4) (ret := some .int) rfl rfl rfl (k_237_0 h)
/-! hasParams -/
def w_238_24 (T : Nat → List Value → yS → (Option Value → yS → Prop) → Prop)  (a1 : Int32) (a2 : Int32) (a3 : Int32) (a4 : Int32) (s : yS) (P : Option Value → yS → Prop) : Prop :=
  (a3.toInt = 0 ∨ a3.toInt = 1) ∧ P (some (.int a3)) s
set_option maxRecDepth 20000 in
theorem k_238_24 {d : Nat}  {a1 : Int32} {a2 : Int32} {a3 : Int32} {a4 : Int32} {s : yS} {P : Option Value → yS → Prop}  (h : w_238_24 (Tot d)  a1 a2 a3 a4 s P) : Go d 5 (some .boolean) xE_238 (xE_238.drop 24) [.ref 213, .int a1, .int a2, .int a3, .int a4, .null, .null, .null] [] s P := by
  unfold w_238_24 at h
  refine g_ld rfl rfl rfl ?_
  exact g_retZ rfl (i_z (x := a3) rfl h.1) h.2
def w_238_21 (T : Nat → List Value → yS → (Option Value → yS → Prop) → Prop) (R4 : Int32 → Int32 → Int32 → Int32 → yS → Prop) (a1 : Int32) (a2 : Int32) (a3 : Int32) (a4 : Int32) (t0 : Int32) (s : yS) (P : Option Value → yS → Prop) : Prop :=
  (-2147483648 ≤ a4.toInt + 1 ∧ a4.toInt + 1 ≤ 2147483647) ∧ (∀ x1 : Int32, x1.toInt = a4.toInt + 1 → R4 a1 a2 t0 x1  s)
set_option maxRecDepth 20000 in
theorem k_238_21 {d : Nat} {R4 : Int32 → Int32 → Int32 → Int32 → yS → Prop} {a1 : Int32} {a2 : Int32} {a3 : Int32} {a4 : Int32} {t0 : Int32} {s : yS} {P : Option Value → yS → Prop} (r4 : ∀ a1 a2 a3 a4 s, R4 a1 a2 a3 a4 s → Go d 5 (some .boolean) xE_238 (xE_238.drop 4) [.ref 213, .int a1, .int a2, .int a3, .int a4, .null, .null, .null] [] s P) (h : w_238_21 (Tot d) R4 a1 a2 a3 a4 t0 s P) : Go d 5 (some .boolean) xE_238 (xE_238.drop 21) [.ref 213, .int a1, .int a2, .int a3, .int a4, .null, .null, .null] [.int t0] s P := by
  unfold w_238_21 at h
  refine g_st [.ref 213, .int a1, .int a2, .int t0, .int a4, .null, .null, .null] rfl rfl rfl ?_
  have ex1 := i_add (x := a4) (y := 1) rfl (show (1 : Int32).toInt = 1 by decide) h.1
  have cx1 := ck_inc (x := a4) (n := 1) rfl h.1
  replace h := h.2 _ ex1
  refine g_inc [.ref 213, .int a1, .int a2, .int t0, .int (a4 + 1), .null, .null, .null] rfl rfl rfl rfl cx1 ?_
  refine g_go rfl ?_
  exact r4 a1 a2 t0 (a4 + 1)  s h
def w_238_4 (T : Nat → List Value → yS → (Option Value → yS → Prop) → Prop) (R4 : Int32 → Int32 → Int32 → Int32 → yS → Prop) (a1 : Int32) (a2 : Int32) (a3 : Int32) (a4 : Int32) (s : yS) (P : Option Value → yS → Prop) : Prop :=
  (-2147483648 ≤ a1.toInt + a2.toInt ∧ a1.toInt + a2.toInt ≤ 2147483647) ∧ (∀ x1 : Int32, x1.toInt = a1.toInt + a2.toInt → (x1.toInt ≤ a4.toInt → w_238_24 T  a1 a2 a3 a4  s P) ∧ (¬ (x1.toInt ≤ a4.toInt) → (¬ (a3.toInt = 0) → w_238_24 T  a1 a2 a3 a4  s P) ∧ (a3.toInt = 0 → (0 ≤ a4.toInt ∧ a4.toInt < 200000) ∧ (T 185 [.int (s.2.1 264 a4.toInt.toNat)] s (fun v3 s2 => ∃ x4, v3 = some (.int x4) ∧ ((x4.toInt < 1000 → w_238_21 T R4 a1 a2 a3 a4 0 s2 P) ∧ (¬ (x4.toInt < 1000) → w_238_21 T R4 a1 a2 a3 a4 1 s2 P)))))))
set_option maxRecDepth 20000 in
theorem k_238_4 {d : Nat} {R4 : Int32 → Int32 → Int32 → Int32 → yS → Prop} {a1 : Int32} {a2 : Int32} {a3 : Int32} {a4 : Int32} {s : yS} {P : Option Value → yS → Prop} (r4 : ∀ a1 a2 a3 a4 s, R4 a1 a2 a3 a4 s → Go d 5 (some .boolean) xE_238 (xE_238.drop 4) [.ref 213, .int a1, .int a2, .int a3, .int a4, .null, .null, .null] [] s P) (h : w_238_4 (Tot d) R4 a1 a2 a3 a4 s P) : Go d 5 (some .boolean) xE_238 (xE_238.drop 4) [.ref 213, .int a1, .int a2, .int a3, .int a4, .null, .null, .null] [] s P := by
  unfold w_238_4 at h
  refine g_ld rfl rfl rfl ?_
  refine g_ld rfl rfl rfl ?_
  refine g_ld rfl rfl rfl ?_
  have ex1 := i_add (x := a1) (y := a2) rfl rfl h.1
  have cx1 := ck_add (x := a1) (y := a2) rfl rfl h.1
  replace h := h.2 _ ex1
  refine g_ca [.int (a1 + a2), .int a4] xo_iadd rfl rfl (fun _ => cx1) ?_
  refine g_brP rfl rfl ⟨fun hc => ?_, fun hc => ?_⟩
  · replace h := h.1 ((i_le (x := (a1 + a2)) (y := a4) rfl rfl).mp hc)
    exact k_238_24  h
  · replace h := h.2 (fun q => hc ((i_le (x := (a1 + a2)) (y := a4) rfl rfl).mpr q))
    refine g_ld rfl rfl rfl ?_
    refine g_brN rfl rfl ⟨fun hc => ?_, fun hc => ?_⟩
    · replace h := h.1 (fun q => hc ((i_eq (x := a3) (y := 0) rfl (show (0 : Int32).toInt = 0 by decide)).mpr q))
      exact k_238_24  h
    · replace h := h.2 ((i_eq (x := a3) (y := 0) rfl (show (0 : Int32).toInt = 0 by decide)).mp hc)
      refine g_ld rfl rfl rfl ?_
      refine g_get rfl rfl ?_
      change Go _ _ _ _ _ _ [.ref 264] _ _
      refine g_ld rfl rfl rfl ?_
      refine g_ial rfl rfl (i_in (x := a4) rfl h.1) ?_
      change Go _ _ _ _ _ _ [.int (s.2.1 264 a4.toInt.toNat)] _ _
      replace h := h.2
      refine g_call [.int (s.2.1 264 a4.toInt.toNat)] [] rfl rfl rfl (Tot.imp h (fun v3 s2 h => ?_))
      obtain ⟨x4, rfl, h⟩ := h
      change Go _ _ _ _ _ _ [.int x4] _ _
      refine g_c [.int 1000, .int x4] (xo_push (.int 1000)) rfl rfl ?_
      refine g_brP rfl rfl ⟨fun hc => ?_, fun hc => ?_⟩
      · replace h := h.1 ((i_lt (x := x4) (y := 1000) rfl (show (1000 : Int32).toInt = 1000 by decide)).mp hc)
        refine g_c [.int 0] (xo_push (.int 0)) rfl rfl ?_
        exact k_238_21 r4 h
      · replace h := h.2 (fun q => hc ((i_lt (x := x4) (y := 1000) rfl (show (1000 : Int32).toInt = 1000 by decide)).mpr q))
        refine g_c [.int 1] (xo_push (.int 1)) rfl rfl ?_
        refine g_go rfl ?_
        exact k_238_21 r4 h
def wl_238_4 (T : Nat → List Value → yS → (Option Value → yS → Prop) → Prop)  (a1 : Int32) (a2 : Int32) (a3 : Int32) (a4 : Int32) (s : yS) (P : Option Value → yS → Prop) : Prop :=
  ∃ (I : Int32 → Int32 → Int32 → Int32 → yS → Prop) (μ : Int32 → Int32 → Int32 → Int32 → yS → Nat), I a1 a2 a3 a4 s ∧ ∀ (a1 : Int32) (a2 : Int32) (a3 : Int32) (a4 : Int32) (s : yS), I a1 a2 a3 a4 s → w_238_4 T (fun a1' a2' a3' a4' s' => I a1' a2' a3' a4' s' ∧ μ a1' a2' a3' a4' s' < μ a1 a2 a3 a4 s) a1 a2 a3 a4 s P
theorem kl_238_4 {d : Nat}  {a1 : Int32} {a2 : Int32} {a3 : Int32} {a4 : Int32} {s : yS} {P : Option Value → yS → Prop}  (h : wl_238_4 (Tot d)  a1 a2 a3 a4 s P) : Go d 5 (some .boolean) xE_238 (xE_238.drop 4) [.ref 213, .int a1, .int a2, .int a3, .int a4, .null, .null, .null] [] s P := by
  obtain ⟨I, μ, h0, h1⟩ := h
  have key : ∀ (n : Nat) (a1 : Int32) (a2 : Int32) (a3 : Int32) (a4 : Int32) (s : yS), μ a1 a2 a3 a4 s = n → I a1 a2 a3 a4 s → Go d 5 (some .boolean) xE_238 (xE_238.drop 4) [.ref 213, .int a1, .int a2, .int a3, .int a4, .null, .null, .null] [] s P := by
    intro n
    induction n using Nat.strongRecOn with
    | ind n ih =>
      intro a1 a2 a3 a4 s e hI
      exact k_238_4 (fun a1' a2' a3' a4' s' q => ih _ (by rw [← e]; exact q.2) _ _ _ _ _ rfl q.1) (h1 a1 a2 a3 a4 s hI)
  exact key _ a1 a2 a3 a4 s rfl h0
def w_238_0 (T : Nat → List Value → yS → (Option Value → yS → Prop) → Prop)  (a1 : Int32) (a2 : Int32) (s : yS) (P : Option Value → yS → Prop) : Prop :=
  wl_238_4 T  a1 a2 0 a1  s P
set_option maxRecDepth 20000 in
theorem k_238_0 {d : Nat}  {a1 : Int32} {a2 : Int32} {s : yS} {P : Option Value → yS → Prop}  (h : w_238_0 (Tot d)  a1 a2 s P) : Go d 5 (some .boolean) xE_238 (xE_238.drop 0) [.ref 213, .int a1, .int a2, .null, .null, .null, .null, .null] [] s P := by
  unfold w_238_0 at h
  refine g_c [.int 0] (xo_push (.int 0)) rfl rfl ?_
  refine g_st [.ref 213, .int a1, .int a2, .int 0, .null, .null, .null, .null] rfl rfl rfl ?_
  refine g_ld rfl rfl rfl ?_
  refine g_st [.ref 213, .int a1, .int a2, .int 0, .int a1, .null, .null, .null] rfl rfl rfl ?_
  exact kl_238_4  h
theorem t_238 {d : Nat} {a1 : Int32} {a2 : Int32} {s : yS} {P : Option Value → yS → Prop} (h : w_238_0 (Tot d) a1 a2 s P) : Tot (d + 1) 238 [.ref 213, .int a1, .int a2] s P := tot_of (E := xE_238) (ml := 5) (ret := some .boolean) rfl rfl rfl (k_238_0 h)
/-! putForRun -/
def w_239_43 (T : Nat → List Value → yS → (Option Value → yS → Prop) → Prop) (R43 : Int32 → Int32 → Int32 → yS → Prop) (a1 : Int32) (a2 : Int32) (a3 : Int32) (s : yS) (P : Option Value → yS → Prop) : Prop :=
  ((s.1 72).toInt ≤ a3.toInt → ∀ s1, s1 = sf s 107 (s.1 97) → ∀ s2, s2 = sf s1 108 (s1.1 72) → (-2147483648 ≤ (s2.1 97).toInt + (s2.1 72).toInt ∧ (s2.1 97).toInt + (s2.1 72).toInt ≤ 2147483647) ∧ (∀ x3 : Int32, x3.toInt = (s2.1 97).toInt + (s2.1 72).toInt → ∀ s4, s4 = sf s2 97 x3 → P (some (.int 0)) s4)) ∧ (¬ ((s.1 72).toInt ≤ a3.toInt) → (-2147483648 ≤ (s.1 97).toInt + a3.toInt ∧ (s.1 97).toInt + a3.toInt ≤ 2147483647) ∧ (∀ x5 : Int32, x5.toInt = (s.1 97).toInt + a3.toInt → (-2147483648 ≤ (s.1 71).toInt + a3.toInt ∧ (s.1 71).toInt + a3.toInt ≤ 2147483647) ∧ (∀ x6 : Int32, x6.toInt = (s.1 71).toInt + a3.toInt → (0 ≤ x6.toInt ∧ x6.toInt < 200000) ∧ ((0 ≤ x5.toInt ∧ x5.toInt < 200000) ∧ (∀ s7, s7 = sa s 264 x5.toInt.toNat (s.2.1 264 x6.toInt.toNat) → (-2147483648 ≤ a3.toInt + 1 ∧ a3.toInt + 1 ≤ 2147483647) ∧ (∀ x8 : Int32, x8.toInt = a3.toInt + 1 → R43 a1 a2 x8  s7))))))
set_option maxRecDepth 20000 in
theorem k_239_43 {d : Nat} {R43 : Int32 → Int32 → Int32 → yS → Prop} {a1 : Int32} {a2 : Int32} {a3 : Int32} {s : yS} {P : Option Value → yS → Prop} (r43 : ∀ a1 a2 a3 s, R43 a1 a2 a3 s → Go d 4 (some .int) xE_239 (xE_239.drop 43) [.ref 213, .int a1, .int a2, .int a3, .null, .null, .null] [] s P) (h : w_239_43 (Tot d) R43 a1 a2 a3 s P) : Go d 4 (some .int) xE_239 (xE_239.drop 43) [.ref 213, .int a1, .int a2, .int a3, .null, .null, .null] [] s P := by
  unfold w_239_43 at h
  refine g_ld rfl rfl rfl ?_
  refine g_ld rfl rfl rfl ?_
  refine g_get rfl rfl ?_
  change Go _ _ _ _ _ _ [.int (s.1 72), .int a3] _ _
  refine g_brP rfl rfl ⟨fun hc => ?_, fun hc => ?_⟩
  · replace h := h.1 ((i_le (x := s.1 72) (y := a3) rfl rfl).mp hc)
    refine g_ld rfl rfl rfl ?_
    refine g_ld rfl rfl rfl ?_
    refine g_get rfl rfl ?_
    change Go _ _ _ _ _ _ [.int (s.1 97), .ref 213] _ _
    refine g_put rfl rfl rfl ?_
    replace h := h _ rfl
    refine g_ld rfl rfl rfl ?_
    refine g_ld rfl rfl rfl ?_
    refine g_get rfl rfl ?_
    change Go _ _ _ _ _ _ [.int ((sf s 107 (s.1 97)).1 72), .ref 213] _ _
    refine g_put rfl rfl rfl ?_
    replace h := h _ rfl
    refine g_ld rfl rfl rfl ?_
    refine g_c [.ref 213, .ref 213] xo_dup rfl rfl ?_
    refine g_get rfl rfl ?_
    change Go _ _ _ _ _ _ [.int ((sf (sf s 107 (s.1 97)) 108 ((sf s 107 (s.1 97)).1 72)).1 97), .ref 213] _ _
    refine g_ld rfl rfl rfl ?_
    refine g_get rfl rfl ?_
    change Go _ _ _ _ _ _ [.int ((sf (sf s 107 (s.1 97)) 108 ((sf s 107 (s.1 97)).1 72)).1 72), .int ((sf (sf s 107 (s.1 97)) 108 ((sf s 107 (s.1 97)).1 72)).1 97), .ref 213] _ _
    have ex3 := i_add (x := (sf (sf s 107 (s.1 97)) 108 ((sf s 107 (s.1 97)).1 72)).1 97) (y := (sf (sf s 107 (s.1 97)) 108 ((sf s 107 (s.1 97)).1 72)).1 72) rfl rfl h.1
    have cx3 := ck_add (x := (sf (sf s 107 (s.1 97)) 108 ((sf s 107 (s.1 97)).1 72)).1 97) (y := (sf (sf s 107 (s.1 97)) 108 ((sf s 107 (s.1 97)).1 72)).1 72) rfl rfl h.1
    replace h := h.2 _ ex3
    refine g_ca [.int (((sf (sf s 107 (s.1 97)) 108 ((sf s 107 (s.1 97)).1 72)).1 97) + ((sf (sf s 107 (s.1 97)) 108 ((sf s 107 (s.1 97)).1 72)).1 72)), .ref 213] xo_iadd rfl rfl (fun _ => cx3) ?_
    refine g_put rfl rfl rfl ?_
    replace h := h _ rfl
    refine g_c [.int 0] (xo_push (.int 0)) rfl rfl ?_
    exact g_retI rfl h
  · replace h := h.2 (fun q => hc ((i_le (x := s.1 72) (y := a3) rfl rfl).mpr q))
    refine g_ld rfl rfl rfl ?_
    refine g_get rfl rfl ?_
    change Go _ _ _ _ _ _ [.ref 264] _ _
    refine g_ld rfl rfl rfl ?_
    refine g_get rfl rfl ?_
    change Go _ _ _ _ _ _ [.int (s.1 97), .ref 264] _ _
    refine g_ld rfl rfl rfl ?_
    have ex5 := i_add (x := s.1 97) (y := a3) rfl rfl h.1
    have cx5 := ck_add (x := s.1 97) (y := a3) rfl rfl h.1
    replace h := h.2 _ ex5
    refine g_ca [.int ((s.1 97) + a3), .ref 264] xo_iadd rfl rfl (fun _ => cx5) ?_
    refine g_ld rfl rfl rfl ?_
    refine g_get rfl rfl ?_
    change Go _ _ _ _ _ _ [.ref 264, .int ((s.1 97) + a3), .ref 264] _ _
    refine g_ld rfl rfl rfl ?_
    refine g_get rfl rfl ?_
    change Go _ _ _ _ _ _ [.int (s.1 71), .ref 264, .int ((s.1 97) + a3), .ref 264] _ _
    refine g_ld rfl rfl rfl ?_
    have ex6 := i_add (x := s.1 71) (y := a3) rfl rfl h.1
    have cx6 := ck_add (x := s.1 71) (y := a3) rfl rfl h.1
    replace h := h.2 _ ex6
    refine g_ca [.int ((s.1 71) + a3), .ref 264, .int ((s.1 97) + a3), .ref 264] xo_iadd rfl rfl (fun _ => cx6) ?_
    refine g_ial rfl rfl (i_in (x := ((s.1 71) + a3)) rfl h.1) ?_
    change Go _ _ _ _ _ _ [.int (s.2.1 264 ((s.1 71) + a3).toInt.toNat), .int ((s.1 97) + a3), .ref 264] _ _
    replace h := h.2
    refine g_ias rfl rfl (i_in (x := ((s.1 97) + a3)) rfl h.1) ?_
    replace h := h.2
    replace h := h _ rfl
    have ex8 := i_add (x := a3) (y := 1) rfl (show (1 : Int32).toInt = 1 by decide) h.1
    have cx8 := ck_inc (x := a3) (n := 1) rfl h.1
    replace h := h.2 _ ex8
    refine g_inc [.ref 213, .int a1, .int a2, .int (a3 + 1), .null, .null, .null] rfl rfl rfl rfl cx8 ?_
    refine g_go rfl ?_
    exact r43 a1 a2 (a3 + 1)  (sa s 264 ((s.1 97) + a3).toInt.toNat (s.2.1 264 ((s.1 71) + a3).toInt.toNat)) h
def wl_239_43 (T : Nat → List Value → yS → (Option Value → yS → Prop) → Prop)  (a1 : Int32) (a2 : Int32) (a3 : Int32) (s : yS) (P : Option Value → yS → Prop) : Prop :=
  ∃ (I : Int32 → Int32 → Int32 → yS → Prop) (μ : Int32 → Int32 → Int32 → yS → Nat), I a1 a2 a3 s ∧ ∀ (a1 : Int32) (a2 : Int32) (a3 : Int32) (s : yS), I a1 a2 a3 s → w_239_43 T (fun a1' a2' a3' s' => I a1' a2' a3' s' ∧ μ a1' a2' a3' s' < μ a1 a2 a3 s) a1 a2 a3 s P
theorem kl_239_43 {d : Nat}  {a1 : Int32} {a2 : Int32} {a3 : Int32} {s : yS} {P : Option Value → yS → Prop}  (h : wl_239_43 (Tot d)  a1 a2 a3 s P) : Go d 4 (some .int) xE_239 (xE_239.drop 43) [.ref 213, .int a1, .int a2, .int a3, .null, .null, .null] [] s P := by
  obtain ⟨I, μ, h0, h1⟩ := h
  have key : ∀ (n : Nat) (a1 : Int32) (a2 : Int32) (a3 : Int32) (s : yS), μ a1 a2 a3 s = n → I a1 a2 a3 s → Go d 4 (some .int) xE_239 (xE_239.drop 43) [.ref 213, .int a1, .int a2, .int a3, .null, .null, .null] [] s P := by
    intro n
    induction n using Nat.strongRecOn with
    | ind n ih =>
      intro a1 a2 a3 s e hI
      exact k_239_43 (fun a1' a2' a3' s' q => ih _ (by rw [← e]; exact q.2) _ _ _ _ rfl q.1) (h1 a1 a2 a3 s hI)
  exact key _ a1 a2 a3 s rfl h0
def w_239_0 (T : Nat → List Value → yS → (Option Value → yS → Prop) → Prop)  (a1 : Int32) (a2 : Int32) (s : yS) (P : Option Value → yS → Prop) : Prop :=
  (0 ≤ a1.toInt ∧ a1.toInt < 12006) ∧ (∀ s1, s1 = sf s 107 (s.2.1 231 a1.toInt.toNat) → (0 ≤ a1.toInt ∧ a1.toInt < 12006) ∧ (∀ s2, s2 = sf s1 108 (s1.2.1 232 a1.toInt.toNat) → T 238 [.ref 213, .int (s2.1 107), .int (s2.1 108)] s2 (fun v4 s3 => ∃ x5, v4 = some (.int x5) ∧ ((¬ (x5.toInt = 0) → ∀ s6, s6 = sf s3 64 100000 → T 191 [.ref 213, .int (s6.1 107), .int (s6.1 108), .int a2] s6 (fun v8 s7 => ∃ x9, v8 = some (.int x9) ∧ ((¬ (x9.toInt = 0) → T 237 [.ref 213, .int (s7.1 72)] s7 (fun v11 s10 => ∃ x12, v11 = some (.int x12) ∧ ((x12.toInt ≤ 0 → wl_239_43 T  a1 a2 0  s10 P) ∧ (¬ (x12.toInt ≤ 0) → P (some (.int 2)) s10)))) ∧ (x9.toInt = 0 → P (some (.int 4)) s7)))) ∧ (x5.toInt = 0 → P (some (.int 0)) s3)))))
set_option maxRecDepth 20000 in
theorem k_239_0 {d : Nat}  {a1 : Int32} {a2 : Int32} {s : yS} {P : Option Value → yS → Prop}  (h : w_239_0 (Tot d)  a1 a2 s P) : Go d 4 (some .int) xE_239 (xE_239.drop 0) [.ref 213, .int a1, .int a2, .null, .null, .null, .null] [] s P := by
  unfold w_239_0 at h
  refine g_ld rfl rfl rfl ?_
  refine g_ld rfl rfl rfl ?_
  refine g_get rfl rfl ?_
  change Go _ _ _ _ _ _ [.ref 231, .ref 213] _ _
  refine g_ld rfl rfl rfl ?_
  refine g_ial rfl rfl (i_in (x := a1) rfl h.1) ?_
  change Go _ _ _ _ _ _ [.int (s.2.1 231 a1.toInt.toNat), .ref 213] _ _
  replace h := h.2
  refine g_put rfl rfl rfl ?_
  replace h := h _ rfl
  refine g_ld rfl rfl rfl ?_
  refine g_ld rfl rfl rfl ?_
  refine g_get rfl rfl ?_
  change Go _ _ _ _ _ _ [.ref 232, .ref 213] _ _
  refine g_ld rfl rfl rfl ?_
  refine g_ial rfl rfl (i_in (x := a1) rfl h.1) ?_
  change Go _ _ _ _ _ _ [.int ((sf s 107 (s.2.1 231 a1.toInt.toNat)).2.1 232 a1.toInt.toNat), .ref 213] _ _
  replace h := h.2
  refine g_put rfl rfl rfl ?_
  replace h := h _ rfl
  refine g_ld rfl rfl rfl ?_
  refine g_ld rfl rfl rfl ?_
  refine g_get rfl rfl ?_
  change Go _ _ _ _ _ _ [.int ((sf (sf s 107 (s.2.1 231 a1.toInt.toNat)) 108 ((sf s 107 (s.2.1 231 a1.toInt.toNat)).2.1 232 a1.toInt.toNat)).1 107), .ref 213] _ _
  refine g_ld rfl rfl rfl ?_
  refine g_get rfl rfl ?_
  change Go _ _ _ _ _ _ [.int ((sf (sf s 107 (s.2.1 231 a1.toInt.toNat)) 108 ((sf s 107 (s.2.1 231 a1.toInt.toNat)).2.1 232 a1.toInt.toNat)).1 108), .int ((sf (sf s 107 (s.2.1 231 a1.toInt.toNat)) 108 ((sf s 107 (s.2.1 231 a1.toInt.toNat)).2.1 232 a1.toInt.toNat)).1 107), .ref 213] _ _
  refine g_call [.ref 213, .int ((sf (sf s 107 (s.2.1 231 a1.toInt.toNat)) 108 ((sf s 107 (s.2.1 231 a1.toInt.toNat)).2.1 232 a1.toInt.toNat)).1 107), .int ((sf (sf s 107 (s.2.1 231 a1.toInt.toNat)) 108 ((sf s 107 (s.2.1 231 a1.toInt.toNat)).2.1 232 a1.toInt.toNat)).1 108)] [] rfl rfl rfl (Tot.imp h (fun v4 s3 h => ?_))
  obtain ⟨x5, rfl, h⟩ := h
  change Go _ _ _ _ _ _ [.int x5] _ _
  refine g_brN rfl rfl ⟨fun hc => ?_, fun hc => ?_⟩
  · replace h := h.1 (fun q => hc ((i_eq (x := x5) (y := 0) rfl (show (0 : Int32).toInt = 0 by decide)).mpr q))
    refine g_ld rfl rfl rfl ?_
    refine g_c [.int 100000, .ref 213] (xo_push (.int 100000)) rfl rfl ?_
    refine g_put rfl rfl rfl ?_
    replace h := h _ rfl
    refine g_ld rfl rfl rfl ?_
    refine g_ld rfl rfl rfl ?_
    refine g_get rfl rfl ?_
    change Go _ _ _ _ _ _ [.int ((sf s3 64 100000).1 107), .ref 213] _ _
    refine g_ld rfl rfl rfl ?_
    refine g_get rfl rfl ?_
    change Go _ _ _ _ _ _ [.int ((sf s3 64 100000).1 108), .int ((sf s3 64 100000).1 107), .ref 213] _ _
    refine g_ld rfl rfl rfl ?_
    refine g_call [.ref 213, .int ((sf s3 64 100000).1 107), .int ((sf s3 64 100000).1 108), .int a2] [] rfl rfl rfl (Tot.imp h (fun v8 s7 h => ?_))
    obtain ⟨x9, rfl, h⟩ := h
    change Go _ _ _ _ _ _ [.int x9] _ _
    refine g_brN rfl rfl ⟨fun hc => ?_, fun hc => ?_⟩
    · replace h := h.1 (fun q => hc ((i_eq (x := x9) (y := 0) rfl (show (0 : Int32).toInt = 0 by decide)).mpr q))
      refine g_ld rfl rfl rfl ?_
      refine g_ld rfl rfl rfl ?_
      refine g_get rfl rfl ?_
      change Go _ _ _ _ _ _ [.int (s7.1 72), .ref 213] _ _
      refine g_call [.ref 213, .int (s7.1 72)] [] rfl rfl rfl (Tot.imp h (fun v11 s10 h => ?_))
      obtain ⟨x12, rfl, h⟩ := h
      change Go _ _ _ _ _ _ [.int x12] _ _
      refine g_brP rfl rfl ⟨fun hc => ?_, fun hc => ?_⟩
      · replace h := h.1 ((i_le (x := x12) (y := 0) rfl (show (0 : Int32).toInt = 0 by decide)).mp hc)
        refine g_c [.int 0] (xo_push (.int 0)) rfl rfl ?_
        refine g_st [.ref 213, .int a1, .int a2, .int 0, .null, .null, .null] rfl rfl rfl ?_
        exact kl_239_43  h
      · replace h := h.2 (fun q => hc ((i_le (x := x12) (y := 0) rfl (show (0 : Int32).toInt = 0 by decide)).mpr q))
        refine g_c [.int 2] (xo_push (.int 2)) rfl rfl ?_
        exact g_retI rfl h
    · replace h := h.2 ((i_eq (x := x9) (y := 0) rfl (show (0 : Int32).toInt = 0 by decide)).mp hc)
      refine g_c [.int 4] (xo_push (.int 4)) rfl rfl ?_
      exact g_retI rfl h
  · replace h := h.2 ((i_eq (x := x5) (y := 0) rfl (show (0 : Int32).toInt = 0 by decide)).mp hc)
    refine g_c [.int 0] (xo_push (.int 0)) rfl rfl ?_
    exact g_retI rfl h
theorem t_239 {d : Nat} {a1 : Int32} {a2 : Int32} {s : yS} {P : Option Value → yS → Prop} (h : w_239_0 (Tot d) a1 a2 s P) : Tot (d + 1) 239 [.ref 213, .int a1, .int a2] s P := tot_of (E := xE_239) (ml := 4) (ret := some .int) rfl rfl rfl (k_239_0 h)
/-! eval -/
def w_240_77 (T : Nat → List Value → yS → (Option Value → yS → Prop) → Prop)  (a1 : Int32) (a2 : Int32) (a3 : Int32) (a4 : Int32) (a5 : Int32) (s : yS) (P : Option Value → yS → Prop) : Prop :=
  P (some (.int a5)) s
set_option maxRecDepth 20000 in
theorem k_240_77 {d : Nat}  {a1 : Int32} {a2 : Int32} {a3 : Int32} {a4 : Int32} {a5 : Int32} {s : yS} {P : Option Value → yS → Prop}  (h : w_240_77 (Tot d)  a1 a2 a3 a4 a5 s P) : Go d 6 (some .int) xE_240 (xE_240.drop 77) [.ref 213, .int a1, .int a2, .int a3, .int a4, .int a5, .null, .null, .null, .null] [] s P := by
  unfold w_240_77 at h
  refine g_ld rfl rfl rfl ?_
  exact g_retI rfl h
def w_240_75 (T : Nat → List Value → yS → (Option Value → yS → Prop) → Prop) (R39 : Int32 → Int32 → Int32 → Int32 → Int32 → yS → Prop) (a1 : Int32) (a2 : Int32) (a3 : Int32) (a4 : Int32) (a5 : Int32) (t0 : Int32) (s : yS) (P : Option Value → yS → Prop) : Prop :=
  R39 a1 a2 a3 a4 t0  s
set_option maxRecDepth 20000 in
theorem k_240_75 {d : Nat} {R39 : Int32 → Int32 → Int32 → Int32 → Int32 → yS → Prop} {a1 : Int32} {a2 : Int32} {a3 : Int32} {a4 : Int32} {a5 : Int32} {t0 : Int32} {s : yS} {P : Option Value → yS → Prop} (r39 : ∀ a1 a2 a3 a4 a5 s, R39 a1 a2 a3 a4 a5 s → Go d 6 (some .int) xE_240 (xE_240.drop 39) [.ref 213, .int a1, .int a2, .int a3, .int a4, .int a5, .null, .null, .null, .null] [] s P) (h : w_240_75 (Tot d) R39 a1 a2 a3 a4 a5 t0 s P) : Go d 6 (some .int) xE_240 (xE_240.drop 75) [.ref 213, .int a1, .int a2, .int a3, .int a4, .int a5, .null, .null, .null, .null] [.int t0] s P := by
  unfold w_240_75 at h
  refine g_st [.ref 213, .int a1, .int a2, .int a3, .int a4, .int t0, .null, .null, .null, .null] rfl rfl rfl ?_
  refine g_go rfl ?_
  exact r39 a1 a2 a3 a4 t0  s h
def w_240_39 (T : Nat → List Value → yS → (Option Value → yS → Prop) → Prop) (R39 : Int32 → Int32 → Int32 → Int32 → Int32 → yS → Prop) (a1 : Int32) (a2 : Int32) (a3 : Int32) (a4 : Int32) (a5 : Int32) (s : yS) (P : Option Value → yS → Prop) : Prop :=
  (a4.toInt = a1.toInt → w_240_77 T  a1 a2 a3 a4 a5  s P) ∧ (¬ (a4.toInt = a1.toInt) → (¬ (a5.toInt = 0) → w_240_77 T  a1 a2 a3 a4 a5  s P) ∧ (a5.toInt = 0 → (0 ≤ a4.toInt ∧ a4.toInt < 12006) ∧ ((0 ≤ (s.2.1 228 a4.toInt.toNat).toInt ∧ (s.2.1 228 a4.toInt.toNat).toInt < 12006) ∧ ((¬ ((s.2.1 221 (s.2.1 228 a4.toInt.toNat).toInt.toNat).toInt = 3) → (0 ≤ (s.2.1 228 a4.toInt.toNat).toInt ∧ (s.2.1 228 a4.toInt.toNat).toInt < 12006) ∧ ((¬ ((s.2.1 221 (s.2.1 228 a4.toInt.toNat).toInt.toNat).toInt = 4) → T 243 [.ref 213, .int (s.2.1 228 a4.toInt.toNat), .int a3] s (fun v2 s1 => ∃ x3, v2 = some (.int x3) ∧ (w_240_75 T R39 a1 a2 a3 (s.2.1 228 a4.toInt.toNat) a5 x3 s1 P))) ∧ ((s.2.1 221 (s.2.1 228 a4.toInt.toNat).toInt.toNat).toInt = 4 → T 244 [.ref 213, .int (s.2.1 228 a4.toInt.toNat), .int a2, .int a3] s (fun v5 s4 => ∃ x6, v5 = some (.int x6) ∧ (w_240_75 T R39 a1 a2 a3 (s.2.1 228 a4.toInt.toNat) a5 x6 s4 P))))) ∧ ((s.2.1 221 (s.2.1 228 a4.toInt.toNat).toInt.toNat).toInt = 3 → T 242 [.ref 213, .int (s.2.1 228 a4.toInt.toNat)] s (fun v8 s7 => ∃ x9, v8 = some (.int x9) ∧ (w_240_75 T R39 a1 a2 a3 (s.2.1 228 a4.toInt.toNat) a5 x9 s7 P)))))))
set_option maxRecDepth 20000 in
theorem k_240_39 {d : Nat} {R39 : Int32 → Int32 → Int32 → Int32 → Int32 → yS → Prop} {a1 : Int32} {a2 : Int32} {a3 : Int32} {a4 : Int32} {a5 : Int32} {s : yS} {P : Option Value → yS → Prop} (r39 : ∀ a1 a2 a3 a4 a5 s, R39 a1 a2 a3 a4 a5 s → Go d 6 (some .int) xE_240 (xE_240.drop 39) [.ref 213, .int a1, .int a2, .int a3, .int a4, .int a5, .null, .null, .null, .null] [] s P) (h : w_240_39 (Tot d) R39 a1 a2 a3 a4 a5 s P) : Go d 6 (some .int) xE_240 (xE_240.drop 39) [.ref 213, .int a1, .int a2, .int a3, .int a4, .int a5, .null, .null, .null, .null] [] s P := by
  unfold w_240_39 at h
  refine g_ld rfl rfl rfl ?_
  refine g_ld rfl rfl rfl ?_
  refine g_brP rfl rfl ⟨fun hc => ?_, fun hc => ?_⟩
  · replace h := h.1 ((i_eq (x := a4) (y := a1) rfl rfl).mp hc)
    exact k_240_77  h
  · replace h := h.2 (fun q => hc ((i_eq (x := a4) (y := a1) rfl rfl).mpr q))
    refine g_ld rfl rfl rfl ?_
    refine g_brN rfl rfl ⟨fun hc => ?_, fun hc => ?_⟩
    · replace h := h.1 (fun q => hc ((i_eq (x := a5) (y := 0) rfl (show (0 : Int32).toInt = 0 by decide)).mpr q))
      exact k_240_77  h
    · replace h := h.2 ((i_eq (x := a5) (y := 0) rfl (show (0 : Int32).toInt = 0 by decide)).mp hc)
      refine g_ld rfl rfl rfl ?_
      refine g_get rfl rfl ?_
      change Go _ _ _ _ _ _ [.ref 228] _ _
      refine g_ld rfl rfl rfl ?_
      refine g_ial rfl rfl (i_in (x := a4) rfl h.1) ?_
      change Go _ _ _ _ _ _ [.int (s.2.1 228 a4.toInt.toNat)] _ _
      replace h := h.2
      refine g_st [.ref 213, .int a1, .int a2, .int a3, .int (s.2.1 228 a4.toInt.toNat), .int a5, .null, .null, .null, .null] rfl rfl rfl ?_
      refine g_ld rfl rfl rfl ?_
      refine g_get rfl rfl ?_
      change Go _ _ _ _ _ _ [.ref 221] _ _
      refine g_ld rfl rfl rfl ?_
      refine g_ial rfl rfl (i_in (x := s.2.1 228 a4.toInt.toNat) rfl h.1) ?_
      change Go _ _ _ _ _ _ [.int (s.2.1 221 (s.2.1 228 a4.toInt.toNat).toInt.toNat)] _ _
      replace h := h.2
      refine g_c [.int 3, .int (s.2.1 221 (s.2.1 228 a4.toInt.toNat).toInt.toNat)] (xo_push (.int 3)) rfl rfl ?_
      refine g_brN rfl rfl ⟨fun hc => ?_, fun hc => ?_⟩
      · replace h := h.1 (fun q => hc ((i_eq (x := s.2.1 221 (s.2.1 228 a4.toInt.toNat).toInt.toNat) (y := 3) rfl (show (3 : Int32).toInt = 3 by decide)).mpr q))
        refine g_ld rfl rfl rfl ?_
        refine g_get rfl rfl ?_
        change Go _ _ _ _ _ _ [.ref 221] _ _
        refine g_ld rfl rfl rfl ?_
        refine g_ial rfl rfl (i_in (x := s.2.1 228 a4.toInt.toNat) rfl h.1) ?_
        change Go _ _ _ _ _ _ [.int (s.2.1 221 (s.2.1 228 a4.toInt.toNat).toInt.toNat)] _ _
        replace h := h.2
        refine g_c [.int 4, .int (s.2.1 221 (s.2.1 228 a4.toInt.toNat).toInt.toNat)] (xo_push (.int 4)) rfl rfl ?_
        refine g_brN rfl rfl ⟨fun hc => ?_, fun hc => ?_⟩
        · replace h := h.1 (fun q => hc ((i_eq (x := s.2.1 221 (s.2.1 228 a4.toInt.toNat).toInt.toNat) (y := 4) rfl (show (4 : Int32).toInt = 4 by decide)).mpr q))
          refine g_ld rfl rfl rfl ?_
          refine g_ld rfl rfl rfl ?_
          refine g_ld rfl rfl rfl ?_
          refine g_call [.ref 213, .int (s.2.1 228 a4.toInt.toNat), .int a3] [] rfl rfl rfl (Tot.imp h (fun v2 s1 h => ?_))
          obtain ⟨x3, rfl, h⟩ := h
          change Go _ _ _ _ _ _ [.int x3] _ _
          exact k_240_75 r39 h
        · replace h := h.2 ((i_eq (x := s.2.1 221 (s.2.1 228 a4.toInt.toNat).toInt.toNat) (y := 4) rfl (show (4 : Int32).toInt = 4 by decide)).mp hc)
          refine g_ld rfl rfl rfl ?_
          refine g_ld rfl rfl rfl ?_
          refine g_ld rfl rfl rfl ?_
          refine g_ld rfl rfl rfl ?_
          refine g_call [.ref 213, .int (s.2.1 228 a4.toInt.toNat), .int a2, .int a3] [] rfl rfl rfl (Tot.imp h (fun v5 s4 h => ?_))
          obtain ⟨x6, rfl, h⟩ := h
          change Go _ _ _ _ _ _ [.int x6] _ _
          refine g_go rfl ?_
          exact k_240_75 r39 h
      · replace h := h.2 ((i_eq (x := s.2.1 221 (s.2.1 228 a4.toInt.toNat).toInt.toNat) (y := 3) rfl (show (3 : Int32).toInt = 3 by decide)).mp hc)
        refine g_ld rfl rfl rfl ?_
        refine g_ld rfl rfl rfl ?_
        refine g_call [.ref 213, .int (s.2.1 228 a4.toInt.toNat)] [] rfl rfl rfl (Tot.imp h (fun v8 s7 h => ?_))
        obtain ⟨x9, rfl, h⟩ := h
        change Go _ _ _ _ _ _ [.int x9] _ _
        refine g_go rfl ?_
        exact k_240_75 r39 h
def wl_240_39 (T : Nat → List Value → yS → (Option Value → yS → Prop) → Prop)  (a1 : Int32) (a2 : Int32) (a3 : Int32) (a4 : Int32) (a5 : Int32) (s : yS) (P : Option Value → yS → Prop) : Prop :=
  ∃ (I : Int32 → Int32 → Int32 → Int32 → Int32 → yS → Prop) (μ : Int32 → Int32 → Int32 → Int32 → Int32 → yS → Nat), I a1 a2 a3 a4 a5 s ∧ ∀ (a1 : Int32) (a2 : Int32) (a3 : Int32) (a4 : Int32) (a5 : Int32) (s : yS), I a1 a2 a3 a4 a5 s → w_240_39 T (fun a1' a2' a3' a4' a5' s' => I a1' a2' a3' a4' a5' s' ∧ μ a1' a2' a3' a4' a5' s' < μ a1 a2 a3 a4 a5 s) a1 a2 a3 a4 a5 s P
theorem kl_240_39 {d : Nat}  {a1 : Int32} {a2 : Int32} {a3 : Int32} {a4 : Int32} {a5 : Int32} {s : yS} {P : Option Value → yS → Prop}  (h : wl_240_39 (Tot d)  a1 a2 a3 a4 a5 s P) : Go d 6 (some .int) xE_240 (xE_240.drop 39) [.ref 213, .int a1, .int a2, .int a3, .int a4, .int a5, .null, .null, .null, .null] [] s P := by
  obtain ⟨I, μ, h0, h1⟩ := h
  have key : ∀ (n : Nat) (a1 : Int32) (a2 : Int32) (a3 : Int32) (a4 : Int32) (a5 : Int32) (s : yS), μ a1 a2 a3 a4 a5 s = n → I a1 a2 a3 a4 a5 s → Go d 6 (some .int) xE_240 (xE_240.drop 39) [.ref 213, .int a1, .int a2, .int a3, .int a4, .int a5, .null, .null, .null, .null] [] s P := by
    intro n
    induction n using Nat.strongRecOn with
    | ind n ih =>
      intro a1 a2 a3 a4 a5 s e hI
      exact k_240_39 (fun a1' a2' a3' a4' a5' s' q => ih _ (by rw [← e]; exact q.2) _ _ _ _ _ _ rfl q.1) (h1 a1 a2 a3 a4 a5 s hI)
  exact key _ a1 a2 a3 a4 a5 s rfl h0
def w_240_2 (T : Nat → List Value → yS → (Option Value → yS → Prop) → Prop) (R2 : Int32 → Int32 → Int32 → Int32 → yS → Prop) (a1 : Int32) (a2 : Int32) (a3 : Int32) (a4 : Int32) (s : yS) (P : Option Value → yS → Prop) : Prop :=
  (0 ≤ a4.toInt ∧ a4.toInt < 12006) ∧ (((s.2.1 227 a4.toInt.toNat).toInt < 0 → (0 ≤ a4.toInt ∧ a4.toInt < 12006) ∧ ((¬ ((s.2.1 221 a4.toInt.toNat).toInt = 1) → T 241 [.ref 213, .int a4, .int a2, .int a3] s (fun v2 s1 => ∃ x3, v2 = some (.int x3) ∧ (wl_240_39 T  a1 a2 a3 a4 x3  s1 P))) ∧ ((s.2.1 221 a4.toInt.toNat).toInt = 1 → (0 ≤ a4.toInt ∧ a4.toInt < 12006) ∧ ((-2147483648 ≤ a2.toInt + (s.2.1 230 a4.toInt.toNat).toInt ∧ a2.toInt + (s.2.1 230 a4.toInt.toNat).toInt ≤ 2147483647) ∧ (∀ x4 : Int32, x4.toInt = a2.toInt + (s.2.1 230 a4.toInt.toNat).toInt → (0 ≤ x4.toInt ∧ x4.toInt < 4000) ∧ (∀ s5, s5 = sf s 102 (s.2.1 278 x4.toInt.toNat) → wl_240_39 T  a1 a2 a3 a4 0  s5 P)))))) ∧ (¬ ((s.2.1 227 a4.toInt.toNat).toInt < 0) → (0 ≤ a4.toInt ∧ a4.toInt < 12006) ∧ (R2 a1 a2 a3 (s.2.1 227 a4.toInt.toNat)  s)))
set_option maxRecDepth 20000 in
theorem k_240_2 {d : Nat} {R2 : Int32 → Int32 → Int32 → Int32 → yS → Prop} {a1 : Int32} {a2 : Int32} {a3 : Int32} {a4 : Int32} {s : yS} {P : Option Value → yS → Prop} (r2 : ∀ a1 a2 a3 a4 s, R2 a1 a2 a3 a4 s → Go d 6 (some .int) xE_240 (xE_240.drop 2) [.ref 213, .int a1, .int a2, .int a3, .int a4, .null, .null, .null, .null, .null] [] s P) (h : w_240_2 (Tot d) R2 a1 a2 a3 a4 s P) : Go d 6 (some .int) xE_240 (xE_240.drop 2) [.ref 213, .int a1, .int a2, .int a3, .int a4, .null, .null, .null, .null, .null] [] s P := by
  unfold w_240_2 at h
  refine g_ld rfl rfl rfl ?_
  refine g_get rfl rfl ?_
  change Go _ _ _ _ _ _ [.ref 227] _ _
  refine g_ld rfl rfl rfl ?_
  refine g_ial rfl rfl (i_in (x := a4) rfl h.1) ?_
  change Go _ _ _ _ _ _ [.int (s.2.1 227 a4.toInt.toNat)] _ _
  replace h := h.2
  refine g_brP rfl rfl ⟨fun hc => ?_, fun hc => ?_⟩
  · replace h := h.1 ((i_lt (x := s.2.1 227 a4.toInt.toNat) (y := 0) rfl (show (0 : Int32).toInt = 0 by decide)).mp hc)
    refine g_c [.int 0] (xo_push (.int 0)) rfl rfl ?_
    refine g_st [.ref 213, .int a1, .int a2, .int a3, .int a4, .int 0, .null, .null, .null, .null] rfl rfl rfl ?_
    refine g_ld rfl rfl rfl ?_
    refine g_get rfl rfl ?_
    change Go _ _ _ _ _ _ [.ref 221] _ _
    refine g_ld rfl rfl rfl ?_
    refine g_ial rfl rfl (i_in (x := a4) rfl h.1) ?_
    change Go _ _ _ _ _ _ [.int (s.2.1 221 a4.toInt.toNat)] _ _
    replace h := h.2
    refine g_c [.int 1, .int (s.2.1 221 a4.toInt.toNat)] (xo_push (.int 1)) rfl rfl ?_
    refine g_brN rfl rfl ⟨fun hc => ?_, fun hc => ?_⟩
    · replace h := h.1 (fun q => hc ((i_eq (x := s.2.1 221 a4.toInt.toNat) (y := 1) rfl (show (1 : Int32).toInt = 1 by decide)).mpr q))
      refine g_ld rfl rfl rfl ?_
      refine g_ld rfl rfl rfl ?_
      refine g_ld rfl rfl rfl ?_
      refine g_ld rfl rfl rfl ?_
      refine g_call [.ref 213, .int a4, .int a2, .int a3] [] rfl rfl rfl (Tot.imp h (fun v2 s1 h => ?_))
      obtain ⟨x3, rfl, h⟩ := h
      change Go _ _ _ _ _ _ [.int x3] _ _
      refine g_st [.ref 213, .int a1, .int a2, .int a3, .int a4, .int x3, .null, .null, .null, .null] rfl rfl rfl ?_
      exact kl_240_39  h
    · replace h := h.2 ((i_eq (x := s.2.1 221 a4.toInt.toNat) (y := 1) rfl (show (1 : Int32).toInt = 1 by decide)).mp hc)
      refine g_ld rfl rfl rfl ?_
      refine g_ld rfl rfl rfl ?_
      refine g_get rfl rfl ?_
      change Go _ _ _ _ _ _ [.ref 278, .ref 213] _ _
      refine g_ld rfl rfl rfl ?_
      refine g_ld rfl rfl rfl ?_
      refine g_get rfl rfl ?_
      change Go _ _ _ _ _ _ [.ref 230, .int a2, .ref 278, .ref 213] _ _
      refine g_ld rfl rfl rfl ?_
      refine g_ial rfl rfl (i_in (x := a4) rfl h.1) ?_
      change Go _ _ _ _ _ _ [.int (s.2.1 230 a4.toInt.toNat), .int a2, .ref 278, .ref 213] _ _
      replace h := h.2
      have ex4 := i_add (x := a2) (y := s.2.1 230 a4.toInt.toNat) rfl rfl h.1
      have cx4 := ck_add (x := a2) (y := s.2.1 230 a4.toInt.toNat) rfl rfl h.1
      replace h := h.2 _ ex4
      refine g_ca [.int (a2 + (s.2.1 230 a4.toInt.toNat)), .ref 278, .ref 213] xo_iadd rfl rfl (fun _ => cx4) ?_
      refine g_ial rfl rfl (i_in (x := (a2 + (s.2.1 230 a4.toInt.toNat))) rfl h.1) ?_
      change Go _ _ _ _ _ _ [.int (s.2.1 278 (a2 + (s.2.1 230 a4.toInt.toNat)).toInt.toNat), .ref 213] _ _
      replace h := h.2
      refine g_put rfl rfl rfl ?_
      replace h := h _ rfl
      refine g_go rfl ?_
      exact kl_240_39  h
  · replace h := h.2 (fun q => hc ((i_lt (x := s.2.1 227 a4.toInt.toNat) (y := 0) rfl (show (0 : Int32).toInt = 0 by decide)).mpr q))
    refine g_ld rfl rfl rfl ?_
    refine g_get rfl rfl ?_
    change Go _ _ _ _ _ _ [.ref 227] _ _
    refine g_ld rfl rfl rfl ?_
    refine g_ial rfl rfl (i_in (x := a4) rfl h.1) ?_
    change Go _ _ _ _ _ _ [.int (s.2.1 227 a4.toInt.toNat)] _ _
    replace h := h.2
    refine g_st [.ref 213, .int a1, .int a2, .int a3, .int (s.2.1 227 a4.toInt.toNat), .null, .null, .null, .null, .null] rfl rfl rfl ?_
    refine g_go rfl ?_
    exact r2 a1 a2 a3 (s.2.1 227 a4.toInt.toNat)  s h
def wl_240_2 (T : Nat → List Value → yS → (Option Value → yS → Prop) → Prop)  (a1 : Int32) (a2 : Int32) (a3 : Int32) (a4 : Int32) (s : yS) (P : Option Value → yS → Prop) : Prop :=
  ∃ (I : Int32 → Int32 → Int32 → Int32 → yS → Prop) (μ : Int32 → Int32 → Int32 → Int32 → yS → Nat), I a1 a2 a3 a4 s ∧ ∀ (a1 : Int32) (a2 : Int32) (a3 : Int32) (a4 : Int32) (s : yS), I a1 a2 a3 a4 s → w_240_2 T (fun a1' a2' a3' a4' s' => I a1' a2' a3' a4' s' ∧ μ a1' a2' a3' a4' s' < μ a1 a2 a3 a4 s) a1 a2 a3 a4 s P
theorem kl_240_2 {d : Nat}  {a1 : Int32} {a2 : Int32} {a3 : Int32} {a4 : Int32} {s : yS} {P : Option Value → yS → Prop}  (h : wl_240_2 (Tot d)  a1 a2 a3 a4 s P) : Go d 6 (some .int) xE_240 (xE_240.drop 2) [.ref 213, .int a1, .int a2, .int a3, .int a4, .null, .null, .null, .null, .null] [] s P := by
  obtain ⟨I, μ, h0, h1⟩ := h
  have key : ∀ (n : Nat) (a1 : Int32) (a2 : Int32) (a3 : Int32) (a4 : Int32) (s : yS), μ a1 a2 a3 a4 s = n → I a1 a2 a3 a4 s → Go d 6 (some .int) xE_240 (xE_240.drop 2) [.ref 213, .int a1, .int a2, .int a3, .int a4, .null, .null, .null, .null, .null] [] s P := by
    intro n
    induction n using Nat.strongRecOn with
    | ind n ih =>
      intro a1 a2 a3 a4 s e hI
      exact k_240_2 (fun a1' a2' a3' a4' s' q => ih _ (by rw [← e]; exact q.2) _ _ _ _ _ rfl q.1) (h1 a1 a2 a3 a4 s hI)
  exact key _ a1 a2 a3 a4 s rfl h0
def w_240_0 (T : Nat → List Value → yS → (Option Value → yS → Prop) → Prop)  (a1 : Int32) (a2 : Int32) (a3 : Int32) (s : yS) (P : Option Value → yS → Prop) : Prop :=
  wl_240_2 T  a1 a2 a3 a1  s P
set_option maxRecDepth 20000 in
theorem k_240_0 {d : Nat}  {a1 : Int32} {a2 : Int32} {a3 : Int32} {s : yS} {P : Option Value → yS → Prop}  (h : w_240_0 (Tot d)  a1 a2 a3 s P) : Go d 6 (some .int) xE_240 (xE_240.drop 0) [.ref 213, .int a1, .int a2, .int a3, .null, .null, .null, .null, .null, .null] [] s P := by
  unfold w_240_0 at h
  refine g_ld rfl rfl rfl ?_
  refine g_st [.ref 213, .int a1, .int a2, .int a3, .int a1, .null, .null, .null, .null, .null] rfl rfl rfl ?_
  exact kl_240_2  h
theorem t_240 {d : Nat} {a1 : Int32} {a2 : Int32} {a3 : Int32} {s : yS} {P : Option Value → yS → Prop} (h : w_240_0 (Tot d) a1 a2 a3 s P) : Tot (d + 1) 240 [.ref 213, .int a1, .int a2, .int a3] s P := tot_of (E := xE_240) (ml := 6) (ret := some .int) rfl rfl rfl (k_240_0 h)
/-! evalStruct -/
def w_241_106 (T : Nat → List Value → yS → (Option Value → yS → Prop) → Prop)  (a1 : Int32) (a2 : Int32) (a3 : Int32) (a4 : Int32) (a5 : Int32) (a6 : Int32) (a7 : Int32) (a8 : Int32) (s : yS) (P : Option Value → yS → Prop) : Prop :=
  ∀ s1, s1 = sf s 105 a7 → P (some (.int a4)) s1
set_option maxRecDepth 20000 in
theorem k_241_106 {d : Nat}  {a1 : Int32} {a2 : Int32} {a3 : Int32} {a4 : Int32} {a5 : Int32} {a6 : Int32} {a7 : Int32} {a8 : Int32} {s : yS} {P : Option Value → yS → Prop}  (h : w_241_106 (Tot d)  a1 a2 a3 a4 a5 a6 a7 a8 s P) : Go d 9 (some .int) xE_241 (xE_241.drop 106) [.ref 213, .int a1, .int a2, .int a3, .int a4, .int a5, .int a6, .int a7, .int a8, .null, .null, .null, .null] [] s P := by
  unfold w_241_106 at h
  refine g_ld rfl rfl rfl ?_
  refine g_ld rfl rfl rfl ?_
  refine g_put rfl rfl rfl ?_
  replace h := h _ rfl
  refine g_ld rfl rfl rfl ?_
  exact g_retI rfl h
def w_241_75 (T : Nat → List Value → yS → (Option Value → yS → Prop) → Prop) (R75 : Int32 → Int32 → Int32 → Int32 → Int32 → Int32 → Int32 → Int32 → yS → Prop) (a1 : Int32) (a2 : Int32) (a3 : Int32) (a4 : Int32) (a5 : Int32) (a6 : Int32) (a7 : Int32) (a8 : Int32) (s : yS) (P : Option Value → yS → Prop) : Prop :=
  ((s.1 105).toInt ≤ a8.toInt → ∀ s1, s1 = sf s 102 (s.1 98) → (-2147483648 ≤ (s1.1 98).toInt + 1 ∧ (s1.1 98).toInt + 1 ≤ 2147483647) ∧ (∀ x2 : Int32, x2.toInt = (s1.1 98).toInt + 1 → ∀ s3, s3 = sf s1 98 x2 → w_241_106 T  a1 a2 a3 a4 a5 a6 a7 a8  s3 P)) ∧ (¬ ((s.1 105).toInt ≤ a8.toInt) → (-2147483648 ≤ 6 * (s.1 98).toInt ∧ 6 * (s.1 98).toInt ≤ 2147483647) ∧ (∀ x4 : Int32, x4.toInt = 6 * (s.1 98).toInt → (-2147483648 ≤ x4.toInt + a8.toInt ∧ x4.toInt + a8.toInt ≤ 2147483647) ∧ (∀ x5 : Int32, x5.toInt = x4.toInt + a8.toInt → (-2147483648 ≤ x5.toInt - a7.toInt ∧ x5.toInt - a7.toInt ≤ 2147483647) ∧ (∀ x6 : Int32, x6.toInt = x5.toInt - a7.toInt → (0 ≤ a8.toInt ∧ a8.toInt < 4000) ∧ ((0 ≤ x6.toInt ∧ x6.toInt < 30600) ∧ (∀ s7, s7 = sa s 277 x6.toInt.toNat (s.2.1 278 a8.toInt.toNat) → (-2147483648 ≤ a8.toInt + 1 ∧ a8.toInt + 1 ≤ 2147483647) ∧ (∀ x8 : Int32, x8.toInt = a8.toInt + 1 → R75 a1 a2 a3 a4 a5 a6 a7 x8  s7)))))))
set_option maxRecDepth 20000 in
theorem k_241_75 {d : Nat} {R75 : Int32 → Int32 → Int32 → Int32 → Int32 → Int32 → Int32 → Int32 → yS → Prop} {a1 : Int32} {a2 : Int32} {a3 : Int32} {a4 : Int32} {a5 : Int32} {a6 : Int32} {a7 : Int32} {a8 : Int32} {s : yS} {P : Option Value → yS → Prop} (r75 : ∀ a1 a2 a3 a4 a5 a6 a7 a8 s, R75 a1 a2 a3 a4 a5 a6 a7 a8 s → Go d 9 (some .int) xE_241 (xE_241.drop 75) [.ref 213, .int a1, .int a2, .int a3, .int a4, .int a5, .int a6, .int a7, .int a8, .null, .null, .null, .null] [] s P) (h : w_241_75 (Tot d) R75 a1 a2 a3 a4 a5 a6 a7 a8 s P) : Go d 9 (some .int) xE_241 (xE_241.drop 75) [.ref 213, .int a1, .int a2, .int a3, .int a4, .int a5, .int a6, .int a7, .int a8, .null, .null, .null, .null] [] s P := by
  unfold w_241_75 at h
  refine g_ld rfl rfl rfl ?_
  refine g_ld rfl rfl rfl ?_
  refine g_get rfl rfl ?_
  change Go _ _ _ _ _ _ [.int (s.1 105), .int a8] _ _
  refine g_brP rfl rfl ⟨fun hc => ?_, fun hc => ?_⟩
  · replace h := h.1 ((i_le (x := s.1 105) (y := a8) rfl rfl).mp hc)
    refine g_ld rfl rfl rfl ?_
    refine g_ld rfl rfl rfl ?_
    refine g_get rfl rfl ?_
    change Go _ _ _ _ _ _ [.int (s.1 98), .ref 213] _ _
    refine g_put rfl rfl rfl ?_
    replace h := h _ rfl
    refine g_ld rfl rfl rfl ?_
    refine g_c [.ref 213, .ref 213] xo_dup rfl rfl ?_
    refine g_get rfl rfl ?_
    change Go _ _ _ _ _ _ [.int ((sf s 102 (s.1 98)).1 98), .ref 213] _ _
    refine g_c [.int 1, .int ((sf s 102 (s.1 98)).1 98), .ref 213] (xo_push (.int 1)) rfl rfl ?_
    have ex2 := i_add (x := (sf s 102 (s.1 98)).1 98) (y := 1) rfl (show (1 : Int32).toInt = 1 by decide) h.1
    have cx2 := ck_add (x := (sf s 102 (s.1 98)).1 98) (y := 1) rfl (show (1 : Int32).toInt = 1 by decide) h.1
    replace h := h.2 _ ex2
    refine g_ca [.int (((sf s 102 (s.1 98)).1 98) + 1), .ref 213] xo_iadd rfl rfl (fun _ => cx2) ?_
    refine g_put rfl rfl rfl ?_
    replace h := h _ rfl
    exact k_241_106  h
  · replace h := h.2 (fun q => hc ((i_le (x := s.1 105) (y := a8) rfl rfl).mpr q))
    refine g_ld rfl rfl rfl ?_
    refine g_get rfl rfl ?_
    change Go _ _ _ _ _ _ [.ref 277] _ _
    refine g_c [.int 6, .ref 277] (xo_push (.int 6)) rfl rfl ?_
    refine g_ld rfl rfl rfl ?_
    refine g_get rfl rfl ?_
    change Go _ _ _ _ _ _ [.int (s.1 98), .int 6, .ref 277] _ _
    have ex4 := i_mul (x := 6) (y := s.1 98) (show (6 : Int32).toInt = 6 by decide) rfl h.1
    have cx4 := ck_mul (x := 6) (y := s.1 98) (show (6 : Int32).toInt = 6 by decide) rfl h.1
    replace h := h.2 _ ex4
    refine g_ca [.int (6 * (s.1 98)), .ref 277] xo_imul rfl rfl (fun _ => cx4) ?_
    refine g_ld rfl rfl rfl ?_
    have ex5 := i_add (x := (6 * (s.1 98))) (y := a8) rfl rfl h.1
    have cx5 := ck_add (x := (6 * (s.1 98))) (y := a8) rfl rfl h.1
    replace h := h.2 _ ex5
    refine g_ca [.int ((6 * (s.1 98)) + a8), .ref 277] xo_iadd rfl rfl (fun _ => cx5) ?_
    refine g_ld rfl rfl rfl ?_
    have ex6 := i_sub (x := ((6 * (s.1 98)) + a8)) (y := a7) rfl rfl h.1
    have cx6 := ck_sub (x := ((6 * (s.1 98)) + a8)) (y := a7) rfl rfl h.1
    replace h := h.2 _ ex6
    refine g_ca [.int (((6 * (s.1 98)) + a8) - a7), .ref 277] xo_isub rfl rfl (fun _ => cx6) ?_
    refine g_ld rfl rfl rfl ?_
    refine g_get rfl rfl ?_
    change Go _ _ _ _ _ _ [.ref 278, .int (((6 * (s.1 98)) + a8) - a7), .ref 277] _ _
    refine g_ld rfl rfl rfl ?_
    refine g_ial rfl rfl (i_in (x := a8) rfl h.1) ?_
    change Go _ _ _ _ _ _ [.int (s.2.1 278 a8.toInt.toNat), .int (((6 * (s.1 98)) + a8) - a7), .ref 277] _ _
    replace h := h.2
    refine g_ias rfl rfl (i_in (x := (((6 * (s.1 98)) + a8) - a7)) rfl h.1) ?_
    replace h := h.2
    replace h := h _ rfl
    have ex8 := i_add (x := a8) (y := 1) rfl (show (1 : Int32).toInt = 1 by decide) h.1
    have cx8 := ck_inc (x := a8) (n := 1) rfl h.1
    replace h := h.2 _ ex8
    refine g_inc [.ref 213, .int a1, .int a2, .int a3, .int a4, .int a5, .int a6, .int a7, .int (a8 + 1), .null, .null, .null, .null] rfl rfl rfl rfl cx8 ?_
    refine g_go rfl ?_
    exact r75 a1 a2 a3 a4 a5 a6 a7 (a8 + 1)  (sa s 277 (((6 * (s.1 98)) + a8) - a7).toInt.toNat (s.2.1 278 a8.toInt.toNat)) h
def wl_241_75 (T : Nat → List Value → yS → (Option Value → yS → Prop) → Prop)  (a1 : Int32) (a2 : Int32) (a3 : Int32) (a4 : Int32) (a5 : Int32) (a6 : Int32) (a7 : Int32) (a8 : Int32) (s : yS) (P : Option Value → yS → Prop) : Prop :=
  ∃ (I : Int32 → Int32 → Int32 → Int32 → Int32 → Int32 → Int32 → Int32 → yS → Prop) (μ : Int32 → Int32 → Int32 → Int32 → Int32 → Int32 → Int32 → Int32 → yS → Nat), I a1 a2 a3 a4 a5 a6 a7 a8 s ∧ ∀ (a1 : Int32) (a2 : Int32) (a3 : Int32) (a4 : Int32) (a5 : Int32) (a6 : Int32) (a7 : Int32) (a8 : Int32) (s : yS), I a1 a2 a3 a4 a5 a6 a7 a8 s → w_241_75 T (fun a1' a2' a3' a4' a5' a6' a7' a8' s' => I a1' a2' a3' a4' a5' a6' a7' a8' s' ∧ μ a1' a2' a3' a4' a5' a6' a7' a8' s' < μ a1 a2 a3 a4 a5 a6 a7 a8 s) a1 a2 a3 a4 a5 a6 a7 a8 s P
theorem kl_241_75 {d : Nat}  {a1 : Int32} {a2 : Int32} {a3 : Int32} {a4 : Int32} {a5 : Int32} {a6 : Int32} {a7 : Int32} {a8 : Int32} {s : yS} {P : Option Value → yS → Prop}  (h : wl_241_75 (Tot d)  a1 a2 a3 a4 a5 a6 a7 a8 s P) : Go d 9 (some .int) xE_241 (xE_241.drop 75) [.ref 213, .int a1, .int a2, .int a3, .int a4, .int a5, .int a6, .int a7, .int a8, .null, .null, .null, .null] [] s P := by
  obtain ⟨I, μ, h0, h1⟩ := h
  have key : ∀ (n : Nat) (a1 : Int32) (a2 : Int32) (a3 : Int32) (a4 : Int32) (a5 : Int32) (a6 : Int32) (a7 : Int32) (a8 : Int32) (s : yS), μ a1 a2 a3 a4 a5 a6 a7 a8 s = n → I a1 a2 a3 a4 a5 a6 a7 a8 s → Go d 9 (some .int) xE_241 (xE_241.drop 75) [.ref 213, .int a1, .int a2, .int a3, .int a4, .int a5, .int a6, .int a7, .int a8, .null, .null, .null, .null] [] s P := by
    intro n
    induction n using Nat.strongRecOn with
    | ind n ih =>
      intro a1 a2 a3 a4 a5 a6 a7 a8 s e hI
      exact k_241_75 (fun a1' a2' a3' a4' a5' a6' a7' a8' s' q => ih _ (by rw [← e]; exact q.2) _ _ _ _ _ _ _ _ _ rfl q.1) (h1 a1 a2 a3 a4 a5 a6 a7 a8 s hI)
  exact key _ a1 a2 a3 a4 a5 a6 a7 a8 s rfl h0
def w_241_58 (T : Nat → List Value → yS → (Option Value → yS → Prop) → Prop)  (a1 : Int32) (a2 : Int32) (a3 : Int32) (a4 : Int32) (a5 : Int32) (a6 : Int32) (a7 : Int32) (a8 : Int32) (t0 : Int32) (s : yS) (P : Option Value → yS → Prop) : Prop :=
  (¬ (t0.toInt = 0) → w_241_106 T  a1 a2 a3 t0 a5 a6 a7 a8  s P) ∧ (t0.toInt = 0 → (0 ≤ (s.1 98).toInt ∧ (s.1 98).toInt < 5100) ∧ (∀ s1, s1 = sa s 275 (s.1 98).toInt.toNat a5 → (0 ≤ (s1.1 98).toInt ∧ (s1.1 98).toInt < 5100) ∧ (∀ s2, s2 = sa s1 276 (s1.1 98).toInt.toNat a6 → wl_241_75 T  a1 a2 a3 t0 a5 a6 a7 a7  s2 P)))
set_option maxRecDepth 20000 in
theorem k_241_58 {d : Nat}  {a1 : Int32} {a2 : Int32} {a3 : Int32} {a4 : Int32} {a5 : Int32} {a6 : Int32} {a7 : Int32} {a8 : Int32} {t0 : Int32} {s : yS} {P : Option Value → yS → Prop}  (h : w_241_58 (Tot d)  a1 a2 a3 a4 a5 a6 a7 a8 t0 s P) : Go d 9 (some .int) xE_241 (xE_241.drop 58) [.ref 213, .int a1, .int a2, .int a3, .int a4, .int a5, .int a6, .int a7, .int a8, .null, .null, .null, .null] [.int t0] s P := by
  unfold w_241_58 at h
  refine g_st [.ref 213, .int a1, .int a2, .int a3, .int t0, .int a5, .int a6, .int a7, .int a8, .null, .null, .null, .null] rfl rfl rfl ?_
  refine g_ld rfl rfl rfl ?_
  refine g_brN rfl rfl ⟨fun hc => ?_, fun hc => ?_⟩
  · replace h := h.1 (fun q => hc ((i_eq (x := t0) (y := 0) rfl (show (0 : Int32).toInt = 0 by decide)).mpr q))
    exact k_241_106  h
  · replace h := h.2 ((i_eq (x := t0) (y := 0) rfl (show (0 : Int32).toInt = 0 by decide)).mp hc)
    refine g_ld rfl rfl rfl ?_
    refine g_get rfl rfl ?_
    change Go _ _ _ _ _ _ [.ref 275] _ _
    refine g_ld rfl rfl rfl ?_
    refine g_get rfl rfl ?_
    change Go _ _ _ _ _ _ [.int (s.1 98), .ref 275] _ _
    refine g_ld rfl rfl rfl ?_
    refine g_ias rfl rfl (i_in (x := s.1 98) rfl h.1) ?_
    replace h := h.2
    replace h := h _ rfl
    refine g_ld rfl rfl rfl ?_
    refine g_get rfl rfl ?_
    change Go _ _ _ _ _ _ [.ref 276] _ _
    refine g_ld rfl rfl rfl ?_
    refine g_get rfl rfl ?_
    change Go _ _ _ _ _ _ [.int ((sa s 275 (s.1 98).toInt.toNat a5).1 98), .ref 276] _ _
    refine g_ld rfl rfl rfl ?_
    refine g_ias rfl rfl (i_in (x := (sa s 275 (s.1 98).toInt.toNat a5).1 98) rfl h.1) ?_
    replace h := h.2
    replace h := h _ rfl
    refine g_ld rfl rfl rfl ?_
    refine g_st [.ref 213, .int a1, .int a2, .int a3, .int t0, .int a5, .int a6, .int a7, .int a7, .null, .null, .null, .null] rfl rfl rfl ?_
    exact kl_241_75  h
def w_241_51 (T : Nat → List Value → yS → (Option Value → yS → Prop) → Prop)  (a1 : Int32) (a2 : Int32) (a3 : Int32) (a4 : Int32) (a5 : Int32) (a6 : Int32) (a7 : Int32) (a8 : Int32) (s : yS) (P : Option Value → yS → Prop) : Prop :=
  (¬ (a4.toInt = 0) → w_241_58 T  a1 a2 a3 a4 a5 a6 a7 a8 a4 s P) ∧ (a4.toInt = 0 → T 237 [.ref 213, .int 1] s (fun v2 s1 => ∃ x3, v2 = some (.int x3) ∧ (w_241_58 T  a1 a2 a3 a4 a5 a6 a7 a8 x3 s1 P)))
set_option maxRecDepth 20000 in
theorem k_241_51 {d : Nat}  {a1 : Int32} {a2 : Int32} {a3 : Int32} {a4 : Int32} {a5 : Int32} {a6 : Int32} {a7 : Int32} {a8 : Int32} {s : yS} {P : Option Value → yS → Prop}  (h : w_241_51 (Tot d)  a1 a2 a3 a4 a5 a6 a7 a8 s P) : Go d 9 (some .int) xE_241 (xE_241.drop 51) [.ref 213, .int a1, .int a2, .int a3, .int a4, .int a5, .int a6, .int a7, .int a8, .null, .null, .null, .null] [] s P := by
  unfold w_241_51 at h
  refine g_ld rfl rfl rfl ?_
  refine g_brN rfl rfl ⟨fun hc => ?_, fun hc => ?_⟩
  · replace h := h.1 (fun q => hc ((i_eq (x := a4) (y := 0) rfl (show (0 : Int32).toInt = 0 by decide)).mpr q))
    refine g_ld rfl rfl rfl ?_
    exact k_241_58  h
  · replace h := h.2 ((i_eq (x := a4) (y := 0) rfl (show (0 : Int32).toInt = 0 by decide)).mp hc)
    refine g_ld rfl rfl rfl ?_
    refine g_c [.int 1, .ref 213] (xo_push (.int 1)) rfl rfl ?_
    refine g_call [.ref 213, .int 1] [] rfl rfl rfl (Tot.imp h (fun v2 s1 h => ?_))
    obtain ⟨x3, rfl, h⟩ := h
    change Go _ _ _ _ _ _ [.int x3] _ _
    refine g_go rfl ?_
    exact k_241_58  h
def w_241_22 (T : Nat → List Value → yS → (Option Value → yS → Prop) → Prop) (R22 : Int32 → Int32 → Int32 → Int32 → Int32 → Int32 → Int32 → Int32 → yS → Prop) (a1 : Int32) (a2 : Int32) (a3 : Int32) (a4 : Int32) (a5 : Int32) (a6 : Int32) (a7 : Int32) (a8 : Int32) (s : yS) (P : Option Value → yS → Prop) : Prop :=
  (a8.toInt < 0 → w_241_51 T  a1 a2 a3 a4 a5 a6 a7 a8  s P) ∧ (¬ (a8.toInt < 0) → (¬ (a4.toInt = 0) → w_241_51 T  a1 a2 a3 a4 a5 a6 a7 a8  s P) ∧ (a4.toInt = 0 → T 240 [.ref 213, .int a8, .int a2, .int a3] s (fun v2 s1 => ∃ x3, v2 = some (.int x3) ∧ ((0 ≤ (s1.1 105).toInt ∧ (s1.1 105).toInt < 4000) ∧ (∀ s4, s4 = sa s1 278 (s1.1 105).toInt.toNat (s1.1 102) → (-2147483648 ≤ (s4.1 105).toInt + 1 ∧ (s4.1 105).toInt + 1 ≤ 2147483647) ∧ (∀ x5 : Int32, x5.toInt = (s4.1 105).toInt + 1 → ∀ s6, s6 = sf s4 105 x5 → (0 ≤ a8.toInt ∧ a8.toInt < 12006) ∧ (R22 a1 a2 a3 x3 a5 a6 a7 (s6.2.1 225 a8.toInt.toNat)  s6)))))))
set_option maxRecDepth 20000 in
theorem k_241_22 {d : Nat} {R22 : Int32 → Int32 → Int32 → Int32 → Int32 → Int32 → Int32 → Int32 → yS → Prop} {a1 : Int32} {a2 : Int32} {a3 : Int32} {a4 : Int32} {a5 : Int32} {a6 : Int32} {a7 : Int32} {a8 : Int32} {s : yS} {P : Option Value → yS → Prop} (r22 : ∀ a1 a2 a3 a4 a5 a6 a7 a8 s, R22 a1 a2 a3 a4 a5 a6 a7 a8 s → Go d 9 (some .int) xE_241 (xE_241.drop 22) [.ref 213, .int a1, .int a2, .int a3, .int a4, .int a5, .int a6, .int a7, .int a8, .null, .null, .null, .null] [] s P) (h : w_241_22 (Tot d) R22 a1 a2 a3 a4 a5 a6 a7 a8 s P) : Go d 9 (some .int) xE_241 (xE_241.drop 22) [.ref 213, .int a1, .int a2, .int a3, .int a4, .int a5, .int a6, .int a7, .int a8, .null, .null, .null, .null] [] s P := by
  unfold w_241_22 at h
  refine g_ld rfl rfl rfl ?_
  refine g_brP rfl rfl ⟨fun hc => ?_, fun hc => ?_⟩
  · replace h := h.1 ((i_lt (x := a8) (y := 0) rfl (show (0 : Int32).toInt = 0 by decide)).mp hc)
    exact k_241_51  h
  · replace h := h.2 (fun q => hc ((i_lt (x := a8) (y := 0) rfl (show (0 : Int32).toInt = 0 by decide)).mpr q))
    refine g_ld rfl rfl rfl ?_
    refine g_brN rfl rfl ⟨fun hc => ?_, fun hc => ?_⟩
    · replace h := h.1 (fun q => hc ((i_eq (x := a4) (y := 0) rfl (show (0 : Int32).toInt = 0 by decide)).mpr q))
      exact k_241_51  h
    · replace h := h.2 ((i_eq (x := a4) (y := 0) rfl (show (0 : Int32).toInt = 0 by decide)).mp hc)
      refine g_ld rfl rfl rfl ?_
      refine g_ld rfl rfl rfl ?_
      refine g_ld rfl rfl rfl ?_
      refine g_ld rfl rfl rfl ?_
      refine g_call [.ref 213, .int a8, .int a2, .int a3] [] rfl rfl rfl (Tot.imp h (fun v2 s1 h => ?_))
      obtain ⟨x3, rfl, h⟩ := h
      change Go _ _ _ _ _ _ [.int x3] _ _
      refine g_st [.ref 213, .int a1, .int a2, .int a3, .int x3, .int a5, .int a6, .int a7, .int a8, .null, .null, .null, .null] rfl rfl rfl ?_
      refine g_ld rfl rfl rfl ?_
      refine g_get rfl rfl ?_
      change Go _ _ _ _ _ _ [.ref 278] _ _
      refine g_ld rfl rfl rfl ?_
      refine g_get rfl rfl ?_
      change Go _ _ _ _ _ _ [.int (s1.1 105), .ref 278] _ _
      refine g_ld rfl rfl rfl ?_
      refine g_get rfl rfl ?_
      change Go _ _ _ _ _ _ [.int (s1.1 102), .int (s1.1 105), .ref 278] _ _
      refine g_ias rfl rfl (i_in (x := s1.1 105) rfl h.1) ?_
      replace h := h.2
      replace h := h _ rfl
      refine g_ld rfl rfl rfl ?_
      refine g_c [.ref 213, .ref 213] xo_dup rfl rfl ?_
      refine g_get rfl rfl ?_
      change Go _ _ _ _ _ _ [.int ((sa s1 278 (s1.1 105).toInt.toNat (s1.1 102)).1 105), .ref 213] _ _
      refine g_c [.int 1, .int ((sa s1 278 (s1.1 105).toInt.toNat (s1.1 102)).1 105), .ref 213] (xo_push (.int 1)) rfl rfl ?_
      have ex5 := i_add (x := (sa s1 278 (s1.1 105).toInt.toNat (s1.1 102)).1 105) (y := 1) rfl (show (1 : Int32).toInt = 1 by decide) h.1
      have cx5 := ck_add (x := (sa s1 278 (s1.1 105).toInt.toNat (s1.1 102)).1 105) (y := 1) rfl (show (1 : Int32).toInt = 1 by decide) h.1
      replace h := h.2 _ ex5
      refine g_ca [.int (((sa s1 278 (s1.1 105).toInt.toNat (s1.1 102)).1 105) + 1), .ref 213] xo_iadd rfl rfl (fun _ => cx5) ?_
      refine g_put rfl rfl rfl ?_
      replace h := h _ rfl
      refine g_ld rfl rfl rfl ?_
      refine g_get rfl rfl ?_
      change Go _ _ _ _ _ _ [.ref 225] _ _
      refine g_ld rfl rfl rfl ?_
      refine g_ial rfl rfl (i_in (x := a8) rfl h.1) ?_
      change Go _ _ _ _ _ _ [.int ((sf (sa s1 278 (s1.1 105).toInt.toNat (s1.1 102)) 105 (((sa s1 278 (s1.1 105).toInt.toNat (s1.1 102)).1 105) + 1)).2.1 225 a8.toInt.toNat)] _ _
      replace h := h.2
      refine g_st [.ref 213, .int a1, .int a2, .int a3, .int x3, .int a5, .int a6, .int a7, .int ((sf (sa s1 278 (s1.1 105).toInt.toNat (s1.1 102)) 105 (((sa s1 278 (s1.1 105).toInt.toNat (s1.1 102)).1 105) + 1)).2.1 225 a8.toInt.toNat), .null, .null, .null, .null] rfl rfl rfl ?_
      refine g_go rfl ?_
      exact r22 a1 a2 a3 x3 a5 a6 a7 ((sf (sa s1 278 (s1.1 105).toInt.toNat (s1.1 102)) 105 (((sa s1 278 (s1.1 105).toInt.toNat (s1.1 102)).1 105) + 1)).2.1 225 a8.toInt.toNat)  (sf (sa s1 278 (s1.1 105).toInt.toNat (s1.1 102)) 105 (((sa s1 278 (s1.1 105).toInt.toNat (s1.1 102)).1 105) + 1)) h
def wl_241_22 (T : Nat → List Value → yS → (Option Value → yS → Prop) → Prop)  (a1 : Int32) (a2 : Int32) (a3 : Int32) (a4 : Int32) (a5 : Int32) (a6 : Int32) (a7 : Int32) (a8 : Int32) (s : yS) (P : Option Value → yS → Prop) : Prop :=
  ∃ (I : Int32 → Int32 → Int32 → Int32 → Int32 → Int32 → Int32 → Int32 → yS → Prop) (μ : Int32 → Int32 → Int32 → Int32 → Int32 → Int32 → Int32 → Int32 → yS → Nat), I a1 a2 a3 a4 a5 a6 a7 a8 s ∧ ∀ (a1 : Int32) (a2 : Int32) (a3 : Int32) (a4 : Int32) (a5 : Int32) (a6 : Int32) (a7 : Int32) (a8 : Int32) (s : yS), I a1 a2 a3 a4 a5 a6 a7 a8 s → w_241_22 T (fun a1' a2' a3' a4' a5' a6' a7' a8' s' => I a1' a2' a3' a4' a5' a6' a7' a8' s' ∧ μ a1' a2' a3' a4' a5' a6' a7' a8' s' < μ a1 a2 a3 a4 a5 a6 a7 a8 s) a1 a2 a3 a4 a5 a6 a7 a8 s P
theorem kl_241_22 {d : Nat}  {a1 : Int32} {a2 : Int32} {a3 : Int32} {a4 : Int32} {a5 : Int32} {a6 : Int32} {a7 : Int32} {a8 : Int32} {s : yS} {P : Option Value → yS → Prop}  (h : wl_241_22 (Tot d)  a1 a2 a3 a4 a5 a6 a7 a8 s P) : Go d 9 (some .int) xE_241 (xE_241.drop 22) [.ref 213, .int a1, .int a2, .int a3, .int a4, .int a5, .int a6, .int a7, .int a8, .null, .null, .null, .null] [] s P := by
  obtain ⟨I, μ, h0, h1⟩ := h
  have key : ∀ (n : Nat) (a1 : Int32) (a2 : Int32) (a3 : Int32) (a4 : Int32) (a5 : Int32) (a6 : Int32) (a7 : Int32) (a8 : Int32) (s : yS), μ a1 a2 a3 a4 a5 a6 a7 a8 s = n → I a1 a2 a3 a4 a5 a6 a7 a8 s → Go d 9 (some .int) xE_241 (xE_241.drop 22) [.ref 213, .int a1, .int a2, .int a3, .int a4, .int a5, .int a6, .int a7, .int a8, .null, .null, .null, .null] [] s P := by
    intro n
    induction n using Nat.strongRecOn with
    | ind n ih =>
      intro a1 a2 a3 a4 a5 a6 a7 a8 s e hI
      exact k_241_22 (fun a1' a2' a3' a4' a5' a6' a7' a8' s' q => ih _ (by rw [← e]; exact q.2) _ _ _ _ _ _ _ _ _ rfl q.1) (h1 a1 a2 a3 a4 a5 a6 a7 a8 s hI)
  exact key _ a1 a2 a3 a4 a5 a6 a7 a8 s rfl h0
def w_241_0 (T : Nat → List Value → yS → (Option Value → yS → Prop) → Prop)  (a1 : Int32) (a2 : Int32) (a3 : Int32) (s : yS) (P : Option Value → yS → Prop) : Prop :=
  (0 ≤ a1.toInt ∧ a1.toInt < 12006) ∧ (T 239 [.ref 213, .int (s.2.1 229 a1.toInt.toNat), .int a3] s (fun v2 s1 => ∃ x3, v2 = some (.int x3) ∧ ((0 ≤ a1.toInt ∧ a1.toInt < 12006) ∧ (wl_241_22 T  a1 a2 a3 x3 (s1.1 107) (s1.1 108) (s1.1 105) (s1.2.1 224 a1.toInt.toNat)  s1 P))))
set_option maxRecDepth 20000 in
theorem k_241_0 {d : Nat}  {a1 : Int32} {a2 : Int32} {a3 : Int32} {s : yS} {P : Option Value → yS → Prop}  (h : w_241_0 (Tot d)  a1 a2 a3 s P) : Go d 9 (some .int) xE_241 (xE_241.drop 0) [.ref 213, .int a1, .int a2, .int a3, .null, .null, .null, .null, .null, .null, .null, .null, .null] [] s P := by
  unfold w_241_0 at h
  refine g_ld rfl rfl rfl ?_
  refine g_ld rfl rfl rfl ?_
  refine g_get rfl rfl ?_
  change Go _ _ _ _ _ _ [.ref 229, .ref 213] _ _
  refine g_ld rfl rfl rfl ?_
  refine g_ial rfl rfl (i_in (x := a1) rfl h.1) ?_
  change Go _ _ _ _ _ _ [.int (s.2.1 229 a1.toInt.toNat), .ref 213] _ _
  replace h := h.2
  refine g_ld rfl rfl rfl ?_
  refine g_call [.ref 213, .int (s.2.1 229 a1.toInt.toNat), .int a3] [] rfl rfl rfl (Tot.imp h (fun v2 s1 h => ?_))
  obtain ⟨x3, rfl, h⟩ := h
  change Go _ _ _ _ _ _ [.int x3] _ _
  refine g_st [.ref 213, .int a1, .int a2, .int a3, .int x3, .null, .null, .null, .null, .null, .null, .null, .null] rfl rfl rfl ?_
  refine g_ld rfl rfl rfl ?_
  refine g_get rfl rfl ?_
  change Go _ _ _ _ _ _ [.int (s1.1 107)] _ _
  refine g_st [.ref 213, .int a1, .int a2, .int a3, .int x3, .int (s1.1 107), .null, .null, .null, .null, .null, .null, .null] rfl rfl rfl ?_
  refine g_ld rfl rfl rfl ?_
  refine g_get rfl rfl ?_
  change Go _ _ _ _ _ _ [.int (s1.1 108)] _ _
  refine g_st [.ref 213, .int a1, .int a2, .int a3, .int x3, .int (s1.1 107), .int (s1.1 108), .null, .null, .null, .null, .null, .null] rfl rfl rfl ?_
  refine g_ld rfl rfl rfl ?_
  refine g_get rfl rfl ?_
  change Go _ _ _ _ _ _ [.int (s1.1 105)] _ _
  refine g_st [.ref 213, .int a1, .int a2, .int a3, .int x3, .int (s1.1 107), .int (s1.1 108), .int (s1.1 105), .null, .null, .null, .null, .null] rfl rfl rfl ?_
  refine g_ld rfl rfl rfl ?_
  refine g_get rfl rfl ?_
  change Go _ _ _ _ _ _ [.ref 224] _ _
  refine g_ld rfl rfl rfl ?_
  refine g_ial rfl rfl (i_in (x := a1) rfl h.1) ?_
  change Go _ _ _ _ _ _ [.int (s1.2.1 224 a1.toInt.toNat)] _ _
  replace h := h.2
  refine g_st [.ref 213, .int a1, .int a2, .int a3, .int x3, .int (s1.1 107), .int (s1.1 108), .int (s1.1 105), .int (s1.2.1 224 a1.toInt.toNat), .null, .null, .null, .null] rfl rfl rfl ?_
  exact kl_241_22  h
theorem t_241 {d : Nat} {a1 : Int32} {a2 : Int32} {a3 : Int32} {s : yS} {P : Option Value → yS → Prop} (h : w_241_0 (Tot d) a1 a2 a3 s P) : Tot (d + 1) 241 [.ref 213, .int a1, .int a2, .int a3] s P := tot_of (E := xE_241) (ml := 9) (ret := some .int) rfl rfl rfl (k_241_0 h)
/-! evalField -/
def w_242_20 (T : Nat → List Value → yS → (Option Value → yS → Prop) → Prop)  (a1 : Int32) (a2 : Int32) (s : yS) (P : Option Value → yS → Prop) : Prop :=
  P (some (.int a2)) s
set_option maxRecDepth 20000 in
theorem k_242_20 {d : Nat}  {a1 : Int32} {a2 : Int32} {s : yS} {P : Option Value → yS → Prop}  (h : w_242_20 (Tot d)  a1 a2 s P) : Go d 3 (some .int) xE_242 (xE_242.drop 20) [.ref 213, .int a1, .int a2, .null, .null] [] s P := by
  unfold w_242_20 at h
  refine g_ld rfl rfl rfl ?_
  exact g_retI rfl h
def w_242_0 (T : Nat → List Value → yS → (Option Value → yS → Prop) → Prop)  (a1 : Int32) (s : yS) (P : Option Value → yS → Prop) : Prop :=
  T 237 [.ref 213, .int 1] s (fun v2 s1 => ∃ x3, v2 = some (.int x3) ∧ ((¬ (x3.toInt = 0) → w_242_20 T  a1 x3  s1 P) ∧ (x3.toInt = 0 → (-2147483648 ≤ 6 * (s1.1 102).toInt ∧ 6 * (s1.1 102).toInt ≤ 2147483647) ∧ (∀ x4 : Int32, x4.toInt = 6 * (s1.1 102).toInt → (0 ≤ a1.toInt ∧ a1.toInt < 12006) ∧ ((-2147483648 ≤ x4.toInt + (s1.2.1 226 a1.toInt.toNat).toInt ∧ x4.toInt + (s1.2.1 226 a1.toInt.toNat).toInt ≤ 2147483647) ∧ (∀ x5 : Int32, x5.toInt = x4.toInt + (s1.2.1 226 a1.toInt.toNat).toInt → (0 ≤ x5.toInt ∧ x5.toInt < 30600) ∧ (∀ s6, s6 = sf s1 102 (s1.2.1 277 x5.toInt.toNat) → w_242_20 T  a1 x3  s6 P)))))))
set_option maxRecDepth 20000 in
theorem k_242_0 {d : Nat}  {a1 : Int32} {s : yS} {P : Option Value → yS → Prop}  (h : w_242_0 (Tot d)  a1 s P) : Go d 3 (some .int) xE_242 (xE_242.drop 0) [.ref 213, .int a1, .null, .null, .null] [] s P := by
  unfold w_242_0 at h
  refine g_ld rfl rfl rfl ?_
  refine g_c [.int 1, .ref 213] (xo_push (.int 1)) rfl rfl ?_
  refine g_call [.ref 213, .int 1] [] rfl rfl rfl (Tot.imp h (fun v2 s1 h => ?_))
  obtain ⟨x3, rfl, h⟩ := h
  change Go _ _ _ _ _ _ [.int x3] _ _
  refine g_st [.ref 213, .int a1, .int x3, .null, .null] rfl rfl rfl ?_
  refine g_ld rfl rfl rfl ?_
  refine g_brN rfl rfl ⟨fun hc => ?_, fun hc => ?_⟩
  · replace h := h.1 (fun q => hc ((i_eq (x := x3) (y := 0) rfl (show (0 : Int32).toInt = 0 by decide)).mpr q))
    exact k_242_20  h
  · replace h := h.2 ((i_eq (x := x3) (y := 0) rfl (show (0 : Int32).toInt = 0 by decide)).mp hc)
    refine g_ld rfl rfl rfl ?_
    refine g_ld rfl rfl rfl ?_
    refine g_get rfl rfl ?_
    change Go _ _ _ _ _ _ [.ref 277, .ref 213] _ _
    refine g_c [.int 6, .ref 277, .ref 213] (xo_push (.int 6)) rfl rfl ?_
    refine g_ld rfl rfl rfl ?_
    refine g_get rfl rfl ?_
    change Go _ _ _ _ _ _ [.int (s1.1 102), .int 6, .ref 277, .ref 213] _ _
    have ex4 := i_mul (x := 6) (y := s1.1 102) (show (6 : Int32).toInt = 6 by decide) rfl h.1
    have cx4 := ck_mul (x := 6) (y := s1.1 102) (show (6 : Int32).toInt = 6 by decide) rfl h.1
    replace h := h.2 _ ex4
    refine g_ca [.int (6 * (s1.1 102)), .ref 277, .ref 213] xo_imul rfl rfl (fun _ => cx4) ?_
    refine g_ld rfl rfl rfl ?_
    refine g_get rfl rfl ?_
    change Go _ _ _ _ _ _ [.ref 226, .int (6 * (s1.1 102)), .ref 277, .ref 213] _ _
    refine g_ld rfl rfl rfl ?_
    refine g_ial rfl rfl (i_in (x := a1) rfl h.1) ?_
    change Go _ _ _ _ _ _ [.int (s1.2.1 226 a1.toInt.toNat), .int (6 * (s1.1 102)), .ref 277, .ref 213] _ _
    replace h := h.2
    have ex5 := i_add (x := (6 * (s1.1 102))) (y := s1.2.1 226 a1.toInt.toNat) rfl rfl h.1
    have cx5 := ck_add (x := (6 * (s1.1 102))) (y := s1.2.1 226 a1.toInt.toNat) rfl rfl h.1
    replace h := h.2 _ ex5
    refine g_ca [.int ((6 * (s1.1 102)) + (s1.2.1 226 a1.toInt.toNat)), .ref 277, .ref 213] xo_iadd rfl rfl (fun _ => cx5) ?_
    refine g_ial rfl rfl (i_in (x := ((6 * (s1.1 102)) + (s1.2.1 226 a1.toInt.toNat))) rfl h.1) ?_
    change Go _ _ _ _ _ _ [.int (s1.2.1 277 ((6 * (s1.1 102)) + (s1.2.1 226 a1.toInt.toNat)).toInt.toNat), .ref 213] _ _
    replace h := h.2
    refine g_put rfl rfl rfl ?_
    replace h := h _ rfl
    exact k_242_20  h
theorem t_242 {d : Nat} {a1 : Int32} {s : yS} {P : Option Value → yS → Prop} (h : w_242_0 (Tot d) a1 s P) : Tot (d + 1) 242 [.ref 213, .int a1] s P := tot_of (E := xE_242) (ml := 3) (ret := some .int) rfl rfl rfl (k_242_0 h)
/-! evalAssert -/
def w_243_60 (T : Nat → List Value → yS → (Option Value → yS → Prop) → Prop)  (a1 : Int32) (a2 : Int32) (a3 : Int32) (a4 : Int32) (a5 : Int32) (s : yS) (P : Option Value → yS → Prop) : Prop :=
  P (some (.int a4)) s
set_option maxRecDepth 20000 in
theorem k_243_60 {d : Nat}  {a1 : Int32} {a2 : Int32} {a3 : Int32} {a4 : Int32} {a5 : Int32} {s : yS} {P : Option Value → yS → Prop}  (h : w_243_60 (Tot d)  a1 a2 a3 a4 a5 s P) : Go d 6 (some .int) xE_243 (xE_243.drop 60) [.ref 213, .int a1, .int a2, .int a3, .int a4, .int a5, .null, .null, .null] [] s P := by
  unfold w_243_60 at h
  refine g_ld rfl rfl rfl ?_
  exact g_retI rfl h
def w_243_0 (T : Nat → List Value → yS → (Option Value → yS → Prop) → Prop)  (a1 : Int32) (a2 : Int32) (s : yS) (P : Option Value → yS → Prop) : Prop :=
  (0 ≤ a1.toInt ∧ a1.toInt < 12006) ∧ (T 239 [.ref 213, .int (s.2.1 229 a1.toInt.toNat), .int a2] s (fun v2 s1 => ∃ x3, v2 = some (.int x3) ∧ ((x3.toInt ≤ 0 → ∀ s4, s4 = sf s1 64 100000 → (0 ≤ (s.1 102).toInt ∧ (s.1 102).toInt < 5100) ∧ ((0 ≤ (s.1 102).toInt ∧ (s.1 102).toInt < 5100) ∧ (T 195 [.ref 213, .int (s4.2.1 275 (s.1 102).toInt.toNat), .int (s4.2.1 276 (s.1 102).toInt.toNat), .int (s4.1 107), .int (s4.1 108)] s4 (fun v6 s5 => ∃ x7, v6 = some (.int x7) ∧ ((¬ (x7.toInt = 2) → T 237 [.ref 213, .int 1] s5 (fun v9 s8 => ∃ x10, v9 = some (.int x10) ∧ (∀ s11, s11 = sf s8 102 (s.1 102) → (¬ (x10.toInt = 0) → w_243_60 T  a1 a2 (s.1 102) x10 x7  s11 P) ∧ (x10.toInt = 0 → (¬ (x7.toInt = 0) → w_243_60 T  a1 a2 (s.1 102) x10 x7  s11 P) ∧ (x7.toInt = 0 → (0 ≤ a1.toInt ∧ a1.toInt < 12006) ∧ ((0 ≤ (s11.2.1 223 a1.toInt.toNat).toInt ∧ (s11.2.1 223 a1.toInt.toNat).toInt < 12006) ∧ (∀ s12, s12 = sf s11 92 (s11.2.1 216 (s11.2.1 223 a1.toInt.toNat).toInt.toNat) → P (some (.int 1)) s12))))))) ∧ (x7.toInt = 2 → P (some (.int 4)) s5)))))) ∧ (¬ (x3.toInt ≤ 0) → P (some (.int x3)) s1))))
set_option maxRecDepth 20000 in
theorem k_243_0 {d : Nat}  {a1 : Int32} {a2 : Int32} {s : yS} {P : Option Value → yS → Prop}  (h : w_243_0 (Tot d)  a1 a2 s P) : Go d 6 (some .int) xE_243 (xE_243.drop 0) [.ref 213, .int a1, .int a2, .null, .null, .null, .null, .null, .null] [] s P := by
  unfold w_243_0 at h
  refine g_ld rfl rfl rfl ?_
  refine g_get rfl rfl ?_
  change Go _ _ _ _ _ _ [.int (s.1 102)] _ _
  refine g_st [.ref 213, .int a1, .int a2, .int (s.1 102), .null, .null, .null, .null, .null] rfl rfl rfl ?_
  refine g_ld rfl rfl rfl ?_
  refine g_ld rfl rfl rfl ?_
  refine g_get rfl rfl ?_
  change Go _ _ _ _ _ _ [.ref 229, .ref 213] _ _
  refine g_ld rfl rfl rfl ?_
  refine g_ial rfl rfl (i_in (x := a1) rfl h.1) ?_
  change Go _ _ _ _ _ _ [.int (s.2.1 229 a1.toInt.toNat), .ref 213] _ _
  replace h := h.2
  refine g_ld rfl rfl rfl ?_
  refine g_call [.ref 213, .int (s.2.1 229 a1.toInt.toNat), .int a2] [] rfl rfl rfl (Tot.imp h (fun v2 s1 h => ?_))
  obtain ⟨x3, rfl, h⟩ := h
  change Go _ _ _ _ _ _ [.int x3] _ _
  refine g_st [.ref 213, .int a1, .int a2, .int (s.1 102), .int x3, .null, .null, .null, .null] rfl rfl rfl ?_
  refine g_ld rfl rfl rfl ?_
  refine g_brP rfl rfl ⟨fun hc => ?_, fun hc => ?_⟩
  · replace h := h.1 ((i_le (x := x3) (y := 0) rfl (show (0 : Int32).toInt = 0 by decide)).mp hc)
    refine g_ld rfl rfl rfl ?_
    refine g_c [.int 100000, .ref 213] (xo_push (.int 100000)) rfl rfl ?_
    refine g_put rfl rfl rfl ?_
    replace h := h _ rfl
    refine g_ld rfl rfl rfl ?_
    refine g_ld rfl rfl rfl ?_
    refine g_get rfl rfl ?_
    change Go _ _ _ _ _ _ [.ref 275, .ref 213] _ _
    refine g_ld rfl rfl rfl ?_
    refine g_ial rfl rfl (i_in (x := s.1 102) rfl h.1) ?_
    change Go _ _ _ _ _ _ [.int ((sf s1 64 100000).2.1 275 (s.1 102).toInt.toNat), .ref 213] _ _
    replace h := h.2
    refine g_ld rfl rfl rfl ?_
    refine g_get rfl rfl ?_
    change Go _ _ _ _ _ _ [.ref 276, .int ((sf s1 64 100000).2.1 275 (s.1 102).toInt.toNat), .ref 213] _ _
    refine g_ld rfl rfl rfl ?_
    refine g_ial rfl rfl (i_in (x := s.1 102) rfl h.1) ?_
    change Go _ _ _ _ _ _ [.int ((sf s1 64 100000).2.1 276 (s.1 102).toInt.toNat), .int ((sf s1 64 100000).2.1 275 (s.1 102).toInt.toNat), .ref 213] _ _
    replace h := h.2
    refine g_ld rfl rfl rfl ?_
    refine g_get rfl rfl ?_
    change Go _ _ _ _ _ _ [.int ((sf s1 64 100000).1 107), .int ((sf s1 64 100000).2.1 276 (s.1 102).toInt.toNat), .int ((sf s1 64 100000).2.1 275 (s.1 102).toInt.toNat), .ref 213] _ _
    refine g_ld rfl rfl rfl ?_
    refine g_get rfl rfl ?_
    change Go _ _ _ _ _ _ [.int ((sf s1 64 100000).1 108), .int ((sf s1 64 100000).1 107), .int ((sf s1 64 100000).2.1 276 (s.1 102).toInt.toNat), .int ((sf s1 64 100000).2.1 275 (s.1 102).toInt.toNat), .ref 213] _ _
    refine g_call [.ref 213, .int ((sf s1 64 100000).2.1 275 (s.1 102).toInt.toNat), .int ((sf s1 64 100000).2.1 276 (s.1 102).toInt.toNat), .int ((sf s1 64 100000).1 107), .int ((sf s1 64 100000).1 108)] [] rfl rfl rfl (Tot.imp h (fun v6 s5 h => ?_))
    obtain ⟨x7, rfl, h⟩ := h
    change Go _ _ _ _ _ _ [.int x7] _ _
    refine g_st [.ref 213, .int a1, .int a2, .int (s.1 102), .int x3, .int x7, .null, .null, .null] rfl rfl rfl ?_
    refine g_ld rfl rfl rfl ?_
    refine g_c [.int 2, .int x7] (xo_push (.int 2)) rfl rfl ?_
    refine g_brN rfl rfl ⟨fun hc => ?_, fun hc => ?_⟩
    · replace h := h.1 (fun q => hc ((i_eq (x := x7) (y := 2) rfl (show (2 : Int32).toInt = 2 by decide)).mpr q))
      refine g_ld rfl rfl rfl ?_
      refine g_c [.int 1, .ref 213] (xo_push (.int 1)) rfl rfl ?_
      refine g_call [.ref 213, .int 1] [] rfl rfl rfl (Tot.imp h (fun v9 s8 h => ?_))
      obtain ⟨x10, rfl, h⟩ := h
      change Go _ _ _ _ _ _ [.int x10] _ _
      refine g_st [.ref 213, .int a1, .int a2, .int (s.1 102), .int x10, .int x7, .null, .null, .null] rfl rfl rfl ?_
      refine g_ld rfl rfl rfl ?_
      refine g_ld rfl rfl rfl ?_
      refine g_put rfl rfl rfl ?_
      replace h := h _ rfl
      refine g_ld rfl rfl rfl ?_
      refine g_brN rfl rfl ⟨fun hc => ?_, fun hc => ?_⟩
      · replace h := h.1 (fun q => hc ((i_eq (x := x10) (y := 0) rfl (show (0 : Int32).toInt = 0 by decide)).mpr q))
        exact k_243_60  h
      · replace h := h.2 ((i_eq (x := x10) (y := 0) rfl (show (0 : Int32).toInt = 0 by decide)).mp hc)
        refine g_ld rfl rfl rfl ?_
        refine g_brN rfl rfl ⟨fun hc => ?_, fun hc => ?_⟩
        · replace h := h.1 (fun q => hc ((i_eq (x := x7) (y := 0) rfl (show (0 : Int32).toInt = 0 by decide)).mpr q))
          exact k_243_60  h
        · replace h := h.2 ((i_eq (x := x7) (y := 0) rfl (show (0 : Int32).toInt = 0 by decide)).mp hc)
          refine g_ld rfl rfl rfl ?_
          refine g_ld rfl rfl rfl ?_
          refine g_get rfl rfl ?_
          change Go _ _ _ _ _ _ [.ref 216, .ref 213] _ _
          refine g_ld rfl rfl rfl ?_
          refine g_get rfl rfl ?_
          change Go _ _ _ _ _ _ [.ref 223, .ref 216, .ref 213] _ _
          refine g_ld rfl rfl rfl ?_
          refine g_ial rfl rfl (i_in (x := a1) rfl h.1) ?_
          change Go _ _ _ _ _ _ [.int ((sf s8 102 (s.1 102)).2.1 223 a1.toInt.toNat), .ref 216, .ref 213] _ _
          replace h := h.2
          refine g_ial rfl rfl (i_in (x := (sf s8 102 (s.1 102)).2.1 223 a1.toInt.toNat) rfl h.1) ?_
          change Go _ _ _ _ _ _ [.int ((sf s8 102 (s.1 102)).2.1 216 ((sf s8 102 (s.1 102)).2.1 223 a1.toInt.toNat).toInt.toNat), .ref 213] _ _
          replace h := h.2
          refine g_put rfl rfl rfl ?_
          replace h := h _ rfl
          refine g_c [.int 1] (xo_push (.int 1)) rfl rfl ?_
          exact g_retI rfl h
    · replace h := h.2 ((i_eq (x := x7) (y := 2) rfl (show (2 : Int32).toInt = 2 by decide)).mp hc)
      refine g_c [.int 4] (xo_push (.int 4)) rfl rfl ?_
      exact g_retI rfl h
  · replace h := h.2 (fun q => hc ((i_le (x := x3) (y := 0) rfl (show (0 : Int32).toInt = 0 by decide)).mpr q))
    refine g_ld rfl rfl rfl ?_
    exact g_retI rfl h
theorem t_243 {d : Nat} {a1 : Int32} {a2 : Int32} {s : yS} {P : Option Value → yS → Prop} (h : w_243_0 (Tot d) a1 a2 s P) : Tot (d + 1) 243 [.ref 213, .int a1, .int a2] s P := tot_of (E := xE_243) (ml := 6) (ret := some .int) rfl rfl rfl (k_243_0 h)
/-! evalMethod -/
def w_244_139 (T : Nat → List Value → yS → (Option Value → yS → Prop) → Prop)  (a1 : Int32) (a2 : Int32) (a3 : Int32) (a4 : Int32) (a5 : Int32) (a6 : Int32) (a7 : Int32) (s : yS) (P : Option Value → yS → Prop) : Prop :=
  (-2147483648 ≤ (s.1 70).toInt - 1 ∧ (s.1 70).toInt - 1 ≤ 2147483647) ∧ (∀ x1 : Int32, x1.toInt = (s.1 70).toInt - 1 → ∀ s2, s2 = sf s 70 x1 → ∀ s3, s3 = sf s2 105 a4 → P (some (.int a5)) s3)
set_option maxRecDepth 20000 in
theorem k_244_139 {d : Nat}  {a1 : Int32} {a2 : Int32} {a3 : Int32} {a4 : Int32} {a5 : Int32} {a6 : Int32} {a7 : Int32} {s : yS} {P : Option Value → yS → Prop}  (h : w_244_139 (Tot d)  a1 a2 a3 a4 a5 a6 a7 s P) : Go d 9 (some .int) xE_244 (xE_244.drop 139) [.ref 213, .int a1, .int a2, .int a3, .int a4, .int a5, .int a6, .int a7, .null, .null, .null, .null, .null] [] s P := by
  unfold w_244_139 at h
  refine g_ld rfl rfl rfl ?_
  refine g_c [.ref 213, .ref 213] xo_dup rfl rfl ?_
  refine g_get rfl rfl ?_
  change Go _ _ _ _ _ _ [.int (s.1 70), .ref 213] _ _
  refine g_c [.int 1, .int (s.1 70), .ref 213] (xo_push (.int 1)) rfl rfl ?_
  have ex1 := i_sub (x := s.1 70) (y := 1) rfl (show (1 : Int32).toInt = 1 by decide) h.1
  have cx1 := ck_sub (x := s.1 70) (y := 1) rfl (show (1 : Int32).toInt = 1 by decide) h.1
  replace h := h.2 _ ex1
  refine g_ca [.int ((s.1 70) - 1), .ref 213] xo_isub rfl rfl (fun _ => cx1) ?_
  refine g_put rfl rfl rfl ?_
  replace h := h _ rfl
  refine g_ld rfl rfl rfl ?_
  refine g_ld rfl rfl rfl ?_
  refine g_put rfl rfl rfl ?_
  replace h := h _ rfl
  refine g_ld rfl rfl rfl ?_
  exact g_retI rfl h
def w_244_131 (T : Nat → List Value → yS → (Option Value → yS → Prop) → Prop)  (a1 : Int32) (a2 : Int32) (a3 : Int32) (a4 : Int32) (a5 : Int32) (a6 : Int32) (a7 : Int32) (s : yS) (P : Option Value → yS → Prop) : Prop :=
  (¬ (a5.toInt = 0) → w_244_139 T  a1 a2 a3 a4 a5 a6 a7  s P) ∧ (a5.toInt = 0 → T 245 [.ref 213, .int a1, .int a4, .int a6] s (fun v2 s1 => ∃ x3, v2 = some (.int x3) ∧ (w_244_139 T  a1 a2 a3 a4 x3 a6 a7  s1 P)))
set_option maxRecDepth 20000 in
theorem k_244_131 {d : Nat}  {a1 : Int32} {a2 : Int32} {a3 : Int32} {a4 : Int32} {a5 : Int32} {a6 : Int32} {a7 : Int32} {s : yS} {P : Option Value → yS → Prop}  (h : w_244_131 (Tot d)  a1 a2 a3 a4 a5 a6 a7 s P) : Go d 9 (some .int) xE_244 (xE_244.drop 131) [.ref 213, .int a1, .int a2, .int a3, .int a4, .int a5, .int a6, .int a7, .null, .null, .null, .null, .null] [] s P := by
  unfold w_244_131 at h
  refine g_ld rfl rfl rfl ?_
  refine g_brN rfl rfl ⟨fun hc => ?_, fun hc => ?_⟩
  · replace h := h.1 (fun q => hc ((i_eq (x := a5) (y := 0) rfl (show (0 : Int32).toInt = 0 by decide)).mpr q))
    exact k_244_139  h
  · replace h := h.2 ((i_eq (x := a5) (y := 0) rfl (show (0 : Int32).toInt = 0 by decide)).mp hc)
    refine g_ld rfl rfl rfl ?_
    refine g_ld rfl rfl rfl ?_
    refine g_ld rfl rfl rfl ?_
    refine g_ld rfl rfl rfl ?_
    refine g_call [.ref 213, .int a1, .int a4, .int a6] [] rfl rfl rfl (Tot.imp h (fun v2 s1 h => ?_))
    obtain ⟨x3, rfl, h⟩ := h
    change Go _ _ _ _ _ _ [.int x3] _ _
    refine g_st [.ref 213, .int a1, .int a2, .int a3, .int a4, .int x3, .int a6, .int a7, .null, .null, .null, .null, .null] rfl rfl rfl ?_
    exact k_244_139  h
def w_244_122 (T : Nat → List Value → yS → (Option Value → yS → Prop) → Prop)  (a1 : Int32) (a2 : Int32) (a3 : Int32) (a4 : Int32) (a5 : Int32) (a6 : Int32) (a7 : Int32) (t0 : Int32) (s : yS) (P : Option Value → yS → Prop) : Prop :=
  (¬ (t0.toInt = 0) → w_244_131 T  a1 a2 a3 a4 t0 a6 a7  s P) ∧ (t0.toInt = 0 → (¬ ((s.1 106).toInt = 40) → w_244_131 T  a1 a2 a3 a4 t0 a6 a7  s P) ∧ ((s.1 106).toInt = 40 → w_244_131 T  a1 a2 a3 a4 3 a6 a7  s P))
set_option maxRecDepth 20000 in
theorem k_244_122 {d : Nat}  {a1 : Int32} {a2 : Int32} {a3 : Int32} {a4 : Int32} {a5 : Int32} {a6 : Int32} {a7 : Int32} {t0 : Int32} {s : yS} {P : Option Value → yS → Prop}  (h : w_244_122 (Tot d)  a1 a2 a3 a4 a5 a6 a7 t0 s P) : Go d 9 (some .int) xE_244 (xE_244.drop 122) [.ref 213, .int a1, .int a2, .int a3, .int a4, .int a5, .int a6, .int a7, .null, .null, .null, .null, .null] [.int t0] s P := by
  unfold w_244_122 at h
  refine g_st [.ref 213, .int a1, .int a2, .int a3, .int a4, .int t0, .int a6, .int a7, .null, .null, .null, .null, .null] rfl rfl rfl ?_
  refine g_ld rfl rfl rfl ?_
  refine g_brN rfl rfl ⟨fun hc => ?_, fun hc => ?_⟩
  · replace h := h.1 (fun q => hc ((i_eq (x := t0) (y := 0) rfl (show (0 : Int32).toInt = 0 by decide)).mpr q))
    exact k_244_131  h
  · replace h := h.2 ((i_eq (x := t0) (y := 0) rfl (show (0 : Int32).toInt = 0 by decide)).mp hc)
    refine g_ld rfl rfl rfl ?_
    refine g_get rfl rfl ?_
    change Go _ _ _ _ _ _ [.int (s.1 106)] _ _
    refine g_c [.int 40, .int (s.1 106)] (xo_push (.int 40)) rfl rfl ?_
    refine g_brN rfl rfl ⟨fun hc => ?_, fun hc => ?_⟩
    · replace h := h.1 (fun q => hc ((i_eq (x := s.1 106) (y := 40) rfl (show (40 : Int32).toInt = 40 by decide)).mpr q))
      exact k_244_131  h
    · replace h := h.2 ((i_eq (x := s.1 106) (y := 40) rfl (show (40 : Int32).toInt = 40 by decide)).mp hc)
      refine g_c [.int 3] (xo_push (.int 3)) rfl rfl ?_
      refine g_st [.ref 213, .int a1, .int a2, .int a3, .int a4, .int 3, .int a6, .int a7, .null, .null, .null, .null, .null] rfl rfl rfl ?_
      exact k_244_131  h
def w_244_115 (T : Nat → List Value → yS → (Option Value → yS → Prop) → Prop)  (a1 : Int32) (a2 : Int32) (a3 : Int32) (a4 : Int32) (a5 : Int32) (a6 : Int32) (a7 : Int32) (s : yS) (P : Option Value → yS → Prop) : Prop :=
  (¬ (a5.toInt = 0) → w_244_122 T  a1 a2 a3 a4 a5 a6 a7 a5 s P) ∧ (a5.toInt = 0 → T 237 [.ref 213, .int 1] s (fun v2 s1 => ∃ x3, v2 = some (.int x3) ∧ (w_244_122 T  a1 a2 a3 a4 a5 a6 a7 x3 s1 P)))
set_option maxRecDepth 20000 in
theorem k_244_115 {d : Nat}  {a1 : Int32} {a2 : Int32} {a3 : Int32} {a4 : Int32} {a5 : Int32} {a6 : Int32} {a7 : Int32} {s : yS} {P : Option Value → yS → Prop}  (h : w_244_115 (Tot d)  a1 a2 a3 a4 a5 a6 a7 s P) : Go d 9 (some .int) xE_244 (xE_244.drop 115) [.ref 213, .int a1, .int a2, .int a3, .int a4, .int a5, .int a6, .int a7, .null, .null, .null, .null, .null] [] s P := by
  unfold w_244_115 at h
  refine g_ld rfl rfl rfl ?_
  refine g_brN rfl rfl ⟨fun hc => ?_, fun hc => ?_⟩
  · replace h := h.1 (fun q => hc ((i_eq (x := a5) (y := 0) rfl (show (0 : Int32).toInt = 0 by decide)).mpr q))
    refine g_ld rfl rfl rfl ?_
    exact k_244_122  h
  · replace h := h.2 ((i_eq (x := a5) (y := 0) rfl (show (0 : Int32).toInt = 0 by decide)).mp hc)
    refine g_ld rfl rfl rfl ?_
    refine g_c [.int 1, .ref 213] (xo_push (.int 1)) rfl rfl ?_
    refine g_call [.ref 213, .int 1] [] rfl rfl rfl (Tot.imp h (fun v2 s1 h => ?_))
    obtain ⟨x3, rfl, h⟩ := h
    change Go _ _ _ _ _ _ [.int x3] _ _
    refine g_go rfl ?_
    exact k_244_122  h
def w_244_60 (T : Nat → List Value → yS → (Option Value → yS → Prop) → Prop) (R60 : Int32 → Int32 → Int32 → Int32 → Int32 → Int32 → Int32 → yS → Prop) (a1 : Int32) (a2 : Int32) (a3 : Int32) (a4 : Int32) (a5 : Int32) (a6 : Int32) (a7 : Int32) (s : yS) (P : Option Value → yS → Prop) : Prop :=
  (a7.toInt < 0 → w_244_115 T  a1 a2 a3 a4 a5 a6 a7  s P) ∧ (¬ (a7.toInt < 0) → (¬ (a5.toInt = 0) → w_244_115 T  a1 a2 a3 a4 a5 a6 a7  s P) ∧ (a5.toInt = 0 → T 239 [.ref 213, .int a7, .int a3] s (fun v2 s1 => ∃ x3, v2 = some (.int x3) ∧ ((-2147483648 ≤ 2 * a6.toInt ∧ 2 * a6.toInt ≤ 2147483647) ∧ (∀ x4 : Int32, x4.toInt = 2 * a6.toInt → (-2147483648 ≤ x4.toInt + 1 ∧ x4.toInt + 1 ≤ 2147483647) ∧ (∀ x5 : Int32, x5.toInt = x4.toInt + 1 → (-2147483648 ≤ 6 * x5.toInt ∧ 6 * x5.toInt ≤ 2147483647) ∧ (∀ x6 : Int32, x6.toInt = 6 * x5.toInt → (0 ≤ x5.toInt ∧ x5.toInt < 600) ∧ ((-2147483648 ≤ x6.toInt + (s1.2.1 266 x5.toInt.toNat).toInt ∧ x6.toInt + (s1.2.1 266 x5.toInt.toNat).toInt ≤ 2147483647) ∧ (∀ x7 : Int32, x7.toInt = x6.toInt + (s1.2.1 266 x5.toInt.toNat).toInt → (0 ≤ x7.toInt ∧ x7.toInt < 3600) ∧ (∀ s8, s8 = sa s1 267 x7.toInt.toNat (s1.1 107) → (-2147483648 ≤ 6 * x5.toInt ∧ 6 * x5.toInt ≤ 2147483647) ∧ (∀ x9 : Int32, x9.toInt = 6 * x5.toInt → (0 ≤ x5.toInt ∧ x5.toInt < 600) ∧ ((-2147483648 ≤ x9.toInt + (s8.2.1 266 x5.toInt.toNat).toInt ∧ x9.toInt + (s8.2.1 266 x5.toInt.toNat).toInt ≤ 2147483647) ∧ (∀ x10 : Int32, x10.toInt = x9.toInt + (s8.2.1 266 x5.toInt.toNat).toInt → (0 ≤ x10.toInt ∧ x10.toInt < 3600) ∧ (∀ s11, s11 = sa s8 268 x10.toInt.toNat (s8.1 108) → (0 ≤ x5.toInt ∧ x5.toInt < 600) ∧ ((-2147483648 ≤ (s11.2.1 266 x5.toInt.toNat).toInt + 1 ∧ (s11.2.1 266 x5.toInt.toNat).toInt + 1 ≤ 2147483647) ∧ (∀ x12 : Int32, x12.toInt = (s11.2.1 266 x5.toInt.toNat).toInt + 1 → (0 ≤ x5.toInt ∧ x5.toInt < 600) ∧ (∀ s13, s13 = sa s11 266 x5.toInt.toNat x12 → (0 ≤ a7.toInt ∧ a7.toInt < 12006) ∧ (R60 a1 a2 a3 a4 x3 a6 (s13.2.1 225 a7.toInt.toNat)  s13))))))))))))))))))
set_option maxRecDepth 20000 in
theorem k_244_60 {d : Nat} {R60 : Int32 → Int32 → Int32 → Int32 → Int32 → Int32 → Int32 → yS → Prop} {a1 : Int32} {a2 : Int32} {a3 : Int32} {a4 : Int32} {a5 : Int32} {a6 : Int32} {a7 : Int32} {s : yS} {P : Option Value → yS → Prop} (r60 : ∀ a1 a2 a3 a4 a5 a6 a7 s, R60 a1 a2 a3 a4 a5 a6 a7 s → Go d 9 (some .int) xE_244 (xE_244.drop 60) [.ref 213, .int a1, .int a2, .int a3, .int a4, .int a5, .int a6, .int a7, .null, .null, .null, .null, .null] [] s P) (h : w_244_60 (Tot d) R60 a1 a2 a3 a4 a5 a6 a7 s P) : Go d 9 (some .int) xE_244 (xE_244.drop 60) [.ref 213, .int a1, .int a2, .int a3, .int a4, .int a5, .int a6, .int a7, .null, .null, .null, .null, .null] [] s P := by
  unfold w_244_60 at h
  refine g_ld rfl rfl rfl ?_
  refine g_brP rfl rfl ⟨fun hc => ?_, fun hc => ?_⟩
  · replace h := h.1 ((i_lt (x := a7) (y := 0) rfl (show (0 : Int32).toInt = 0 by decide)).mp hc)
    exact k_244_115  h
  · replace h := h.2 (fun q => hc ((i_lt (x := a7) (y := 0) rfl (show (0 : Int32).toInt = 0 by decide)).mpr q))
    refine g_ld rfl rfl rfl ?_
    refine g_brN rfl rfl ⟨fun hc => ?_, fun hc => ?_⟩
    · replace h := h.1 (fun q => hc ((i_eq (x := a5) (y := 0) rfl (show (0 : Int32).toInt = 0 by decide)).mpr q))
      exact k_244_115  h
    · replace h := h.2 ((i_eq (x := a5) (y := 0) rfl (show (0 : Int32).toInt = 0 by decide)).mp hc)
      refine g_ld rfl rfl rfl ?_
      refine g_ld rfl rfl rfl ?_
      refine g_ld rfl rfl rfl ?_
      refine g_call [.ref 213, .int a7, .int a3] [] rfl rfl rfl (Tot.imp h (fun v2 s1 h => ?_))
      obtain ⟨x3, rfl, h⟩ := h
      change Go _ _ _ _ _ _ [.int x3] _ _
      refine g_st [.ref 213, .int a1, .int a2, .int a3, .int a4, .int x3, .int a6, .int a7, .null, .null, .null, .null, .null] rfl rfl rfl ?_
      refine g_c [.int 2] (xo_push (.int 2)) rfl rfl ?_
      refine g_ld rfl rfl rfl ?_
      have ex4 := i_mul (x := 2) (y := a6) (show (2 : Int32).toInt = 2 by decide) rfl h.1
      have cx4 := ck_mul (x := 2) (y := a6) (show (2 : Int32).toInt = 2 by decide) rfl h.1
      replace h := h.2 _ ex4
      refine g_ca [.int (2 * a6)] xo_imul rfl rfl (fun _ => cx4) ?_
      refine g_c [.int 1, .int (2 * a6)] (xo_push (.int 1)) rfl rfl ?_
      have ex5 := i_add (x := (2 * a6)) (y := 1) rfl (show (1 : Int32).toInt = 1 by decide) h.1
      have cx5 := ck_add (x := (2 * a6)) (y := 1) rfl (show (1 : Int32).toInt = 1 by decide) h.1
      replace h := h.2 _ ex5
      refine g_ca [.int ((2 * a6) + 1)] xo_iadd rfl rfl (fun _ => cx5) ?_
      refine g_st [.ref 213, .int a1, .int a2, .int a3, .int a4, .int x3, .int a6, .int a7, .int ((2 * a6) + 1), .null, .null, .null, .null] rfl rfl rfl ?_
      refine g_ld rfl rfl rfl ?_
      refine g_get rfl rfl ?_
      change Go _ _ _ _ _ _ [.ref 267] _ _
      refine g_c [.int 6, .ref 267] (xo_push (.int 6)) rfl rfl ?_
      refine g_ld rfl rfl rfl ?_
      have ex6 := i_mul (x := 6) (y := ((2 * a6) + 1)) (show (6 : Int32).toInt = 6 by decide) rfl h.1
      have cx6 := ck_mul (x := 6) (y := ((2 * a6) + 1)) (show (6 : Int32).toInt = 6 by decide) rfl h.1
      replace h := h.2 _ ex6
      refine g_ca [.int (6 * ((2 * a6) + 1)), .ref 267] xo_imul rfl rfl (fun _ => cx6) ?_
      refine g_ld rfl rfl rfl ?_
      refine g_get rfl rfl ?_
      change Go _ _ _ _ _ _ [.ref 266, .int (6 * ((2 * a6) + 1)), .ref 267] _ _
      refine g_ld rfl rfl rfl ?_
      refine g_ial rfl rfl (i_in (x := ((2 * a6) + 1)) rfl h.1) ?_
      change Go _ _ _ _ _ _ [.int (s1.2.1 266 ((2 * a6) + 1).toInt.toNat), .int (6 * ((2 * a6) + 1)), .ref 267] _ _
      replace h := h.2
      have ex7 := i_add (x := (6 * ((2 * a6) + 1))) (y := s1.2.1 266 ((2 * a6) + 1).toInt.toNat) rfl rfl h.1
      have cx7 := ck_add (x := (6 * ((2 * a6) + 1))) (y := s1.2.1 266 ((2 * a6) + 1).toInt.toNat) rfl rfl h.1
      replace h := h.2 _ ex7
      refine g_ca [.int ((6 * ((2 * a6) + 1)) + (s1.2.1 266 ((2 * a6) + 1).toInt.toNat)), .ref 267] xo_iadd rfl rfl (fun _ => cx7) ?_
      refine g_ld rfl rfl rfl ?_
      refine g_get rfl rfl ?_
      change Go _ _ _ _ _ _ [.int (s1.1 107), .int ((6 * ((2 * a6) + 1)) + (s1.2.1 266 ((2 * a6) + 1).toInt.toNat)), .ref 267] _ _
      refine g_ias rfl rfl (i_in (x := ((6 * ((2 * a6) + 1)) + (s1.2.1 266 ((2 * a6) + 1).toInt.toNat))) rfl h.1) ?_
      replace h := h.2
      replace h := h _ rfl
      refine g_ld rfl rfl rfl ?_
      refine g_get rfl rfl ?_
      change Go _ _ _ _ _ _ [.ref 268] _ _
      refine g_c [.int 6, .ref 268] (xo_push (.int 6)) rfl rfl ?_
      refine g_ld rfl rfl rfl ?_
      have ex9 := i_mul (x := 6) (y := ((2 * a6) + 1)) (show (6 : Int32).toInt = 6 by decide) rfl h.1
      have cx9 := ck_mul (x := 6) (y := ((2 * a6) + 1)) (show (6 : Int32).toInt = 6 by decide) rfl h.1
      replace h := h.2 _ ex9
      refine g_ca [.int (6 * ((2 * a6) + 1)), .ref 268] xo_imul rfl rfl (fun _ => cx9) ?_
      refine g_ld rfl rfl rfl ?_
      refine g_get rfl rfl ?_
      change Go _ _ _ _ _ _ [.ref 266, .int (6 * ((2 * a6) + 1)), .ref 268] _ _
      refine g_ld rfl rfl rfl ?_
      refine g_ial rfl rfl (i_in (x := ((2 * a6) + 1)) rfl h.1) ?_
      change Go _ _ _ _ _ _ [.int ((sa s1 267 ((6 * ((2 * a6) + 1)) + (s1.2.1 266 ((2 * a6) + 1).toInt.toNat)).toInt.toNat (s1.1 107)).2.1 266 ((2 * a6) + 1).toInt.toNat), .int (6 * ((2 * a6) + 1)), .ref 268] _ _
      replace h := h.2
      have ex10 := i_add (x := (6 * ((2 * a6) + 1))) (y := (sa s1 267 ((6 * ((2 * a6) + 1)) + (s1.2.1 266 ((2 * a6) + 1).toInt.toNat)).toInt.toNat (s1.1 107)).2.1 266 ((2 * a6) + 1).toInt.toNat) rfl rfl h.1
      have cx10 := ck_add (x := (6 * ((2 * a6) + 1))) (y := (sa s1 267 ((6 * ((2 * a6) + 1)) + (s1.2.1 266 ((2 * a6) + 1).toInt.toNat)).toInt.toNat (s1.1 107)).2.1 266 ((2 * a6) + 1).toInt.toNat) rfl rfl h.1
      replace h := h.2 _ ex10
      refine g_ca [.int ((6 * ((2 * a6) + 1)) + ((sa s1 267 ((6 * ((2 * a6) + 1)) + (s1.2.1 266 ((2 * a6) + 1).toInt.toNat)).toInt.toNat (s1.1 107)).2.1 266 ((2 * a6) + 1).toInt.toNat)), .ref 268] xo_iadd rfl rfl (fun _ => cx10) ?_
      refine g_ld rfl rfl rfl ?_
      refine g_get rfl rfl ?_
      change Go _ _ _ _ _ _ [.int ((sa s1 267 ((6 * ((2 * a6) + 1)) + (s1.2.1 266 ((2 * a6) + 1).toInt.toNat)).toInt.toNat (s1.1 107)).1 108), .int ((6 * ((2 * a6) + 1)) + ((sa s1 267 ((6 * ((2 * a6) + 1)) + (s1.2.1 266 ((2 * a6) + 1).toInt.toNat)).toInt.toNat (s1.1 107)).2.1 266 ((2 * a6) + 1).toInt.toNat)), .ref 268] _ _
      refine g_ias rfl rfl (i_in (x := ((6 * ((2 * a6) + 1)) + ((sa s1 267 ((6 * ((2 * a6) + 1)) + (s1.2.1 266 ((2 * a6) + 1).toInt.toNat)).toInt.toNat (s1.1 107)).2.1 266 ((2 * a6) + 1).toInt.toNat))) rfl h.1) ?_
      replace h := h.2
      replace h := h _ rfl
      refine g_ld rfl rfl rfl ?_
      refine g_get rfl rfl ?_
      change Go _ _ _ _ _ _ [.ref 266] _ _
      refine g_ld rfl rfl rfl ?_
      refine g_c [.int ((2 * a6) + 1), .ref 266, .int ((2 * a6) + 1), .ref 266] xo_dup2 rfl rfl ?_
      refine g_ial rfl rfl (i_in (x := ((2 * a6) + 1)) rfl h.1) ?_
      change Go _ _ _ _ _ _ [.int ((sa (sa s1 267 ((6 * ((2 * a6) + 1)) + (s1.2.1 266 ((2 * a6) + 1).toInt.toNat)).toInt.toNat (s1.1 107)) 268 ((6 * ((2 * a6) + 1)) + ((sa s1 267 ((6 * ((2 * a6) + 1)) + (s1.2.1 266 ((2 * a6) + 1).toInt.toNat)).toInt.toNat (s1.1 107)).2.1 266 ((2 * a6) + 1).toInt.toNat)).toInt.toNat ((sa s1 267 ((6 * ((2 * a6) + 1)) + (s1.2.1 266 ((2 * a6) + 1).toInt.toNat)).toInt.toNat (s1.1 107)).1 108)).2.1 266 ((2 * a6) + 1).toInt.toNat), .int ((2 * a6) + 1), .ref 266] _ _
      replace h := h.2
      refine g_c [.int 1, .int ((sa (sa s1 267 ((6 * ((2 * a6) + 1)) + (s1.2.1 266 ((2 * a6) + 1).toInt.toNat)).toInt.toNat (s1.1 107)) 268 ((6 * ((2 * a6) + 1)) + ((sa s1 267 ((6 * ((2 * a6) + 1)) + (s1.2.1 266 ((2 * a6) + 1).toInt.toNat)).toInt.toNat (s1.1 107)).2.1 266 ((2 * a6) + 1).toInt.toNat)).toInt.toNat ((sa s1 267 ((6 * ((2 * a6) + 1)) + (s1.2.1 266 ((2 * a6) + 1).toInt.toNat)).toInt.toNat (s1.1 107)).1 108)).2.1 266 ((2 * a6) + 1).toInt.toNat), .int ((2 * a6) + 1), .ref 266] (xo_push (.int 1)) rfl rfl ?_
      have ex12 := i_add (x := (sa (sa s1 267 ((6 * ((2 * a6) + 1)) + (s1.2.1 266 ((2 * a6) + 1).toInt.toNat)).toInt.toNat (s1.1 107)) 268 ((6 * ((2 * a6) + 1)) + ((sa s1 267 ((6 * ((2 * a6) + 1)) + (s1.2.1 266 ((2 * a6) + 1).toInt.toNat)).toInt.toNat (s1.1 107)).2.1 266 ((2 * a6) + 1).toInt.toNat)).toInt.toNat ((sa s1 267 ((6 * ((2 * a6) + 1)) + (s1.2.1 266 ((2 * a6) + 1).toInt.toNat)).toInt.toNat (s1.1 107)).1 108)).2.1 266 ((2 * a6) + 1).toInt.toNat) (y := 1) rfl (show (1 : Int32).toInt = 1 by decide) h.1
      have cx12 := ck_add (x := (sa (sa s1 267 ((6 * ((2 * a6) + 1)) + (s1.2.1 266 ((2 * a6) + 1).toInt.toNat)).toInt.toNat (s1.1 107)) 268 ((6 * ((2 * a6) + 1)) + ((sa s1 267 ((6 * ((2 * a6) + 1)) + (s1.2.1 266 ((2 * a6) + 1).toInt.toNat)).toInt.toNat (s1.1 107)).2.1 266 ((2 * a6) + 1).toInt.toNat)).toInt.toNat ((sa s1 267 ((6 * ((2 * a6) + 1)) + (s1.2.1 266 ((2 * a6) + 1).toInt.toNat)).toInt.toNat (s1.1 107)).1 108)).2.1 266 ((2 * a6) + 1).toInt.toNat) (y := 1) rfl (show (1 : Int32).toInt = 1 by decide) h.1
      replace h := h.2 _ ex12
      refine g_ca [.int (((sa (sa s1 267 ((6 * ((2 * a6) + 1)) + (s1.2.1 266 ((2 * a6) + 1).toInt.toNat)).toInt.toNat (s1.1 107)) 268 ((6 * ((2 * a6) + 1)) + ((sa s1 267 ((6 * ((2 * a6) + 1)) + (s1.2.1 266 ((2 * a6) + 1).toInt.toNat)).toInt.toNat (s1.1 107)).2.1 266 ((2 * a6) + 1).toInt.toNat)).toInt.toNat ((sa s1 267 ((6 * ((2 * a6) + 1)) + (s1.2.1 266 ((2 * a6) + 1).toInt.toNat)).toInt.toNat (s1.1 107)).1 108)).2.1 266 ((2 * a6) + 1).toInt.toNat) + 1), .int ((2 * a6) + 1), .ref 266] xo_iadd rfl rfl (fun _ => cx12) ?_
      refine g_ias rfl rfl (i_in (x := ((2 * a6) + 1)) rfl h.1) ?_
      replace h := h.2
      replace h := h _ rfl
      refine g_ld rfl rfl rfl ?_
      refine g_get rfl rfl ?_
      change Go _ _ _ _ _ _ [.ref 225] _ _
      refine g_ld rfl rfl rfl ?_
      refine g_ial rfl rfl (i_in (x := a7) rfl h.1) ?_
      change Go _ _ _ _ _ _ [.int ((sa (sa (sa s1 267 ((6 * ((2 * a6) + 1)) + (s1.2.1 266 ((2 * a6) + 1).toInt.toNat)).toInt.toNat (s1.1 107)) 268 ((6 * ((2 * a6) + 1)) + ((sa s1 267 ((6 * ((2 * a6) + 1)) + (s1.2.1 266 ((2 * a6) + 1).toInt.toNat)).toInt.toNat (s1.1 107)).2.1 266 ((2 * a6) + 1).toInt.toNat)).toInt.toNat ((sa s1 267 ((6 * ((2 * a6) + 1)) + (s1.2.1 266 ((2 * a6) + 1).toInt.toNat)).toInt.toNat (s1.1 107)).1 108)) 266 ((2 * a6) + 1).toInt.toNat (((sa (sa s1 267 ((6 * ((2 * a6) + 1)) + (s1.2.1 266 ((2 * a6) + 1).toInt.toNat)).toInt.toNat (s1.1 107)) 268 ((6 * ((2 * a6) + 1)) + ((sa s1 267 ((6 * ((2 * a6) + 1)) + (s1.2.1 266 ((2 * a6) + 1).toInt.toNat)).toInt.toNat (s1.1 107)).2.1 266 ((2 * a6) + 1).toInt.toNat)).toInt.toNat ((sa s1 267 ((6 * ((2 * a6) + 1)) + (s1.2.1 266 ((2 * a6) + 1).toInt.toNat)).toInt.toNat (s1.1 107)).1 108)).2.1 266 ((2 * a6) + 1).toInt.toNat) + 1)).2.1 225 a7.toInt.toNat)] _ _
      replace h := h.2
      refine g_st [.ref 213, .int a1, .int a2, .int a3, .int a4, .int x3, .int a6, .int ((sa (sa (sa s1 267 ((6 * ((2 * a6) + 1)) + (s1.2.1 266 ((2 * a6) + 1).toInt.toNat)).toInt.toNat (s1.1 107)) 268 ((6 * ((2 * a6) + 1)) + ((sa s1 267 ((6 * ((2 * a6) + 1)) + (s1.2.1 266 ((2 * a6) + 1).toInt.toNat)).toInt.toNat (s1.1 107)).2.1 266 ((2 * a6) + 1).toInt.toNat)).toInt.toNat ((sa s1 267 ((6 * ((2 * a6) + 1)) + (s1.2.1 266 ((2 * a6) + 1).toInt.toNat)).toInt.toNat (s1.1 107)).1 108)) 266 ((2 * a6) + 1).toInt.toNat (((sa (sa s1 267 ((6 * ((2 * a6) + 1)) + (s1.2.1 266 ((2 * a6) + 1).toInt.toNat)).toInt.toNat (s1.1 107)) 268 ((6 * ((2 * a6) + 1)) + ((sa s1 267 ((6 * ((2 * a6) + 1)) + (s1.2.1 266 ((2 * a6) + 1).toInt.toNat)).toInt.toNat (s1.1 107)).2.1 266 ((2 * a6) + 1).toInt.toNat)).toInt.toNat ((sa s1 267 ((6 * ((2 * a6) + 1)) + (s1.2.1 266 ((2 * a6) + 1).toInt.toNat)).toInt.toNat (s1.1 107)).1 108)).2.1 266 ((2 * a6) + 1).toInt.toNat) + 1)).2.1 225 a7.toInt.toNat), .int ((2 * a6) + 1), .null, .null, .null, .null] rfl rfl rfl ?_
      refine g_go rfl ?_
      refine g_fg 8 ?_
      exact r60 a1 a2 a3 a4 x3 a6 ((sa (sa (sa s1 267 ((6 * ((2 * a6) + 1)) + (s1.2.1 266 ((2 * a6) + 1).toInt.toNat)).toInt.toNat (s1.1 107)) 268 ((6 * ((2 * a6) + 1)) + ((sa s1 267 ((6 * ((2 * a6) + 1)) + (s1.2.1 266 ((2 * a6) + 1).toInt.toNat)).toInt.toNat (s1.1 107)).2.1 266 ((2 * a6) + 1).toInt.toNat)).toInt.toNat ((sa s1 267 ((6 * ((2 * a6) + 1)) + (s1.2.1 266 ((2 * a6) + 1).toInt.toNat)).toInt.toNat (s1.1 107)).1 108)) 266 ((2 * a6) + 1).toInt.toNat (((sa (sa s1 267 ((6 * ((2 * a6) + 1)) + (s1.2.1 266 ((2 * a6) + 1).toInt.toNat)).toInt.toNat (s1.1 107)) 268 ((6 * ((2 * a6) + 1)) + ((sa s1 267 ((6 * ((2 * a6) + 1)) + (s1.2.1 266 ((2 * a6) + 1).toInt.toNat)).toInt.toNat (s1.1 107)).2.1 266 ((2 * a6) + 1).toInt.toNat)).toInt.toNat ((sa s1 267 ((6 * ((2 * a6) + 1)) + (s1.2.1 266 ((2 * a6) + 1).toInt.toNat)).toInt.toNat (s1.1 107)).1 108)).2.1 266 ((2 * a6) + 1).toInt.toNat) + 1)).2.1 225 a7.toInt.toNat)  (sa (sa (sa s1 267 ((6 * ((2 * a6) + 1)) + (s1.2.1 266 ((2 * a6) + 1).toInt.toNat)).toInt.toNat (s1.1 107)) 268 ((6 * ((2 * a6) + 1)) + ((sa s1 267 ((6 * ((2 * a6) + 1)) + (s1.2.1 266 ((2 * a6) + 1).toInt.toNat)).toInt.toNat (s1.1 107)).2.1 266 ((2 * a6) + 1).toInt.toNat)).toInt.toNat ((sa s1 267 ((6 * ((2 * a6) + 1)) + (s1.2.1 266 ((2 * a6) + 1).toInt.toNat)).toInt.toNat (s1.1 107)).1 108)) 266 ((2 * a6) + 1).toInt.toNat (((sa (sa s1 267 ((6 * ((2 * a6) + 1)) + (s1.2.1 266 ((2 * a6) + 1).toInt.toNat)).toInt.toNat (s1.1 107)) 268 ((6 * ((2 * a6) + 1)) + ((sa s1 267 ((6 * ((2 * a6) + 1)) + (s1.2.1 266 ((2 * a6) + 1).toInt.toNat)).toInt.toNat (s1.1 107)).2.1 266 ((2 * a6) + 1).toInt.toNat)).toInt.toNat ((sa s1 267 ((6 * ((2 * a6) + 1)) + (s1.2.1 266 ((2 * a6) + 1).toInt.toNat)).toInt.toNat (s1.1 107)).1 108)).2.1 266 ((2 * a6) + 1).toInt.toNat) + 1)) h
def wl_244_60 (T : Nat → List Value → yS → (Option Value → yS → Prop) → Prop)  (a1 : Int32) (a2 : Int32) (a3 : Int32) (a4 : Int32) (a5 : Int32) (a6 : Int32) (a7 : Int32) (s : yS) (P : Option Value → yS → Prop) : Prop :=
  ∃ (I : Int32 → Int32 → Int32 → Int32 → Int32 → Int32 → Int32 → yS → Prop) (μ : Int32 → Int32 → Int32 → Int32 → Int32 → Int32 → Int32 → yS → Nat), I a1 a2 a3 a4 a5 a6 a7 s ∧ ∀ (a1 : Int32) (a2 : Int32) (a3 : Int32) (a4 : Int32) (a5 : Int32) (a6 : Int32) (a7 : Int32) (s : yS), I a1 a2 a3 a4 a5 a6 a7 s → w_244_60 T (fun a1' a2' a3' a4' a5' a6' a7' s' => I a1' a2' a3' a4' a5' a6' a7' s' ∧ μ a1' a2' a3' a4' a5' a6' a7' s' < μ a1 a2 a3 a4 a5 a6 a7 s) a1 a2 a3 a4 a5 a6 a7 s P
theorem kl_244_60 {d : Nat}  {a1 : Int32} {a2 : Int32} {a3 : Int32} {a4 : Int32} {a5 : Int32} {a6 : Int32} {a7 : Int32} {s : yS} {P : Option Value → yS → Prop}  (h : wl_244_60 (Tot d)  a1 a2 a3 a4 a5 a6 a7 s P) : Go d 9 (some .int) xE_244 (xE_244.drop 60) [.ref 213, .int a1, .int a2, .int a3, .int a4, .int a5, .int a6, .int a7, .null, .null, .null, .null, .null] [] s P := by
  obtain ⟨I, μ, h0, h1⟩ := h
  have key : ∀ (n : Nat) (a1 : Int32) (a2 : Int32) (a3 : Int32) (a4 : Int32) (a5 : Int32) (a6 : Int32) (a7 : Int32) (s : yS), μ a1 a2 a3 a4 a5 a6 a7 s = n → I a1 a2 a3 a4 a5 a6 a7 s → Go d 9 (some .int) xE_244 (xE_244.drop 60) [.ref 213, .int a1, .int a2, .int a3, .int a4, .int a5, .int a6, .int a7, .null, .null, .null, .null, .null] [] s P := by
    intro n
    induction n using Nat.strongRecOn with
    | ind n ih =>
      intro a1 a2 a3 a4 a5 a6 a7 s e hI
      exact k_244_60 (fun a1' a2' a3' a4' a5' a6' a7' s' q => ih _ (by rw [← e]; exact q.2) _ _ _ _ _ _ _ _ rfl q.1) (h1 a1 a2 a3 a4 a5 a6 a7 s hI)
  exact key _ a1 a2 a3 a4 a5 a6 a7 s rfl h0
def w_244_52 (T : Nat → List Value → yS → (Option Value → yS → Prop) → Prop)  (a1 : Int32) (a2 : Int32) (a3 : Int32) (a4 : Int32) (a5 : Int32) (a6 : Int32) (s : yS) (P : Option Value → yS → Prop) : Prop :=
  T 188 [.ref 213] s (fun v2 s1 => ∃ x3, v2 = some (.int x3) ∧ ((0 ≤ a1.toInt ∧ a1.toInt < 12006) ∧ (wl_244_60 T  a1 a2 a3 a4 a5 x3 (s1.2.1 229 a1.toInt.toNat)  s1 P)))
set_option maxRecDepth 20000 in
theorem k_244_52 {d : Nat}  {a1 : Int32} {a2 : Int32} {a3 : Int32} {a4 : Int32} {a5 : Int32} {a6 : Int32} {s : yS} {P : Option Value → yS → Prop}  (h : w_244_52 (Tot d)  a1 a2 a3 a4 a5 a6 s P) : Go d 9 (some .int) xE_244 (xE_244.drop 52) [.ref 213, .int a1, .int a2, .int a3, .int a4, .int a5, .int a6, .null, .null, .null, .null, .null, .null] [] s P := by
  unfold w_244_52 at h
  refine g_ld rfl rfl rfl ?_
  refine g_call [.ref 213] [] rfl rfl rfl (Tot.imp h (fun v2 s1 h => ?_))
  obtain ⟨x3, rfl, h⟩ := h
  change Go _ _ _ _ _ _ [.int x3] _ _
  refine g_st [.ref 213, .int a1, .int a2, .int a3, .int a4, .int a5, .int x3, .null, .null, .null, .null, .null, .null] rfl rfl rfl ?_
  refine g_ld rfl rfl rfl ?_
  refine g_get rfl rfl ?_
  change Go _ _ _ _ _ _ [.ref 229] _ _
  refine g_ld rfl rfl rfl ?_
  refine g_ial rfl rfl (i_in (x := a1) rfl h.1) ?_
  change Go _ _ _ _ _ _ [.int (s1.2.1 229 a1.toInt.toNat)] _ _
  replace h := h.2
  refine g_st [.ref 213, .int a1, .int a2, .int a3, .int a4, .int a5, .int x3, .int (s1.2.1 229 a1.toInt.toNat), .null, .null, .null, .null, .null] rfl rfl rfl ?_
  exact kl_244_60  h
def w_244_23 (T : Nat → List Value → yS → (Option Value → yS → Prop) → Prop) (R23 : Int32 → Int32 → Int32 → Int32 → Int32 → Int32 → yS → Prop) (a1 : Int32) (a2 : Int32) (a3 : Int32) (a4 : Int32) (a5 : Int32) (a6 : Int32) (s : yS) (P : Option Value → yS → Prop) : Prop :=
  (a6.toInt < 0 → w_244_52 T  a1 a2 a3 a4 a5 a6  s P) ∧ (¬ (a6.toInt < 0) → (¬ (a5.toInt = 0) → w_244_52 T  a1 a2 a3 a4 a5 a6  s P) ∧ (a5.toInt = 0 → T 240 [.ref 213, .int a6, .int a2, .int a3] s (fun v2 s1 => ∃ x3, v2 = some (.int x3) ∧ ((0 ≤ (s1.1 105).toInt ∧ (s1.1 105).toInt < 4000) ∧ (∀ s4, s4 = sa s1 278 (s1.1 105).toInt.toNat (s1.1 102) → (-2147483648 ≤ (s4.1 105).toInt + 1 ∧ (s4.1 105).toInt + 1 ≤ 2147483647) ∧ (∀ x5 : Int32, x5.toInt = (s4.1 105).toInt + 1 → ∀ s6, s6 = sf s4 105 x5 → (0 ≤ a6.toInt ∧ a6.toInt < 12006) ∧ (R23 a1 a2 a3 a4 x3 (s6.2.1 225 a6.toInt.toNat)  s6)))))))
set_option maxRecDepth 20000 in
theorem k_244_23 {d : Nat} {R23 : Int32 → Int32 → Int32 → Int32 → Int32 → Int32 → yS → Prop} {a1 : Int32} {a2 : Int32} {a3 : Int32} {a4 : Int32} {a5 : Int32} {a6 : Int32} {s : yS} {P : Option Value → yS → Prop} (r23 : ∀ a1 a2 a3 a4 a5 a6 s, R23 a1 a2 a3 a4 a5 a6 s → Go d 9 (some .int) xE_244 (xE_244.drop 23) [.ref 213, .int a1, .int a2, .int a3, .int a4, .int a5, .int a6, .null, .null, .null, .null, .null, .null] [] s P) (h : w_244_23 (Tot d) R23 a1 a2 a3 a4 a5 a6 s P) : Go d 9 (some .int) xE_244 (xE_244.drop 23) [.ref 213, .int a1, .int a2, .int a3, .int a4, .int a5, .int a6, .null, .null, .null, .null, .null, .null] [] s P := by
  unfold w_244_23 at h
  refine g_ld rfl rfl rfl ?_
  refine g_brP rfl rfl ⟨fun hc => ?_, fun hc => ?_⟩
  · replace h := h.1 ((i_lt (x := a6) (y := 0) rfl (show (0 : Int32).toInt = 0 by decide)).mp hc)
    exact k_244_52  h
  · replace h := h.2 (fun q => hc ((i_lt (x := a6) (y := 0) rfl (show (0 : Int32).toInt = 0 by decide)).mpr q))
    refine g_ld rfl rfl rfl ?_
    refine g_brN rfl rfl ⟨fun hc => ?_, fun hc => ?_⟩
    · replace h := h.1 (fun q => hc ((i_eq (x := a5) (y := 0) rfl (show (0 : Int32).toInt = 0 by decide)).mpr q))
      exact k_244_52  h
    · replace h := h.2 ((i_eq (x := a5) (y := 0) rfl (show (0 : Int32).toInt = 0 by decide)).mp hc)
      refine g_ld rfl rfl rfl ?_
      refine g_ld rfl rfl rfl ?_
      refine g_ld rfl rfl rfl ?_
      refine g_ld rfl rfl rfl ?_
      refine g_call [.ref 213, .int a6, .int a2, .int a3] [] rfl rfl rfl (Tot.imp h (fun v2 s1 h => ?_))
      obtain ⟨x3, rfl, h⟩ := h
      change Go _ _ _ _ _ _ [.int x3] _ _
      refine g_st [.ref 213, .int a1, .int a2, .int a3, .int a4, .int x3, .int a6, .null, .null, .null, .null, .null, .null] rfl rfl rfl ?_
      refine g_ld rfl rfl rfl ?_
      refine g_get rfl rfl ?_
      change Go _ _ _ _ _ _ [.ref 278] _ _
      refine g_ld rfl rfl rfl ?_
      refine g_get rfl rfl ?_
      change Go _ _ _ _ _ _ [.int (s1.1 105), .ref 278] _ _
      refine g_ld rfl rfl rfl ?_
      refine g_get rfl rfl ?_
      change Go _ _ _ _ _ _ [.int (s1.1 102), .int (s1.1 105), .ref 278] _ _
      refine g_ias rfl rfl (i_in (x := s1.1 105) rfl h.1) ?_
      replace h := h.2
      replace h := h _ rfl
      refine g_ld rfl rfl rfl ?_
      refine g_c [.ref 213, .ref 213] xo_dup rfl rfl ?_
      refine g_get rfl rfl ?_
      change Go _ _ _ _ _ _ [.int ((sa s1 278 (s1.1 105).toInt.toNat (s1.1 102)).1 105), .ref 213] _ _
      refine g_c [.int 1, .int ((sa s1 278 (s1.1 105).toInt.toNat (s1.1 102)).1 105), .ref 213] (xo_push (.int 1)) rfl rfl ?_
      have ex5 := i_add (x := (sa s1 278 (s1.1 105).toInt.toNat (s1.1 102)).1 105) (y := 1) rfl (show (1 : Int32).toInt = 1 by decide) h.1
      have cx5 := ck_add (x := (sa s1 278 (s1.1 105).toInt.toNat (s1.1 102)).1 105) (y := 1) rfl (show (1 : Int32).toInt = 1 by decide) h.1
      replace h := h.2 _ ex5
      refine g_ca [.int (((sa s1 278 (s1.1 105).toInt.toNat (s1.1 102)).1 105) + 1), .ref 213] xo_iadd rfl rfl (fun _ => cx5) ?_
      refine g_put rfl rfl rfl ?_
      replace h := h _ rfl
      refine g_ld rfl rfl rfl ?_
      refine g_get rfl rfl ?_
      change Go _ _ _ _ _ _ [.ref 225] _ _
      refine g_ld rfl rfl rfl ?_
      refine g_ial rfl rfl (i_in (x := a6) rfl h.1) ?_
      change Go _ _ _ _ _ _ [.int ((sf (sa s1 278 (s1.1 105).toInt.toNat (s1.1 102)) 105 (((sa s1 278 (s1.1 105).toInt.toNat (s1.1 102)).1 105) + 1)).2.1 225 a6.toInt.toNat)] _ _
      replace h := h.2
      refine g_st [.ref 213, .int a1, .int a2, .int a3, .int a4, .int x3, .int ((sf (sa s1 278 (s1.1 105).toInt.toNat (s1.1 102)) 105 (((sa s1 278 (s1.1 105).toInt.toNat (s1.1 102)).1 105) + 1)).2.1 225 a6.toInt.toNat), .null, .null, .null, .null, .null, .null] rfl rfl rfl ?_
      refine g_go rfl ?_
      exact r23 a1 a2 a3 a4 x3 ((sf (sa s1 278 (s1.1 105).toInt.toNat (s1.1 102)) 105 (((sa s1 278 (s1.1 105).toInt.toNat (s1.1 102)).1 105) + 1)).2.1 225 a6.toInt.toNat)  (sf (sa s1 278 (s1.1 105).toInt.toNat (s1.1 102)) 105 (((sa s1 278 (s1.1 105).toInt.toNat (s1.1 102)).1 105) + 1)) h
def wl_244_23 (T : Nat → List Value → yS → (Option Value → yS → Prop) → Prop)  (a1 : Int32) (a2 : Int32) (a3 : Int32) (a4 : Int32) (a5 : Int32) (a6 : Int32) (s : yS) (P : Option Value → yS → Prop) : Prop :=
  ∃ (I : Int32 → Int32 → Int32 → Int32 → Int32 → Int32 → yS → Prop) (μ : Int32 → Int32 → Int32 → Int32 → Int32 → Int32 → yS → Nat), I a1 a2 a3 a4 a5 a6 s ∧ ∀ (a1 : Int32) (a2 : Int32) (a3 : Int32) (a4 : Int32) (a5 : Int32) (a6 : Int32) (s : yS), I a1 a2 a3 a4 a5 a6 s → w_244_23 T (fun a1' a2' a3' a4' a5' a6' s' => I a1' a2' a3' a4' a5' a6' s' ∧ μ a1' a2' a3' a4' a5' a6' s' < μ a1 a2 a3 a4 a5 a6 s) a1 a2 a3 a4 a5 a6 s P
theorem kl_244_23 {d : Nat}  {a1 : Int32} {a2 : Int32} {a3 : Int32} {a4 : Int32} {a5 : Int32} {a6 : Int32} {s : yS} {P : Option Value → yS → Prop}  (h : wl_244_23 (Tot d)  a1 a2 a3 a4 a5 a6 s P) : Go d 9 (some .int) xE_244 (xE_244.drop 23) [.ref 213, .int a1, .int a2, .int a3, .int a4, .int a5, .int a6, .null, .null, .null, .null, .null, .null] [] s P := by
  obtain ⟨I, μ, h0, h1⟩ := h
  have key : ∀ (n : Nat) (a1 : Int32) (a2 : Int32) (a3 : Int32) (a4 : Int32) (a5 : Int32) (a6 : Int32) (s : yS), μ a1 a2 a3 a4 a5 a6 s = n → I a1 a2 a3 a4 a5 a6 s → Go d 9 (some .int) xE_244 (xE_244.drop 23) [.ref 213, .int a1, .int a2, .int a3, .int a4, .int a5, .int a6, .null, .null, .null, .null, .null, .null] [] s P := by
    intro n
    induction n using Nat.strongRecOn with
    | ind n ih =>
      intro a1 a2 a3 a4 a5 a6 s e hI
      exact k_244_23 (fun a1' a2' a3' a4' a5' a6' s' q => ih _ (by rw [← e]; exact q.2) _ _ _ _ _ _ _ rfl q.1) (h1 a1 a2 a3 a4 a5 a6 s hI)
  exact key _ a1 a2 a3 a4 a5 a6 s rfl h0
def w_244_0 (T : Nat → List Value → yS → (Option Value → yS → Prop) → Prop)  (a1 : Int32) (a2 : Int32) (a3 : Int32) (s : yS) (P : Option Value → yS → Prop) : Prop :=
  (0 ≤ (s.1 105).toInt ∧ (s.1 105).toInt < 4000) ∧ (∀ s1, s1 = sa s 278 (s.1 105).toInt.toNat (s.1 102) → (-2147483648 ≤ (s1.1 105).toInt + 1 ∧ (s1.1 105).toInt + 1 ≤ 2147483647) ∧ (∀ x2 : Int32, x2.toInt = (s1.1 105).toInt + 1 → ∀ s3, s3 = sf s1 105 x2 → (0 ≤ a1.toInt ∧ a1.toInt < 12006) ∧ (wl_244_23 T  a1 a2 a3 (s.1 105) 0 (s3.2.1 224 a1.toInt.toNat)  s3 P)))
set_option maxRecDepth 20000 in
theorem k_244_0 {d : Nat}  {a1 : Int32} {a2 : Int32} {a3 : Int32} {s : yS} {P : Option Value → yS → Prop}  (h : w_244_0 (Tot d)  a1 a2 a3 s P) : Go d 9 (some .int) xE_244 (xE_244.drop 0) [.ref 213, .int a1, .int a2, .int a3, .null, .null, .null, .null, .null, .null, .null, .null, .null] [] s P := by
  unfold w_244_0 at h
  refine g_ld rfl rfl rfl ?_
  refine g_get rfl rfl ?_
  change Go _ _ _ _ _ _ [.int (s.1 105)] _ _
  refine g_st [.ref 213, .int a1, .int a2, .int a3, .int (s.1 105), .null, .null, .null, .null, .null, .null, .null, .null] rfl rfl rfl ?_
  refine g_c [.int 0] (xo_push (.int 0)) rfl rfl ?_
  refine g_st [.ref 213, .int a1, .int a2, .int a3, .int (s.1 105), .int 0, .null, .null, .null, .null, .null, .null, .null] rfl rfl rfl ?_
  refine g_ld rfl rfl rfl ?_
  refine g_get rfl rfl ?_
  change Go _ _ _ _ _ _ [.ref 278] _ _
  refine g_ld rfl rfl rfl ?_
  refine g_get rfl rfl ?_
  change Go _ _ _ _ _ _ [.int (s.1 105), .ref 278] _ _
  refine g_ld rfl rfl rfl ?_
  refine g_get rfl rfl ?_
  change Go _ _ _ _ _ _ [.int (s.1 102), .int (s.1 105), .ref 278] _ _
  refine g_ias rfl rfl (i_in (x := s.1 105) rfl h.1) ?_
  replace h := h.2
  replace h := h _ rfl
  refine g_ld rfl rfl rfl ?_
  refine g_c [.ref 213, .ref 213] xo_dup rfl rfl ?_
  refine g_get rfl rfl ?_
  change Go _ _ _ _ _ _ [.int ((sa s 278 (s.1 105).toInt.toNat (s.1 102)).1 105), .ref 213] _ _
  refine g_c [.int 1, .int ((sa s 278 (s.1 105).toInt.toNat (s.1 102)).1 105), .ref 213] (xo_push (.int 1)) rfl rfl ?_
  have ex2 := i_add (x := (sa s 278 (s.1 105).toInt.toNat (s.1 102)).1 105) (y := 1) rfl (show (1 : Int32).toInt = 1 by decide) h.1
  have cx2 := ck_add (x := (sa s 278 (s.1 105).toInt.toNat (s.1 102)).1 105) (y := 1) rfl (show (1 : Int32).toInt = 1 by decide) h.1
  replace h := h.2 _ ex2
  refine g_ca [.int (((sa s 278 (s.1 105).toInt.toNat (s.1 102)).1 105) + 1), .ref 213] xo_iadd rfl rfl (fun _ => cx2) ?_
  refine g_put rfl rfl rfl ?_
  replace h := h _ rfl
  refine g_ld rfl rfl rfl ?_
  refine g_get rfl rfl ?_
  change Go _ _ _ _ _ _ [.ref 224] _ _
  refine g_ld rfl rfl rfl ?_
  refine g_ial rfl rfl (i_in (x := a1) rfl h.1) ?_
  change Go _ _ _ _ _ _ [.int ((sf (sa s 278 (s.1 105).toInt.toNat (s.1 102)) 105 (((sa s 278 (s.1 105).toInt.toNat (s.1 102)).1 105) + 1)).2.1 224 a1.toInt.toNat)] _ _
  replace h := h.2
  refine g_st [.ref 213, .int a1, .int a2, .int a3, .int (s.1 105), .int 0, .int ((sf (sa s 278 (s.1 105).toInt.toNat (s.1 102)) 105 (((sa s 278 (s.1 105).toInt.toNat (s.1 102)).1 105) + 1)).2.1 224 a1.toInt.toNat), .null, .null, .null, .null, .null, .null] rfl rfl rfl ?_
  exact kl_244_23  h
theorem t_244 {d : Nat} {a1 : Int32} {a2 : Int32} {a3 : Int32} {s : yS} {P : Option Value → yS → Prop} (h : w_244_0 (Tot d) a1 a2 a3 s P) : Tot (d + 1) 244 [.ref 213, .int a1, .int a2, .int a3] s P := tot_of (E := xE_244) (ml := 9) (ret := some .int) rfl rfl rfl (k_244_0 h)
/-! evalCall -/
def w_245_0 (T : Nat → List Value → yS → (Option Value → yS → Prop) → Prop)  (a1 : Int32) (a2 : Int32) (a3 : Int32) (s : yS) (P : Option Value → yS → Prop) : Prop :=
  (0 ≤ a2.toInt ∧ a2.toInt < 4000) ∧ ((0 ≤ (s.2.1 278 a2.toInt.toNat).toInt ∧ (s.2.1 278 a2.toInt.toNat).toInt < 5100) ∧ ((0 ≤ a1.toInt ∧ a1.toInt < 12006) ∧ ((0 ≤ (s.2.1 222 a1.toInt.toNat).toInt ∧ (s.2.1 222 a1.toInt.toNat).toInt < 12006) ∧ (T 193 [.ref 213, .int (s.2.1 275 (s.2.1 278 a2.toInt.toNat).toInt.toNat), .int (s.2.1 217 (s.2.1 222 a1.toInt.toNat).toInt.toNat)] s (fun v2 s1 => ∃ x3, v2 = some (.int x3) ∧ (T 246 [.ref 213, .int (s1.1 73)] s1 (fun v5 s4 => ∃ x6, v5 = some (.int x6) ∧ (T 189 [.ref 213, .int a3, .int 0, .int (s4.1 74), .int (s.2.1 275 (s.2.1 278 a2.toInt.toNat).toInt.toNat)] s4 (fun v8 s7 => v8 = none ∧ ((-2147483648 ≤ 2 * a3.toInt ∧ 2 * a3.toInt ≤ 2147483647) ∧ (∀ x9 : Int32, x9.toInt = 2 * a3.toInt → (-2147483648 ≤ x9.toInt + 1 ∧ x9.toInt + 1 ≤ 2147483647) ∧ (∀ x10 : Int32, x10.toInt = x9.toInt + 1 → (-2147483648 ≤ 204 * (s7.1 75).toInt ∧ 204 * (s7.1 75).toInt ≤ 2147483647) ∧ (∀ x11 : Int32, x11.toInt = 204 * (s7.1 75).toInt → (-2147483648 ≤ (s7.1 73).toInt - x11.toInt ∧ (s7.1 73).toInt - x11.toInt ≤ 2147483647) ∧ (∀ x12 : Int32, x12.toInt = (s7.1 73).toInt - x11.toInt → (-2147483648 ≤ 6 * x12.toInt ∧ 6 * x12.toInt ≤ 2147483647) ∧ (∀ x13 : Int32, x13.toInt = 6 * x12.toInt → (-2147483648 ≤ 2000 + x13.toInt ∧ 2000 + x13.toInt ≤ 2147483647) ∧ (∀ x14 : Int32, x14.toInt = 2000 + x13.toInt → (0 ≤ x10.toInt ∧ x10.toInt < 600) ∧ (∀ s15, s15 = sa s7 265 x10.toInt.toNat x14 → (-2147483648 ≤ (s15.1 106).toInt + 1 ∧ (s15.1 106).toInt + 1 ≤ 2147483647) ∧ (∀ x16 : Int32, x16.toInt = (s15.1 106).toInt + 1 → ∀ s17, s17 = sf s15 106 x16 → (-2147483648 ≤ (s17.1 93).toInt + 1 ∧ (s17.1 93).toInt + 1 ≤ 2147483647) ∧ (∀ x18 : Int32, x18.toInt = (s17.1 93).toInt + 1 → ∀ s19, s19 = sf s17 93 x18 → (0 ≤ x6.toInt ∧ x6.toInt < 120) ∧ (T 240 [.ref 213, .int (s19.2.1 258 x6.toInt.toNat), .int a2, .int a3] s19 (fun v21 s20 => ∃ x22, v21 = some (.int x22) ∧ ((-2147483648 ≤ (s20.1 106).toInt - 1 ∧ (s20.1 106).toInt - 1 ≤ 2147483647) ∧ (∀ x23 : Int32, x23.toInt = (s20.1 106).toInt - 1 → ∀ s24, s24 = sf s20 106 x23 → P (some (.int x22)) s24)))))))))))))))))))))))
set_option maxRecDepth 20000 in
theorem k_245_0 {d : Nat}  {a1 : Int32} {a2 : Int32} {a3 : Int32} {s : yS} {P : Option Value → yS → Prop}  (h : w_245_0 (Tot d)  a1 a2 a3 s P) : Go d 8 (some .int) xE_245 (xE_245.drop 0) [.ref 213, .int a1, .int a2, .int a3, .null, .null, .null, .null, .null, .null, .null, .null] [] s P := by
  unfold w_245_0 at h
  refine g_ld rfl rfl rfl ?_
  refine g_get rfl rfl ?_
  change Go _ _ _ _ _ _ [.ref 275] _ _
  refine g_ld rfl rfl rfl ?_
  refine g_get rfl rfl ?_
  change Go _ _ _ _ _ _ [.ref 278, .ref 275] _ _
  refine g_ld rfl rfl rfl ?_
  refine g_ial rfl rfl (i_in (x := a2) rfl h.1) ?_
  change Go _ _ _ _ _ _ [.int (s.2.1 278 a2.toInt.toNat), .ref 275] _ _
  replace h := h.2
  refine g_ial rfl rfl (i_in (x := s.2.1 278 a2.toInt.toNat) rfl h.1) ?_
  change Go _ _ _ _ _ _ [.int (s.2.1 275 (s.2.1 278 a2.toInt.toNat).toInt.toNat)] _ _
  replace h := h.2
  refine g_st [.ref 213, .int a1, .int a2, .int a3, .int (s.2.1 275 (s.2.1 278 a2.toInt.toNat).toInt.toNat), .null, .null, .null, .null, .null, .null, .null] rfl rfl rfl ?_
  refine g_ld rfl rfl rfl ?_
  refine g_ld rfl rfl rfl ?_
  refine g_ld rfl rfl rfl ?_
  refine g_get rfl rfl ?_
  change Go _ _ _ _ _ _ [.ref 217, .int (s.2.1 275 (s.2.1 278 a2.toInt.toNat).toInt.toNat), .ref 213] _ _
  refine g_ld rfl rfl rfl ?_
  refine g_get rfl rfl ?_
  change Go _ _ _ _ _ _ [.ref 222, .ref 217, .int (s.2.1 275 (s.2.1 278 a2.toInt.toNat).toInt.toNat), .ref 213] _ _
  refine g_ld rfl rfl rfl ?_
  refine g_ial rfl rfl (i_in (x := a1) rfl h.1) ?_
  change Go _ _ _ _ _ _ [.int (s.2.1 222 a1.toInt.toNat), .ref 217, .int (s.2.1 275 (s.2.1 278 a2.toInt.toNat).toInt.toNat), .ref 213] _ _
  replace h := h.2
  refine g_ial rfl rfl (i_in (x := s.2.1 222 a1.toInt.toNat) rfl h.1) ?_
  change Go _ _ _ _ _ _ [.int (s.2.1 217 (s.2.1 222 a1.toInt.toNat).toInt.toNat), .int (s.2.1 275 (s.2.1 278 a2.toInt.toNat).toInt.toNat), .ref 213] _ _
  replace h := h.2
  refine g_call [.ref 213, .int (s.2.1 275 (s.2.1 278 a2.toInt.toNat).toInt.toNat), .int (s.2.1 217 (s.2.1 222 a1.toInt.toNat).toInt.toNat)] [] rfl rfl rfl (Tot.imp h (fun v2 s1 h => ?_))
  obtain ⟨x3, rfl, h⟩ := h
  change Go _ _ _ _ _ _ [.int x3] _ _
  refine g_st [.ref 213, .int a1, .int a2, .int a3, .int (s.2.1 275 (s.2.1 278 a2.toInt.toNat).toInt.toNat), .int x3, .null, .null, .null, .null, .null, .null] rfl rfl rfl ?_
  refine g_ld rfl rfl rfl ?_
  refine g_ld rfl rfl rfl ?_
  refine g_get rfl rfl ?_
  change Go _ _ _ _ _ _ [.int (s1.1 73), .ref 213] _ _
  refine g_call [.ref 213, .int (s1.1 73)] [] rfl rfl rfl (Tot.imp h (fun v5 s4 h => ?_))
  obtain ⟨x6, rfl, h⟩ := h
  change Go _ _ _ _ _ _ [.int x6] _ _
  refine g_st [.ref 213, .int a1, .int a2, .int a3, .int (s.2.1 275 (s.2.1 278 a2.toInt.toNat).toInt.toNat), .int x3, .int x6, .null, .null, .null, .null, .null] rfl rfl rfl ?_
  refine g_ld rfl rfl rfl ?_
  refine g_ld rfl rfl rfl ?_
  refine g_c [.int 0, .int a3, .ref 213] (xo_push (.int 0)) rfl rfl ?_
  refine g_ld rfl rfl rfl ?_
  refine g_get rfl rfl ?_
  change Go _ _ _ _ _ _ [.int (s4.1 74), .int 0, .int a3, .ref 213] _ _
  refine g_ld rfl rfl rfl ?_
  refine g_call [.ref 213, .int a3, .int 0, .int (s4.1 74), .int (s.2.1 275 (s.2.1 278 a2.toInt.toNat).toInt.toNat)] [] rfl rfl rfl (Tot.imp h (fun v8 s7 h => ?_))
  obtain ⟨rfl, h⟩ := h
  change Go _ _ _ _ _ _ [] _ _
  refine g_ld rfl rfl rfl ?_
  refine g_get rfl rfl ?_
  change Go _ _ _ _ _ _ [.ref 265] _ _
  refine g_c [.int 2, .ref 265] (xo_push (.int 2)) rfl rfl ?_
  refine g_ld rfl rfl rfl ?_
  have ex9 := i_mul (x := 2) (y := a3) (show (2 : Int32).toInt = 2 by decide) rfl h.1
  have cx9 := ck_mul (x := 2) (y := a3) (show (2 : Int32).toInt = 2 by decide) rfl h.1
  replace h := h.2 _ ex9
  refine g_ca [.int (2 * a3), .ref 265] xo_imul rfl rfl (fun _ => cx9) ?_
  refine g_c [.int 1, .int (2 * a3), .ref 265] (xo_push (.int 1)) rfl rfl ?_
  have ex10 := i_add (x := (2 * a3)) (y := 1) rfl (show (1 : Int32).toInt = 1 by decide) h.1
  have cx10 := ck_add (x := (2 * a3)) (y := 1) rfl (show (1 : Int32).toInt = 1 by decide) h.1
  replace h := h.2 _ ex10
  refine g_ca [.int ((2 * a3) + 1), .ref 265] xo_iadd rfl rfl (fun _ => cx10) ?_
  refine g_c [.int 2000, .int ((2 * a3) + 1), .ref 265] (xo_push (.int 2000)) rfl rfl ?_
  refine g_c [.int 6, .int 2000, .int ((2 * a3) + 1), .ref 265] (xo_push (.int 6)) rfl rfl ?_
  refine g_ld rfl rfl rfl ?_
  refine g_get rfl rfl ?_
  change Go _ _ _ _ _ _ [.int (s7.1 73), .int 6, .int 2000, .int ((2 * a3) + 1), .ref 265] _ _
  refine g_c [.int 204, .int (s7.1 73), .int 6, .int 2000, .int ((2 * a3) + 1), .ref 265] (xo_push (.int 204)) rfl rfl ?_
  refine g_ld rfl rfl rfl ?_
  refine g_get rfl rfl ?_
  change Go _ _ _ _ _ _ [.int (s7.1 75), .int 204, .int (s7.1 73), .int 6, .int 2000, .int ((2 * a3) + 1), .ref 265] _ _
  have ex11 := i_mul (x := 204) (y := s7.1 75) (show (204 : Int32).toInt = 204 by decide) rfl h.1
  have cx11 := ck_mul (x := 204) (y := s7.1 75) (show (204 : Int32).toInt = 204 by decide) rfl h.1
  replace h := h.2 _ ex11
  refine g_ca [.int (204 * (s7.1 75)), .int (s7.1 73), .int 6, .int 2000, .int ((2 * a3) + 1), .ref 265] xo_imul rfl rfl (fun _ => cx11) ?_
  have ex12 := i_sub (x := s7.1 73) (y := (204 * (s7.1 75))) rfl rfl h.1
  have cx12 := ck_sub (x := s7.1 73) (y := (204 * (s7.1 75))) rfl rfl h.1
  replace h := h.2 _ ex12
  refine g_ca [.int ((s7.1 73) - (204 * (s7.1 75))), .int 6, .int 2000, .int ((2 * a3) + 1), .ref 265] xo_isub rfl rfl (fun _ => cx12) ?_
  have ex13 := i_mul (x := 6) (y := ((s7.1 73) - (204 * (s7.1 75)))) (show (6 : Int32).toInt = 6 by decide) rfl h.1
  have cx13 := ck_mul (x := 6) (y := ((s7.1 73) - (204 * (s7.1 75)))) (show (6 : Int32).toInt = 6 by decide) rfl h.1
  replace h := h.2 _ ex13
  refine g_ca [.int (6 * ((s7.1 73) - (204 * (s7.1 75)))), .int 2000, .int ((2 * a3) + 1), .ref 265] xo_imul rfl rfl (fun _ => cx13) ?_
  have ex14 := i_add (x := 2000) (y := (6 * ((s7.1 73) - (204 * (s7.1 75))))) (show (2000 : Int32).toInt = 2000 by decide) rfl h.1
  have cx14 := ck_add (x := 2000) (y := (6 * ((s7.1 73) - (204 * (s7.1 75))))) (show (2000 : Int32).toInt = 2000 by decide) rfl h.1
  replace h := h.2 _ ex14
  refine g_ca [.int (2000 + (6 * ((s7.1 73) - (204 * (s7.1 75))))), .int ((2 * a3) + 1), .ref 265] xo_iadd rfl rfl (fun _ => cx14) ?_
  refine g_ias rfl rfl (i_in (x := ((2 * a3) + 1)) rfl h.1) ?_
  replace h := h.2
  replace h := h _ rfl
  refine g_ld rfl rfl rfl ?_
  refine g_c [.ref 213, .ref 213] xo_dup rfl rfl ?_
  refine g_get rfl rfl ?_
  change Go _ _ _ _ _ _ [.int ((sa s7 265 ((2 * a3) + 1).toInt.toNat (2000 + (6 * ((s7.1 73) - (204 * (s7.1 75)))))).1 106), .ref 213] _ _
  refine g_c [.int 1, .int ((sa s7 265 ((2 * a3) + 1).toInt.toNat (2000 + (6 * ((s7.1 73) - (204 * (s7.1 75)))))).1 106), .ref 213] (xo_push (.int 1)) rfl rfl ?_
  have ex16 := i_add (x := (sa s7 265 ((2 * a3) + 1).toInt.toNat (2000 + (6 * ((s7.1 73) - (204 * (s7.1 75)))))).1 106) (y := 1) rfl (show (1 : Int32).toInt = 1 by decide) h.1
  have cx16 := ck_add (x := (sa s7 265 ((2 * a3) + 1).toInt.toNat (2000 + (6 * ((s7.1 73) - (204 * (s7.1 75)))))).1 106) (y := 1) rfl (show (1 : Int32).toInt = 1 by decide) h.1
  replace h := h.2 _ ex16
  refine g_ca [.int (((sa s7 265 ((2 * a3) + 1).toInt.toNat (2000 + (6 * ((s7.1 73) - (204 * (s7.1 75)))))).1 106) + 1), .ref 213] xo_iadd rfl rfl (fun _ => cx16) ?_
  refine g_put rfl rfl rfl ?_
  replace h := h _ rfl
  refine g_ld rfl rfl rfl ?_
  refine g_c [.ref 213, .ref 213] xo_dup rfl rfl ?_
  refine g_get rfl rfl ?_
  change Go _ _ _ _ _ _ [.int ((sf (sa s7 265 ((2 * a3) + 1).toInt.toNat (2000 + (6 * ((s7.1 73) - (204 * (s7.1 75)))))) 106 (((sa s7 265 ((2 * a3) + 1).toInt.toNat (2000 + (6 * ((s7.1 73) - (204 * (s7.1 75)))))).1 106) + 1)).1 93), .ref 213] _ _
  refine g_c [.int 1, .int ((sf (sa s7 265 ((2 * a3) + 1).toInt.toNat (2000 + (6 * ((s7.1 73) - (204 * (s7.1 75)))))) 106 (((sa s7 265 ((2 * a3) + 1).toInt.toNat (2000 + (6 * ((s7.1 73) - (204 * (s7.1 75)))))).1 106) + 1)).1 93), .ref 213] (xo_push (.int 1)) rfl rfl ?_
  have ex18 := i_add (x := (sf (sa s7 265 ((2 * a3) + 1).toInt.toNat (2000 + (6 * ((s7.1 73) - (204 * (s7.1 75)))))) 106 (((sa s7 265 ((2 * a3) + 1).toInt.toNat (2000 + (6 * ((s7.1 73) - (204 * (s7.1 75)))))).1 106) + 1)).1 93) (y := 1) rfl (show (1 : Int32).toInt = 1 by decide) h.1
  have cx18 := ck_add (x := (sf (sa s7 265 ((2 * a3) + 1).toInt.toNat (2000 + (6 * ((s7.1 73) - (204 * (s7.1 75)))))) 106 (((sa s7 265 ((2 * a3) + 1).toInt.toNat (2000 + (6 * ((s7.1 73) - (204 * (s7.1 75)))))).1 106) + 1)).1 93) (y := 1) rfl (show (1 : Int32).toInt = 1 by decide) h.1
  replace h := h.2 _ ex18
  refine g_ca [.int (((sf (sa s7 265 ((2 * a3) + 1).toInt.toNat (2000 + (6 * ((s7.1 73) - (204 * (s7.1 75)))))) 106 (((sa s7 265 ((2 * a3) + 1).toInt.toNat (2000 + (6 * ((s7.1 73) - (204 * (s7.1 75)))))).1 106) + 1)).1 93) + 1), .ref 213] xo_iadd rfl rfl (fun _ => cx18) ?_
  refine g_put rfl rfl rfl ?_
  replace h := h _ rfl
  refine g_ld rfl rfl rfl ?_
  refine g_ld rfl rfl rfl ?_
  refine g_get rfl rfl ?_
  change Go _ _ _ _ _ _ [.ref 258, .ref 213] _ _
  refine g_ld rfl rfl rfl ?_
  refine g_ial rfl rfl (i_in (x := x6) rfl h.1) ?_
  change Go _ _ _ _ _ _ [.int ((sf (sf (sa s7 265 ((2 * a3) + 1).toInt.toNat (2000 + (6 * ((s7.1 73) - (204 * (s7.1 75)))))) 106 (((sa s7 265 ((2 * a3) + 1).toInt.toNat (2000 + (6 * ((s7.1 73) - (204 * (s7.1 75)))))).1 106) + 1)) 93 (((sf (sa s7 265 ((2 * a3) + 1).toInt.toNat (2000 + (6 * ((s7.1 73) - (204 * (s7.1 75)))))) 106 (((sa s7 265 ((2 * a3) + 1).toInt.toNat (2000 + (6 * ((s7.1 73) - (204 * (s7.1 75)))))).1 106) + 1)).1 93) + 1)).2.1 258 x6.toInt.toNat), .ref 213] _ _
  replace h := h.2
  refine g_ld rfl rfl rfl ?_
  refine g_ld rfl rfl rfl ?_
  refine g_call [.ref 213, .int ((sf (sf (sa s7 265 ((2 * a3) + 1).toInt.toNat (2000 + (6 * ((s7.1 73) - (204 * (s7.1 75)))))) 106 (((sa s7 265 ((2 * a3) + 1).toInt.toNat (2000 + (6 * ((s7.1 73) - (204 * (s7.1 75)))))).1 106) + 1)) 93 (((sf (sa s7 265 ((2 * a3) + 1).toInt.toNat (2000 + (6 * ((s7.1 73) - (204 * (s7.1 75)))))) 106 (((sa s7 265 ((2 * a3) + 1).toInt.toNat (2000 + (6 * ((s7.1 73) - (204 * (s7.1 75)))))).1 106) + 1)).1 93) + 1)).2.1 258 x6.toInt.toNat), .int a2, .int a3] [] rfl rfl rfl (Tot.imp h (fun v21 s20 h => ?_))
  obtain ⟨x22, rfl, h⟩ := h
  change Go _ _ _ _ _ _ [.int x22] _ _
  refine g_st [.ref 213, .int a1, .int a2, .int a3, .int (s.2.1 275 (s.2.1 278 a2.toInt.toNat).toInt.toNat), .int x3, .int x6, .int x22, .null, .null, .null, .null] rfl rfl rfl ?_
  refine g_ld rfl rfl rfl ?_
  refine g_c [.ref 213, .ref 213] xo_dup rfl rfl ?_
  refine g_get rfl rfl ?_
  change Go _ _ _ _ _ _ [.int (s20.1 106), .ref 213] _ _
  refine g_c [.int 1, .int (s20.1 106), .ref 213] (xo_push (.int 1)) rfl rfl ?_
  have ex23 := i_sub (x := s20.1 106) (y := 1) rfl (show (1 : Int32).toInt = 1 by decide) h.1
  have cx23 := ck_sub (x := s20.1 106) (y := 1) rfl (show (1 : Int32).toInt = 1 by decide) h.1
  replace h := h.2 _ ex23
  refine g_ca [.int ((s20.1 106) - 1), .ref 213] xo_isub rfl rfl (fun _ => cx23) ?_
  refine g_put rfl rfl rfl ?_
  replace h := h _ rfl
  refine g_ld rfl rfl rfl ?_
  exact g_retI rfl h
theorem t_245 {d : Nat} {a1 : Int32} {a2 : Int32} {a3 : Int32} {s : yS} {P : Option Value → yS → Prop} (h : w_245_0 (Tot d) a1 a2 a3 s P) : Tot (d + 1) 245 [.ref 213, .int a1, .int a2, .int a3] s P := tot_of (E := xE_245) (ml := 8) (ret := some .int) rfl rfl rfl (k_245_0 h)
/-! funcOf -/
def w_246_5 (T : Nat → List Value → yS → (Option Value → yS → Prop) → Prop) (R5 : Int32 → Int32 → yS → Prop) (a1 : Int32) (a2 : Int32) (s : yS) (P : Option Value → yS → Prop) : Prop :=
  (0 ≤ a2.toInt ∧ a2.toInt < 120) ∧ (((s.2.1 257 a2.toInt.toNat).toInt = a1.toInt → P (some (.int a2)) s) ∧ (¬ ((s.2.1 257 a2.toInt.toNat).toInt = a1.toInt) → (-2147483648 ≤ a2.toInt + 1 ∧ a2.toInt + 1 ≤ 2147483647) ∧ (∀ x1 : Int32, x1.toInt = a2.toInt + 1 → R5 a1 x1  s)))
set_option maxRecDepth 20000 in
theorem k_246_5 {d : Nat} {R5 : Int32 → Int32 → yS → Prop} {a1 : Int32} {a2 : Int32} {s : yS} {P : Option Value → yS → Prop} (r5 : ∀ a1 a2 s, R5 a1 a2 s → Go d 3 (some .int) xE_246 (xE_246.drop 5) [.ref 213, .int a1, .int a2, .null, .null] [] s P) (h : w_246_5 (Tot d) R5 a1 a2 s P) : Go d 3 (some .int) xE_246 (xE_246.drop 5) [.ref 213, .int a1, .int a2, .null, .null] [] s P := by
  unfold w_246_5 at h
  refine g_ld rfl rfl rfl ?_
  refine g_get rfl rfl ?_
  change Go _ _ _ _ _ _ [.ref 257] _ _
  refine g_ld rfl rfl rfl ?_
  refine g_ial rfl rfl (i_in (x := a2) rfl h.1) ?_
  change Go _ _ _ _ _ _ [.int (s.2.1 257 a2.toInt.toNat)] _ _
  replace h := h.2
  refine g_ld rfl rfl rfl ?_
  refine g_brP rfl rfl ⟨fun hc => ?_, fun hc => ?_⟩
  · replace h := h.1 ((i_eq (x := s.2.1 257 a2.toInt.toNat) (y := a1) rfl rfl).mp hc)
    refine g_ld rfl rfl rfl ?_
    exact g_retI rfl h
  · replace h := h.2 (fun q => hc ((i_eq (x := s.2.1 257 a2.toInt.toNat) (y := a1) rfl rfl).mpr q))
    have ex1 := i_add (x := a2) (y := 1) rfl (show (1 : Int32).toInt = 1 by decide) h.1
    have cx1 := ck_inc (x := a2) (n := 1) rfl h.1
    replace h := h.2 _ ex1
    refine g_inc [.ref 213, .int a1, .int (a2 + 1), .null, .null] rfl rfl rfl rfl cx1 ?_
    refine g_go rfl ?_
    exact r5 a1 (a2 + 1)  s h
def wl_246_5 (T : Nat → List Value → yS → (Option Value → yS → Prop) → Prop)  (a1 : Int32) (a2 : Int32) (s : yS) (P : Option Value → yS → Prop) : Prop :=
  ∃ (I : Int32 → Int32 → yS → Prop) (μ : Int32 → Int32 → yS → Nat), I a1 a2 s ∧ ∀ (a1 : Int32) (a2 : Int32) (s : yS), I a1 a2 s → w_246_5 T (fun a1' a2' s' => I a1' a2' s' ∧ μ a1' a2' s' < μ a1 a2 s) a1 a2 s P
theorem kl_246_5 {d : Nat}  {a1 : Int32} {a2 : Int32} {s : yS} {P : Option Value → yS → Prop}  (h : wl_246_5 (Tot d)  a1 a2 s P) : Go d 3 (some .int) xE_246 (xE_246.drop 5) [.ref 213, .int a1, .int a2, .null, .null] [] s P := by
  obtain ⟨I, μ, h0, h1⟩ := h
  have key : ∀ (n : Nat) (a1 : Int32) (a2 : Int32) (s : yS), μ a1 a2 s = n → I a1 a2 s → Go d 3 (some .int) xE_246 (xE_246.drop 5) [.ref 213, .int a1, .int a2, .null, .null] [] s P := by
    intro n
    induction n using Nat.strongRecOn with
    | ind n ih =>
      intro a1 a2 s e hI
      exact k_246_5 (fun a1' a2' s' q => ih _ (by rw [← e]; exact q.2) _ _ _ rfl q.1) (h1 a1 a2 s hI)
  exact key _ a1 a2 s rfl h0
def w_246_0 (T : Nat → List Value → yS → (Option Value → yS → Prop) → Prop)  (a1 : Int32) (s : yS) (P : Option Value → yS → Prop) : Prop :=
  (-2147483648 ≤ 60 * (s.1 75).toInt ∧ 60 * (s.1 75).toInt ≤ 2147483647) ∧ (∀ x1 : Int32, x1.toInt = 60 * (s.1 75).toInt → wl_246_5 T  a1 x1  s P)
set_option maxRecDepth 20000 in
theorem k_246_0 {d : Nat}  {a1 : Int32} {s : yS} {P : Option Value → yS → Prop}  (h : w_246_0 (Tot d)  a1 s P) : Go d 3 (some .int) xE_246 (xE_246.drop 0) [.ref 213, .int a1, .null, .null, .null] [] s P := by
  unfold w_246_0 at h
  refine g_c [.int 60] (xo_push (.int 60)) rfl rfl ?_
  refine g_ld rfl rfl rfl ?_
  refine g_get rfl rfl ?_
  change Go _ _ _ _ _ _ [.int (s.1 75), .int 60] _ _
  have ex1 := i_mul (x := 60) (y := s.1 75) (show (60 : Int32).toInt = 60 by decide) rfl h.1
  have cx1 := ck_mul (x := 60) (y := s.1 75) (show (60 : Int32).toInt = 60 by decide) rfl h.1
  replace h := h.2 _ ex1
  refine g_ca [.int (60 * (s.1 75))] xo_imul rfl rfl (fun _ => cx1) ?_
  refine g_st [.ref 213, .int a1, .int (60 * (s.1 75)), .null, .null] rfl rfl rfl ?_
  exact kl_246_5  h
theorem t_246 {d : Nat} {a1 : Int32} {s : yS} {P : Option Value → yS → Prop} (h : w_246_0 (Tot d) a1 s P) : Tot (d + 1) 246 [.ref 213, .int a1] s P := tot_of (E := xE_246) (ml := 3) (ret := some .int) rfl rfl rfl (k_246_0 h)
/-! run -/
def w_247_12 (T : Nat → List Value → yS → (Option Value → yS → Prop) → Prop)  (a1 : Int32) (s : yS) (P : Option Value → yS → Prop) : Prop :=
  P (some (.int (-1))) s
set_option maxRecDepth 20000 in
theorem k_247_12 {d : Nat}  {a1 : Int32} {s : yS} {P : Option Value → yS → Prop}  (h : w_247_12 (Tot d)  a1 s P) : Go d 3 (some .int) xE_247 (xE_247.drop 12) [.ref 213, .int a1, .null, .null, .null] [] s P := by
  unfold w_247_12 at h
  refine g_c [.int (-1)] (xo_push (.int (-1))) rfl rfl ?_
  exact g_retI rfl h
def w_247_0 (T : Nat → List Value → yS → (Option Value → yS → Prop) → Prop)  (a1 : Int32) (s : yS) (P : Option Value → yS → Prop) : Prop :=
  ∀ s1, s1 = sf s 0 0 → ((s1.1 90).toInt = 0 → w_247_12 T  a1  s1 P) ∧ (¬ ((s1.1 90).toInt = 0) → (a1.toInt < 1 → w_247_12 T  a1  s1 P) ∧ (¬ (a1.toInt < 1) → (a1.toInt ≤ 5000 → ∀ s2, s2 = sf s1 75 (s1.1 29) → ∀ s3, s3 = sf s2 96 a1 → ∀ s4, s4 = sf s3 95 0 → ∀ s5, s5 = sf s4 98 0 → ∀ s6, s6 = sf s5 97 13000 → ∀ s7, s7 = sf s6 105 0 → ∀ s8, s8 = sf s7 106 0 → ∀ s9, s9 = sf s8 93 0 → ∀ s10, s10 = sf s9 92 (-1) → ∀ s11, s11 = sf s10 70 0 → T 188 [.ref 213] s11 (fun v13 s12 => ∃ x14, v13 = some (.int x14) ∧ ((0 ≤ (s12.1 29).toInt ∧ (s12.1 29).toInt < 2) ∧ (T 240 [.ref 213, .int (s12.2.1 259 (s12.1 29).toInt.toNat), .int 0, .int x14] s12 (fun v16 s15 => ∃ x17, v16 = some (.int x17) ∧ (∀ s18, s18 = sf s15 91 x17 → ∀ s19, s19 = sf s18 103 (s18.1 102) → P (some (.int (s19.1 91))) s19)))))) ∧ (¬ (a1.toInt ≤ 5000) → w_247_12 T  a1  s1 P)))
set_option maxRecDepth 20000 in
theorem k_247_0 {d : Nat}  {a1 : Int32} {s : yS} {P : Option Value → yS → Prop}  (h : w_247_0 (Tot d)  a1 s P) : Go d 3 (some .int) xE_247 (xE_247.drop 0) [.ref 213, .int a1, .null, .null, .null] [] s P := by
  unfold w_247_0 at h
  refine g_ld rfl rfl rfl ?_
  refine g_c [.int 0, .ref 213] (xo_push (.int 0)) rfl rfl ?_
  refine g_put rfl rfl rfl ?_
  replace h := h _ rfl
  refine g_ld rfl rfl rfl ?_
  refine g_get rfl rfl ?_
  change Go _ _ _ _ _ _ [.int ((sf s 0 0).1 90)] _ _
  refine g_brP rfl rfl ⟨fun hc => ?_, fun hc => ?_⟩
  · replace h := h.1 ((i_eq (x := (sf s 0 0).1 90) (y := 0) rfl (show (0 : Int32).toInt = 0 by decide)).mp hc)
    exact k_247_12  h
  · replace h := h.2 (fun q => hc ((i_eq (x := (sf s 0 0).1 90) (y := 0) rfl (show (0 : Int32).toInt = 0 by decide)).mpr q))
    refine g_ld rfl rfl rfl ?_
    refine g_c [.int 1, .int a1] (xo_push (.int 1)) rfl rfl ?_
    refine g_brP rfl rfl ⟨fun hc => ?_, fun hc => ?_⟩
    · replace h := h.1 ((i_lt (x := a1) (y := 1) rfl (show (1 : Int32).toInt = 1 by decide)).mp hc)
      exact k_247_12  h
    · replace h := h.2 (fun q => hc ((i_lt (x := a1) (y := 1) rfl (show (1 : Int32).toInt = 1 by decide)).mpr q))
      refine g_ld rfl rfl rfl ?_
      refine g_c [.int 5000, .int a1] (xo_push (.int 5000)) rfl rfl ?_
      refine g_brP rfl rfl ⟨fun hc => ?_, fun hc => ?_⟩
      · replace h := h.1 ((i_le (x := a1) (y := 5000) rfl (show (5000 : Int32).toInt = 5000 by decide)).mp hc)
        refine g_ld rfl rfl rfl ?_
        refine g_ld rfl rfl rfl ?_
        refine g_get rfl rfl ?_
        change Go _ _ _ _ _ _ [.int ((sf s 0 0).1 29), .ref 213] _ _
        refine g_put rfl rfl rfl ?_
        replace h := h _ rfl
        refine g_ld rfl rfl rfl ?_
        refine g_ld rfl rfl rfl ?_
        refine g_put rfl rfl rfl ?_
        replace h := h _ rfl
        refine g_ld rfl rfl rfl ?_
        refine g_c [.int 0, .ref 213] (xo_push (.int 0)) rfl rfl ?_
        refine g_put rfl rfl rfl ?_
        replace h := h _ rfl
        refine g_ld rfl rfl rfl ?_
        refine g_c [.int 0, .ref 213] (xo_push (.int 0)) rfl rfl ?_
        refine g_put rfl rfl rfl ?_
        replace h := h _ rfl
        refine g_ld rfl rfl rfl ?_
        refine g_c [.int 13000, .ref 213] (xo_push (.int 13000)) rfl rfl ?_
        refine g_put rfl rfl rfl ?_
        replace h := h _ rfl
        refine g_ld rfl rfl rfl ?_
        refine g_c [.int 0, .ref 213] (xo_push (.int 0)) rfl rfl ?_
        refine g_put rfl rfl rfl ?_
        replace h := h _ rfl
        refine g_ld rfl rfl rfl ?_
        refine g_c [.int 0, .ref 213] (xo_push (.int 0)) rfl rfl ?_
        refine g_put rfl rfl rfl ?_
        replace h := h _ rfl
        refine g_ld rfl rfl rfl ?_
        refine g_c [.int 0, .ref 213] (xo_push (.int 0)) rfl rfl ?_
        refine g_put rfl rfl rfl ?_
        replace h := h _ rfl
        refine g_ld rfl rfl rfl ?_
        refine g_c [.int (-1), .ref 213] (xo_push (.int (-1))) rfl rfl ?_
        refine g_put rfl rfl rfl ?_
        replace h := h _ rfl
        refine g_ld rfl rfl rfl ?_
        refine g_c [.int 0, .ref 213] (xo_push (.int 0)) rfl rfl ?_
        refine g_put rfl rfl rfl ?_
        replace h := h _ rfl
        refine g_ld rfl rfl rfl ?_
        refine g_call [.ref 213] [] rfl rfl rfl (Tot.imp h (fun v13 s12 h => ?_))
        obtain ⟨x14, rfl, h⟩ := h
        change Go _ _ _ _ _ _ [.int x14] _ _
        refine g_st [.ref 213, .int a1, .int x14, .null, .null] rfl rfl rfl ?_
        refine g_ld rfl rfl rfl ?_
        refine g_ld rfl rfl rfl ?_
        refine g_ld rfl rfl rfl ?_
        refine g_get rfl rfl ?_
        change Go _ _ _ _ _ _ [.ref 259, .ref 213, .ref 213] _ _
        refine g_ld rfl rfl rfl ?_
        refine g_get rfl rfl ?_
        change Go _ _ _ _ _ _ [.int (s12.1 29), .ref 259, .ref 213, .ref 213] _ _
        refine g_ial rfl rfl (i_in (x := s12.1 29) rfl h.1) ?_
        change Go _ _ _ _ _ _ [.int (s12.2.1 259 (s12.1 29).toInt.toNat), .ref 213, .ref 213] _ _
        replace h := h.2
        refine g_c [.int 0, .int (s12.2.1 259 (s12.1 29).toInt.toNat), .ref 213, .ref 213] (xo_push (.int 0)) rfl rfl ?_
        refine g_ld rfl rfl rfl ?_
        refine g_call [.ref 213, .int (s12.2.1 259 (s12.1 29).toInt.toNat), .int 0, .int x14] [.ref 213] rfl rfl rfl (Tot.imp h (fun v16 s15 h => ?_))
        obtain ⟨x17, rfl, h⟩ := h
        change Go _ _ _ _ _ _ [.int x17, .ref 213] _ _
        refine g_put rfl rfl rfl ?_
        replace h := h _ rfl
        refine g_ld rfl rfl rfl ?_
        refine g_ld rfl rfl rfl ?_
        refine g_get rfl rfl ?_
        change Go _ _ _ _ _ _ [.int ((sf s15 91 x17).1 102), .ref 213] _ _
        refine g_put rfl rfl rfl ?_
        replace h := h _ rfl
        refine g_ld rfl rfl rfl ?_
        refine g_get rfl rfl ?_
        change Go _ _ _ _ _ _ [.int ((sf (sf s15 91 x17) 103 ((sf s15 91 x17).1 102)).1 91)] _ _
        exact g_retI rfl h
      · replace h := h.2 (fun q => hc ((i_le (x := a1) (y := 5000) rfl (show (5000 : Int32).toInt = 5000 by decide)).mpr q))
        exact k_247_12  h
theorem t_247 {d : Nat} {a1 : Int32} {s : yS} {P : Option Value → yS → Prop} (h : w_247_0 (Tot d) a1 s P) : Tot (d + 1) 247 [.ref 213, .int a1] s P := tot_of (E := xE_247) (ml := 3) (ret := some .int) rfl rfl rfl (k_247_0 h)
