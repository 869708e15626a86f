/-! failed -/
def w_248_0 (T : Nat → List Value → yS → (Option Value → yS → Prop) → Prop)   (s : yS) (P : Option Value → yS → Prop) : Prop :=
  ∀ s1, s1 = sf s 0 0 → P (some (.int (s1.1 92))) s1
set_option maxRecDepth 20000 in
theorem k_248_0 {d : Nat}   {s : yS} {P : Option Value → yS → Prop}  (h : w_248_0 (Tot d)   s P) : Go d 1 (some .int) xE_248 (xE_248.drop 0) [.ref 213, .null] [] s P := by
  unfold w_248_0 at h
  refine g_ld rfl rfl rfl ?_
  refine g_c [.int 0, .ref 213] (xo_push (.int 0)) rfl rfl ?_
  refine g_put rfl rfl rfl ?_
  replace h := h _ rfl
  refine g_ld rfl rfl rfl ?_
  refine g_get rfl rfl ?_
  change Go _ _ _ _ _ _ [.int ((sf s 0 0).1 92)] _ _
  exact g_retI rfl h
theorem t_248 {d : Nat}  {s : yS} {P : Option Value → yS → Prop} (h : w_248_0 (Tot d)  s P) : Tot (d + 1) 248 [.ref 213] s P := tot_of (E := xE_248) (ml := 1) (ret := some .int) rfl rfl rfl (k_248_0 h)
/-! calls -/
def w_249_0 (T : Nat → List Value → yS → (Option Value → yS → Prop) → Prop)   (s : yS) (P : Option Value → yS → Prop) : Prop :=
  ∀ s1, s1 = sf s 0 0 → P (some (.int (s1.1 93))) s1
set_option maxRecDepth 20000 in
theorem k_249_0 {d : Nat}   {s : yS} {P : Option Value → yS → Prop}  (h : w_249_0 (Tot d)   s P) : Go d 1 (some .int) xE_249 (xE_249.drop 0) [.ref 213, .null] [] s P := by
  unfold w_249_0 at h
  refine g_ld rfl rfl rfl ?_
  refine g_c [.int 0, .ref 213] (xo_push (.int 0)) rfl rfl ?_
  refine g_put rfl rfl rfl ?_
  replace h := h _ rfl
  refine g_ld rfl rfl rfl ?_
  refine g_get rfl rfl ?_
  change Go _ _ _ _ _ _ [.int ((sf s 0 0).1 93)] _ _
  exact g_retI rfl h
theorem t_249 {d : Nat}  {s : yS} {P : Option Value → yS → Prop} (h : w_249_0 (Tot d)  s P) : Tot (d + 1) 249 [.ref 213] s P := tot_of (E := xE_249) (ml := 1) (ret := some .int) rfl rfl rfl (k_249_0 h)
/-! addRow -/
def w_250_94 (T : Nat → List Value → yS → (Option Value → yS → Prop) → Prop) (R94 : Int32 → Int32 → Int32 → Int32 → Int32 → Int32 → Int32 → yS → Prop) (a1 : Int32) (a2 : Int32) (a3 : Int32) (a4 : Int32) (a5 : Int32) (a6 : Int32) (a7 : Int32) (s : yS) (P : Option Value → yS → Prop) : Prop :=
  (a5.toInt ≤ a7.toInt → (-2147483648 ≤ (s.1 118).toInt + a5.toInt ∧ (s.1 118).toInt + a5.toInt ≤ 2147483647) ∧ (∀ x1 : Int32, x1.toInt = (s.1 118).toInt + a5.toInt → ∀ s2, s2 = sf s 118 x1 → (-2147483648 ≤ (s2.1 112).toInt + 1 ∧ (s2.1 112).toInt + 1 ≤ 2147483647) ∧ (∀ x3 : Int32, x3.toInt = (s2.1 112).toInt + 1 → ∀ s4, s4 = sf s2 112 x3 → P none s4))) ∧ (¬ (a5.toInt ≤ a7.toInt) → (-2147483648 ≤ (s.1 118).toInt + a7.toInt ∧ (s.1 118).toInt + a7.toInt ≤ 2147483647) ∧ (∀ x5 : Int32, x5.toInt = (s.1 118).toInt + a7.toInt → (-2147483648 ≤ a4.toInt + a7.toInt ∧ a4.toInt + a7.toInt ≤ 2147483647) ∧ (∀ x6 : Int32, x6.toInt = a4.toInt + a7.toInt → (0 ≤ x6.toInt ∧ x6.toInt < 200000) ∧ ((0 ≤ x5.toInt ∧ x5.toInt < 200000) ∧ (∀ s7, s7 = sa s 264 x5.toInt.toNat (s.2.1 264 x6.toInt.toNat) → (-2147483648 ≤ a7.toInt + 1 ∧ a7.toInt + 1 ≤ 2147483647) ∧ (∀ x8 : Int32, x8.toInt = a7.toInt + 1 → R94 a1 a2 a3 a4 a5 a6 x8  s7))))))
set_option maxRecDepth 20000 in
theorem k_250_94 {d : Nat} {R94 : Int32 → Int32 → Int32 → Int32 → Int32 → Int32 → Int32 → yS → Prop} {a1 : Int32} {a2 : Int32} {a3 : Int32} {a4 : Int32} {a5 : Int32} {a6 : Int32} {a7 : Int32} {s : yS} {P : Option Value → yS → Prop} (r94 : ∀ a1 a2 a3 a4 a5 a6 a7 s, R94 a1 a2 a3 a4 a5 a6 a7 s → Go d 8 (none) xE_250 (xE_250.drop 94) [.ref 213, .int a1, .int a2, .int a3, .int a4, .int a5, .int a6, .int a7, .null, .null, .null, .null, .null, .null] [] s P) (h : w_250_94 (Tot d) R94 a1 a2 a3 a4 a5 a6 a7 s P) : Go d 8 (none) xE_250 (xE_250.drop 94) [.ref 213, .int a1, .int a2, .int a3, .int a4, .int a5, .int a6, .int a7, .null, .null, .null, .null, .null, .null] [] s P := by
  unfold w_250_94 at h
  refine g_ld rfl rfl rfl ?_
  refine g_ld rfl rfl rfl ?_
  refine g_brP rfl rfl ⟨fun hc => ?_, fun hc => ?_⟩
  · replace h := h.1 ((i_le (x := a5) (y := a7) rfl rfl).mp hc)
    refine g_ld rfl rfl rfl ?_
    refine g_c [.ref 213, .ref 213] xo_dup rfl rfl ?_
    refine g_get rfl rfl ?_
    change Go _ _ _ _ _ _ [.int (s.1 118), .ref 213] _ _
    refine g_ld rfl rfl rfl ?_
    have ex1 := i_add (x := s.1 118) (y := a5) rfl rfl h.1
    have cx1 := ck_add (x := s.1 118) (y := a5) rfl rfl h.1
    replace h := h.2 _ ex1
    refine g_ca [.int ((s.1 118) + a5), .ref 213] xo_iadd rfl rfl (fun _ => cx1) ?_
    refine g_put rfl rfl rfl ?_
    replace h := h _ rfl
    refine g_ld rfl rfl rfl ?_
    refine g_c [.ref 213, .ref 213] xo_dup rfl rfl ?_
    refine g_get rfl rfl ?_
    change Go _ _ _ _ _ _ [.int ((sf s 118 ((s.1 118) + a5)).1 112), .ref 213] _ _
    refine g_c [.int 1, .int ((sf s 118 ((s.1 118) + a5)).1 112), .ref 213] (xo_push (.int 1)) rfl rfl ?_
    have ex3 := i_add (x := (sf s 118 ((s.1 118) + a5)).1 112) (y := 1) rfl (show (1 : Int32).toInt = 1 by decide) h.1
    have cx3 := ck_add (x := (sf s 118 ((s.1 118) + a5)).1 112) (y := 1) rfl (show (1 : Int32).toInt = 1 by decide) h.1
    replace h := h.2 _ ex3
    refine g_ca [.int (((sf s 118 ((s.1 118) + a5)).1 112) + 1), .ref 213] xo_iadd rfl rfl (fun _ => cx3) ?_
    refine g_put rfl rfl rfl ?_
    replace h := h _ rfl
    exact g_ret0 rfl h
  · replace h := h.2 (fun q => hc ((i_le (x := a5) (y := a7) rfl rfl).mpr q))
    refine g_ld rfl rfl rfl ?_
    refine g_get rfl rfl ?_
    change Go _ _ _ _ _ _ [.ref 264] _ _
    refine g_ld rfl rfl rfl ?_
    refine g_get rfl rfl ?_
    change Go _ _ _ _ _ _ [.int (s.1 118), .ref 264] _ _
    refine g_ld rfl rfl rfl ?_
    have ex5 := i_add (x := s.1 118) (y := a7) rfl rfl h.1
    have cx5 := ck_add (x := s.1 118) (y := a7) rfl rfl h.1
    replace h := h.2 _ ex5
    refine g_ca [.int ((s.1 118) + a7), .ref 264] xo_iadd rfl rfl (fun _ => cx5) ?_
    refine g_ld rfl rfl rfl ?_
    refine g_get rfl rfl ?_
    change Go _ _ _ _ _ _ [.ref 264, .int ((s.1 118) + a7), .ref 264] _ _
    refine g_ld rfl rfl rfl ?_
    refine g_ld rfl rfl rfl ?_
    have ex6 := i_add (x := a4) (y := a7) rfl rfl h.1
    have cx6 := ck_add (x := a4) (y := a7) rfl rfl h.1
    replace h := h.2 _ ex6
    refine g_ca [.int (a4 + a7), .ref 264, .int ((s.1 118) + a7), .ref 264] xo_iadd rfl rfl (fun _ => cx6) ?_
    refine g_ial rfl rfl (i_in (x := (a4 + a7)) rfl h.1) ?_
    change Go _ _ _ _ _ _ [.int (s.2.1 264 (a4 + a7).toInt.toNat), .int ((s.1 118) + a7), .ref 264] _ _
    replace h := h.2
    refine g_ias rfl rfl (i_in (x := ((s.1 118) + a7)) rfl h.1) ?_
    replace h := h.2
    replace h := h _ rfl
    have ex8 := i_add (x := a7) (y := 1) rfl (show (1 : Int32).toInt = 1 by decide) h.1
    have cx8 := ck_inc (x := a7) (n := 1) rfl h.1
    replace h := h.2 _ ex8
    refine g_inc [.ref 213, .int a1, .int a2, .int a3, .int a4, .int a5, .int a6, .int (a7 + 1), .null, .null, .null, .null, .null, .null] rfl rfl rfl rfl cx8 ?_
    refine g_go rfl ?_
    exact r94 a1 a2 a3 a4 a5 a6 (a7 + 1)  (sa s 264 ((s.1 118) + a7).toInt.toNat (s.2.1 264 (a4 + a7).toInt.toNat)) h
def wl_250_94 (T : Nat → List Value → yS → (Option Value → yS → Prop) → Prop)  (a1 : Int32) (a2 : Int32) (a3 : Int32) (a4 : Int32) (a5 : Int32) (a6 : Int32) (a7 : Int32) (s : yS) (P : Option Value → yS → Prop) : Prop :=
  ∃ (I : Int32 → Int32 → Int32 → Int32 → Int32 → Int32 → Int32 → yS → Prop) (μ : Int32 → Int32 → Int32 → Int32 → Int32 → Int32 → Int32 → yS → Nat), I a1 a2 a3 a4 a5 a6 a7 s ∧ ∀ (a1 : Int32) (a2 : Int32) (a3 : Int32) (a4 : Int32) (a5 : Int32) (a6 : Int32) (a7 : Int32) (s : yS), I a1 a2 a3 a4 a5 a6 a7 s → w_250_94 T (fun a1' a2' a3' a4' a5' a6' a7' s' => I a1' a2' a3' a4' a5' a6' a7' s' ∧ μ a1' a2' a3' a4' a5' a6' a7' s' < μ a1 a2 a3 a4 a5 a6 a7 s) a1 a2 a3 a4 a5 a6 a7 s P
theorem kl_250_94 {d : Nat}  {a1 : Int32} {a2 : Int32} {a3 : Int32} {a4 : Int32} {a5 : Int32} {a6 : Int32} {a7 : Int32} {s : yS} {P : Option Value → yS → Prop}  (h : wl_250_94 (Tot d)  a1 a2 a3 a4 a5 a6 a7 s P) : Go d 8 (none) xE_250 (xE_250.drop 94) [.ref 213, .int a1, .int a2, .int a3, .int a4, .int a5, .int a6, .int a7, .null, .null, .null, .null, .null, .null] [] s P := by
  obtain ⟨I, μ, h0, h1⟩ := h
  have key : ∀ (n : Nat) (a1 : Int32) (a2 : Int32) (a3 : Int32) (a4 : Int32) (a5 : Int32) (a6 : Int32) (a7 : Int32) (s : yS), μ a1 a2 a3 a4 a5 a6 a7 s = n → I a1 a2 a3 a4 a5 a6 a7 s → Go d 8 (none) xE_250 (xE_250.drop 94) [.ref 213, .int a1, .int a2, .int a3, .int a4, .int a5, .int a6, .int a7, .null, .null, .null, .null, .null, .null] [] s P := by
    intro n
    induction n using Nat.strongRecOn with
    | ind n ih =>
      intro a1 a2 a3 a4 a5 a6 a7 s e hI
      exact k_250_94 (fun a1' a2' a3' a4' a5' a6' a7' s' q => ih _ (by rw [← e]; exact q.2) _ _ _ _ _ _ _ _ rfl q.1) (h1 a1 a2 a3 a4 a5 a6 a7 s hI)
  exact key _ a1 a2 a3 a4 a5 a6 a7 s rfl h0
def w_250_52 (T : Nat → List Value → yS → (Option Value → yS → Prop) → Prop)  (a1 : Int32) (a2 : Int32) (a3 : Int32) (a4 : Int32) (a5 : Int32) (a6 : Int32) (a7 : Int32) (s : yS) (P : Option Value → yS → Prop) : Prop :=
  P none s
set_option maxRecDepth 20000 in
theorem k_250_52 {d : Nat}  {a1 : Int32} {a2 : Int32} {a3 : Int32} {a4 : Int32} {a5 : Int32} {a6 : Int32} {a7 : Int32} {s : yS} {P : Option Value → yS → Prop}  (h : w_250_52 (Tot d)  a1 a2 a3 a4 a5 a6 a7 s P) : Go d 8 (none) xE_250 (xE_250.drop 52) [.ref 213, .int a1, .int a2, .int a3, .int a4, .int a5, .int a6, .int a7, .null, .null, .null, .null, .null, .null] [] s P := by
  unfold w_250_52 at h
  exact g_ret0 rfl h
def w_250_47 (T : Nat → List Value → yS → (Option Value → yS → Prop) → Prop)  (a1 : Int32) (a2 : Int32) (a3 : Int32) (a4 : Int32) (a5 : Int32) (a6 : Int32) (a7 : Int32) (s : yS) (P : Option Value → yS → Prop) : Prop :=
  (¬ (a6.toInt = 0) → w_250_52 T  a1 a2 a3 a4 a5 a6 a7  s P) ∧ (a6.toInt = 0 → (¬ ((s.1 111).toInt = 0) → (¬ ((s.1 112).toInt = 150) → (0 ≤ (s.1 112).toInt ∧ (s.1 112).toInt < 160) ∧ (∀ s1, s1 = sa s 279 (s.1 112).toInt.toNat a1 → (0 ≤ (s1.1 112).toInt ∧ (s1.1 112).toInt < 160) ∧ (∀ s2, s2 = sa s1 280 (s1.1 112).toInt.toNat a2 → (0 ≤ (s2.1 112).toInt ∧ (s2.1 112).toInt < 160) ∧ (∀ s3, s3 = sa s2 281 (s2.1 112).toInt.toNat a3 → (0 ≤ (s3.1 112).toInt ∧ (s3.1 112).toInt < 160) ∧ (∀ s4, s4 = sa s3 282 (s3.1 112).toInt.toNat (s3.1 118) → (0 ≤ (s4.1 112).toInt ∧ (s4.1 112).toInt < 160) ∧ (∀ s5, s5 = sa s4 283 (s4.1 112).toInt.toNat a5 → wl_250_94 T  a1 a2 a3 a4 a5 a6 0  s5 P)))))) ∧ ((s.1 112).toInt = 150 → ∀ s6, s6 = sf s 111 0 → P none s6)) ∧ ((s.1 111).toInt = 0 → w_250_52 T  a1 a2 a3 a4 a5 a6 a7  s P))
set_option maxRecDepth 20000 in
theorem k_250_47 {d : Nat}  {a1 : Int32} {a2 : Int32} {a3 : Int32} {a4 : Int32} {a5 : Int32} {a6 : Int32} {a7 : Int32} {s : yS} {P : Option Value → yS → Prop}  (h : w_250_47 (Tot d)  a1 a2 a3 a4 a5 a6 a7 s P) : Go d 8 (none) xE_250 (xE_250.drop 47) [.ref 213, .int a1, .int a2, .int a3, .int a4, .int a5, .int a6, .int a7, .null, .null, .null, .null, .null, .null] [] s P := by
  unfold w_250_47 at h
  refine g_ld rfl rfl rfl ?_
  refine g_brN rfl rfl ⟨fun hc => ?_, fun hc => ?_⟩
  · replace h := h.1 (fun q => hc ((i_eq (x := a6) (y := 0) rfl (show (0 : Int32).toInt = 0 by decide)).mpr q))
    exact k_250_52  h
  · replace h := h.2 ((i_eq (x := a6) (y := 0) rfl (show (0 : Int32).toInt = 0 by decide)).mp hc)
    refine g_ld rfl rfl rfl ?_
    refine g_get rfl rfl ?_
    change Go _ _ _ _ _ _ [.int (s.1 111)] _ _
    refine g_brN rfl rfl ⟨fun hc => ?_, fun hc => ?_⟩
    · replace h := h.1 (fun q => hc ((i_eq (x := s.1 111) (y := 0) rfl (show (0 : Int32).toInt = 0 by decide)).mpr q))
      refine g_ld rfl rfl rfl ?_
      refine g_get rfl rfl ?_
      change Go _ _ _ _ _ _ [.int (s.1 112)] _ _
      refine g_c [.int 150, .int (s.1 112)] (xo_push (.int 150)) rfl rfl ?_
      refine g_brN rfl rfl ⟨fun hc => ?_, fun hc => ?_⟩
      · replace h := h.1 (fun q => hc ((i_eq (x := s.1 112) (y := 150) rfl (show (150 : Int32).toInt = 150 by decide)).mpr q))
        refine g_ld rfl rfl rfl ?_
        refine g_get rfl rfl ?_
        change Go _ _ _ _ _ _ [.ref 279] _ _
        refine g_ld rfl rfl rfl ?_
        refine g_get rfl rfl ?_
        change Go _ _ _ _ _ _ [.int (s.1 112), .ref 279] _ _
        refine g_ld rfl rfl rfl ?_
        refine g_ias rfl rfl (i_in (x := s.1 112) rfl h.1) ?_
        replace h := h.2
        replace h := h _ rfl
        refine g_ld rfl rfl rfl ?_
        refine g_get rfl rfl ?_
        change Go _ _ _ _ _ _ [.ref 280] _ _
        refine g_ld rfl rfl rfl ?_
        refine g_get rfl rfl ?_
        change Go _ _ _ _ _ _ [.int ((sa s 279 (s.1 112).toInt.toNat a1).1 112), .ref 280] _ _
        refine g_ld rfl rfl rfl ?_
        refine g_ias rfl rfl (i_in (x := (sa s 279 (s.1 112).toInt.toNat a1).1 112) rfl h.1) ?_
        replace h := h.2
        replace h := h _ rfl
        refine g_ld rfl rfl rfl ?_
        refine g_get rfl rfl ?_
        change Go _ _ _ _ _ _ [.ref 281] _ _
        refine g_ld rfl rfl rfl ?_
        refine g_get rfl rfl ?_
        change Go _ _ _ _ _ _ [.int ((sa (sa s 279 (s.1 112).toInt.toNat a1) 280 ((sa s 279 (s.1 112).toInt.toNat a1).1 112).toInt.toNat a2).1 112), .ref 281] _ _
        refine g_ld rfl rfl rfl ?_
        refine g_ias rfl rfl (i_in (x := (sa (sa s 279 (s.1 112).toInt.toNat a1) 280 ((sa s 279 (s.1 112).toInt.toNat a1).1 112).toInt.toNat a2).1 112) rfl h.1) ?_
        replace h := h.2
        replace h := h _ rfl
        refine g_ld rfl rfl rfl ?_
        refine g_get rfl rfl ?_
        change Go _ _ _ _ _ _ [.ref 282] _ _
        refine g_ld rfl rfl rfl ?_
        refine g_get rfl rfl ?_
        change Go _ _ _ _ _ _ [.int ((sa (sa (sa s 279 (s.1 112).toInt.toNat a1) 280 ((sa s 279 (s.1 112).toInt.toNat a1).1 112).toInt.toNat a2) 281 ((sa (sa s 279 (s.1 112).toInt.toNat a1) 280 ((sa s 279 (s.1 112).toInt.toNat a1).1 112).toInt.toNat a2).1 112).toInt.toNat a3).1 112), .ref 282] _ _
        refine g_ld rfl rfl rfl ?_
        refine g_get rfl rfl ?_
        change Go _ _ _ _ _ _ [.int ((sa (sa (sa s 279 (s.1 112).toInt.toNat a1) 280 ((sa s 279 (s.1 112).toInt.toNat a1).1 112).toInt.toNat a2) 281 ((sa (sa s 279 (s.1 112).toInt.toNat a1) 280 ((sa s 279 (s.1 112).toInt.toNat a1).1 112).toInt.toNat a2).1 112).toInt.toNat a3).1 118), .int ((sa (sa (sa s 279 (s.1 112).toInt.toNat a1) 280 ((sa s 279 (s.1 112).toInt.toNat a1).1 112).toInt.toNat a2) 281 ((sa (sa s 279 (s.1 112).toInt.toNat a1) 280 ((sa s 279 (s.1 112).toInt.toNat a1).1 112).toInt.toNat a2).1 112).toInt.toNat a3).1 112), .ref 282] _ _
        refine g_ias rfl rfl (i_in (x := (sa (sa (sa s 279 (s.1 112).toInt.toNat a1) 280 ((sa s 279 (s.1 112).toInt.toNat a1).1 112).toInt.toNat a2) 281 ((sa (sa s 279 (s.1 112).toInt.toNat a1) 280 ((sa s 279 (s.1 112).toInt.toNat a1).1 112).toInt.toNat a2).1 112).toInt.toNat a3).1 112) rfl h.1) ?_
        replace h := h.2
        replace h := h _ rfl
        refine g_ld rfl rfl rfl ?_
        refine g_get rfl rfl ?_
        change Go _ _ _ _ _ _ [.ref 283] _ _
        refine g_ld rfl rfl rfl ?_
        refine g_get rfl rfl ?_
        change Go _ _ _ _ _ _ [.int ((sa (sa (sa (sa s 279 (s.1 112).toInt.toNat a1) 280 ((sa s 279 (s.1 112).toInt.toNat a1).1 112).toInt.toNat a2) 281 ((sa (sa s 279 (s.1 112).toInt.toNat a1) 280 ((sa s 279 (s.1 112).toInt.toNat a1).1 112).toInt.toNat a2).1 112).toInt.toNat a3) 282 ((sa (sa (sa s 279 (s.1 112).toInt.toNat a1) 280 ((sa s 279 (s.1 112).toInt.toNat a1).1 112).toInt.toNat a2) 281 ((sa (sa s 279 (s.1 112).toInt.toNat a1) 280 ((sa s 279 (s.1 112).toInt.toNat a1).1 112).toInt.toNat a2).1 112).toInt.toNat a3).1 112).toInt.toNat ((sa (sa (sa s 279 (s.1 112).toInt.toNat a1) 280 ((sa s 279 (s.1 112).toInt.toNat a1).1 112).toInt.toNat a2) 281 ((sa (sa s 279 (s.1 112).toInt.toNat a1) 280 ((sa s 279 (s.1 112).toInt.toNat a1).1 112).toInt.toNat a2).1 112).toInt.toNat a3).1 118)).1 112), .ref 283] _ _
        refine g_ld rfl rfl rfl ?_
        refine g_ias rfl rfl (i_in (x := (sa (sa (sa (sa s 279 (s.1 112).toInt.toNat a1) 280 ((sa s 279 (s.1 112).toInt.toNat a1).1 112).toInt.toNat a2) 281 ((sa (sa s 279 (s.1 112).toInt.toNat a1) 280 ((sa s 279 (s.1 112).toInt.toNat a1).1 112).toInt.toNat a2).1 112).toInt.toNat a3) 282 ((sa (sa (sa s 279 (s.1 112).toInt.toNat a1) 280 ((sa s 279 (s.1 112).toInt.toNat a1).1 112).toInt.toNat a2) 281 ((sa (sa s 279 (s.1 112).toInt.toNat a1) 280 ((sa s 279 (s.1 112).toInt.toNat a1).1 112).toInt.toNat a2).1 112).toInt.toNat a3).1 112).toInt.toNat ((sa (sa (sa s 279 (s.1 112).toInt.toNat a1) 280 ((sa s 279 (s.1 112).toInt.toNat a1).1 112).toInt.toNat a2) 281 ((sa (sa s 279 (s.1 112).toInt.toNat a1) 280 ((sa s 279 (s.1 112).toInt.toNat a1).1 112).toInt.toNat a2).1 112).toInt.toNat a3).1 118)).1 112) rfl h.1) ?_
        replace h := h.2
        replace h := h _ rfl
        refine g_c [.int 0] (xo_push (.int 0)) rfl rfl ?_
        refine g_st [.ref 213, .int a1, .int a2, .int a3, .int a4, .int a5, .int a6, .int 0, .null, .null, .null, .null, .null, .null] rfl rfl rfl ?_
        exact kl_250_94  h
      · replace h := h.2 ((i_eq (x := s.1 112) (y := 150) rfl (show (150 : Int32).toInt = 150 by decide)).mp hc)
        refine g_ld rfl rfl rfl ?_
        refine g_c [.int 0, .ref 213] (xo_push (.int 0)) rfl rfl ?_
        refine g_put rfl rfl rfl ?_
        replace h := h _ rfl
        exact g_ret0 rfl h
    · replace h := h.2 ((i_eq (x := s.1 111) (y := 0) rfl (show (0 : Int32).toInt = 0 by decide)).mp hc)
      exact k_250_52  h
def w_250_44 (T : Nat → List Value → yS → (Option Value → yS → Prop) → Prop) (R4 : Int32 → Int32 → Int32 → Int32 → Int32 → Int32 → Int32 → yS → Prop) (a1 : Int32) (a2 : Int32) (a3 : Int32) (a4 : Int32) (a5 : Int32) (a6 : Int32) (a7 : Int32) (t0 : Int32) (s : yS) (P : Option Value → yS → Prop) : Prop :=
  (-2147483648 ≤ a7.toInt + 1 ∧ a7.toInt + 1 ≤ 2147483647) ∧ (∀ x1 : Int32, x1.toInt = a7.toInt + 1 → R4 a1 a2 a3 a4 a5 t0 x1  s)
set_option maxRecDepth 20000 in
theorem k_250_44 {d : Nat} {R4 : Int32 → Int32 → Int32 → Int32 → Int32 → Int32 → Int32 → yS → Prop} {a1 : Int32} {a2 : Int32} {a3 : Int32} {a4 : Int32} {a5 : Int32} {a6 : Int32} {a7 : Int32} {t0 : Int32} {s : yS} {P : Option Value → yS → Prop} (r4 : ∀ a1 a2 a3 a4 a5 a6 a7 s, R4 a1 a2 a3 a4 a5 a6 a7 s → Go d 8 (none) xE_250 (xE_250.drop 4) [.ref 213, .int a1, .int a2, .int a3, .int a4, .int a5, .int a6, .int a7, .null, .null, .null, .null, .null, .null] [] s P) (h : w_250_44 (Tot d) R4 a1 a2 a3 a4 a5 a6 a7 t0 s P) : Go d 8 (none) xE_250 (xE_250.drop 44) [.ref 213, .int a1, .int a2, .int a3, .int a4, .int a5, .int a6, .int a7, .null, .null, .null, .null, .null, .null] [.int t0] s P := by
  unfold w_250_44 at h
  refine g_st [.ref 213, .int a1, .int a2, .int a3, .int a4, .int a5, .int t0, .int a7, .null, .null, .null, .null, .null, .null] rfl rfl rfl ?_
  have ex1 := i_add (x := a7) (y := 1) rfl (show (1 : Int32).toInt = 1 by decide) h.1
  have cx1 := ck_inc (x := a7) (n := 1) rfl h.1
  replace h := h.2 _ ex1
  refine g_inc [.ref 213, .int a1, .int a2, .int a3, .int a4, .int a5, .int t0, .int (a7 + 1), .null, .null, .null, .null, .null, .null] rfl rfl rfl rfl cx1 ?_
  refine g_go rfl ?_
  exact r4 a1 a2 a3 a4 a5 t0 (a7 + 1)  s h
def w_250_43 (T : Nat → List Value → yS → (Option Value → yS → Prop) → Prop) (R4 : Int32 → Int32 → Int32 → Int32 → Int32 → Int32 → Int32 → yS → Prop) (a1 : Int32) (a2 : Int32) (a3 : Int32) (a4 : Int32) (a5 : Int32) (a6 : Int32) (a7 : Int32) (s : yS) (P : Option Value → yS → Prop) : Prop :=
  w_250_44 T R4 a1 a2 a3 a4 a5 a6 a7 0 s P
set_option maxRecDepth 20000 in
theorem k_250_43 {d : Nat} {R4 : Int32 → Int32 → Int32 → Int32 → Int32 → Int32 → Int32 → yS → Prop} {a1 : Int32} {a2 : Int32} {a3 : Int32} {a4 : Int32} {a5 : Int32} {a6 : Int32} {a7 : Int32} {s : yS} {P : Option Value → yS → Prop} (r4 : ∀ a1 a2 a3 a4 a5 a6 a7 s, R4 a1 a2 a3 a4 a5 a6 a7 s → Go d 8 (none) xE_250 (xE_250.drop 4) [.ref 213, .int a1, .int a2, .int a3, .int a4, .int a5, .int a6, .int a7, .null, .null, .null, .null, .null, .null] [] s P) (h : w_250_43 (Tot d) R4 a1 a2 a3 a4 a5 a6 a7 s P) : Go d 8 (none) xE_250 (xE_250.drop 43) [.ref 213, .int a1, .int a2, .int a3, .int a4, .int a5, .int a6, .int a7, .null, .null, .null, .null, .null, .null] [] s P := by
  unfold w_250_43 at h
  refine g_c [.int 0] (xo_push (.int 0)) rfl rfl ?_
  exact k_250_44 r4 h
def w_250_4 (T : Nat → List Value → yS → (Option Value → yS → Prop) → Prop) (R4 : Int32 → Int32 → Int32 → Int32 → Int32 → Int32 → Int32 → yS → Prop) (a1 : Int32) (a2 : Int32) (a3 : Int32) (a4 : Int32) (a5 : Int32) (a6 : Int32) (a7 : Int32) (s : yS) (P : Option Value → yS → Prop) : Prop :=
  ((s.1 112).toInt ≤ a7.toInt → w_250_47 T  a1 a2 a3 a4 a5 a6 a7  s P) ∧ (¬ ((s.1 112).toInt ≤ a7.toInt) → (¬ (a6.toInt = 0) → w_250_47 T  a1 a2 a3 a4 a5 a6 a7  s P) ∧ (a6.toInt = 0 → (0 ≤ a7.toInt ∧ a7.toInt < 160) ∧ ((¬ ((s.2.1 279 a7.toInt.toNat).toInt = a1.toInt) → w_250_43 T R4 a1 a2 a3 a4 a5 a6 a7  s P) ∧ ((s.2.1 279 a7.toInt.toNat).toInt = a1.toInt → (0 ≤ a7.toInt ∧ a7.toInt < 160) ∧ ((¬ ((s.2.1 280 a7.toInt.toNat).toInt = a2.toInt) → w_250_43 T R4 a1 a2 a3 a4 a5 a6 a7  s P) ∧ ((s.2.1 280 a7.toInt.toNat).toInt = a2.toInt → (0 ≤ a7.toInt ∧ a7.toInt < 160) ∧ ((¬ ((s.2.1 281 a7.toInt.toNat).toInt = a3.toInt) → w_250_43 T R4 a1 a2 a3 a4 a5 a6 a7  s P) ∧ ((s.2.1 281 a7.toInt.toNat).toInt = a3.toInt → (0 ≤ a7.toInt ∧ a7.toInt < 160) ∧ ((0 ≤ a7.toInt ∧ a7.toInt < 160) ∧ (T 187 [.ref 213, .int (s.2.1 282 a7.toInt.toNat), .int (s.2.1 283 a7.toInt.toNat), .int a4, .int a5] s (fun v2 s1 => ∃ x3, v2 = some (.int x3) ∧ ((x3.toInt = 0 → w_250_43 T R4 a1 a2 a3 a4 a5 a6 a7  s1 P) ∧ (¬ (x3.toInt = 0) → w_250_44 T R4 a1 a2 a3 a4 a5 a6 a7 1 s1 P)))))))))))))
set_option maxRecDepth 20000 in
theorem k_250_4 {d : Nat} {R4 : Int32 → Int32 → Int32 → Int32 → Int32 → Int32 → Int32 → yS → Prop} {a1 : Int32} {a2 : Int32} {a3 : Int32} {a4 : Int32} {a5 : Int32} {a6 : Int32} {a7 : Int32} {s : yS} {P : Option Value → yS → Prop} (r4 : ∀ a1 a2 a3 a4 a5 a6 a7 s, R4 a1 a2 a3 a4 a5 a6 a7 s → Go d 8 (none) xE_250 (xE_250.drop 4) [.ref 213, .int a1, .int a2, .int a3, .int a4, .int a5, .int a6, .int a7, .null, .null, .null, .null, .null, .null] [] s P) (h : w_250_4 (Tot d) R4 a1 a2 a3 a4 a5 a6 a7 s P) : Go d 8 (none) xE_250 (xE_250.drop 4) [.ref 213, .int a1, .int a2, .int a3, .int a4, .int a5, .int a6, .int a7, .null, .null, .null, .null, .null, .null] [] s P := by
  unfold w_250_4 at h
  refine g_ld rfl rfl rfl ?_
  refine g_ld rfl rfl rfl ?_
  refine g_get rfl rfl ?_
  change Go _ _ _ _ _ _ [.int (s.1 112), .int a7] _ _
  refine g_brP rfl rfl ⟨fun hc => ?_, fun hc => ?_⟩
  · replace h := h.1 ((i_le (x := s.1 112) (y := a7) rfl rfl).mp hc)
    exact k_250_47  h
  · replace h := h.2 (fun q => hc ((i_le (x := s.1 112) (y := a7) rfl rfl).mpr q))
    refine g_ld rfl rfl rfl ?_
    refine g_brN rfl rfl ⟨fun hc => ?_, fun hc => ?_⟩
    · replace h := h.1 (fun q => hc ((i_eq (x := a6) (y := 0) rfl (show (0 : Int32).toInt = 0 by decide)).mpr q))
      exact k_250_47  h
    · replace h := h.2 ((i_eq (x := a6) (y := 0) rfl (show (0 : Int32).toInt = 0 by decide)).mp hc)
      refine g_ld rfl rfl rfl ?_
      refine g_get rfl rfl ?_
      change Go _ _ _ _ _ _ [.ref 279] _ _
      refine g_ld rfl rfl rfl ?_
      refine g_ial rfl rfl (i_in (x := a7) rfl h.1) ?_
      change Go _ _ _ _ _ _ [.int (s.2.1 279 a7.toInt.toNat)] _ _
      replace h := h.2
      refine g_ld rfl rfl rfl ?_
      refine g_brN rfl rfl ⟨fun hc => ?_, fun hc => ?_⟩
      · replace h := h.1 (fun q => hc ((i_eq (x := s.2.1 279 a7.toInt.toNat) (y := a1) rfl rfl).mpr q))
        exact k_250_43 r4 h
      · replace h := h.2 ((i_eq (x := s.2.1 279 a7.toInt.toNat) (y := a1) rfl rfl).mp hc)
        refine g_ld rfl rfl rfl ?_
        refine g_get rfl rfl ?_
        change Go _ _ _ _ _ _ [.ref 280] _ _
        refine g_ld rfl rfl rfl ?_
        refine g_ial rfl rfl (i_in (x := a7) rfl h.1) ?_
        change Go _ _ _ _ _ _ [.int (s.2.1 280 a7.toInt.toNat)] _ _
        replace h := h.2
        refine g_ld rfl rfl rfl ?_
        refine g_brN rfl rfl ⟨fun hc => ?_, fun hc => ?_⟩
        · replace h := h.1 (fun q => hc ((i_eq (x := s.2.1 280 a7.toInt.toNat) (y := a2) rfl rfl).mpr q))
          exact k_250_43 r4 h
        · replace h := h.2 ((i_eq (x := s.2.1 280 a7.toInt.toNat) (y := a2) rfl rfl).mp hc)
          refine g_ld rfl rfl rfl ?_
          refine g_get rfl rfl ?_
          change Go _ _ _ _ _ _ [.ref 281] _ _
          refine g_ld rfl rfl rfl ?_
          refine g_ial rfl rfl (i_in (x := a7) rfl h.1) ?_
          change Go _ _ _ _ _ _ [.int (s.2.1 281 a7.toInt.toNat)] _ _
          replace h := h.2
          refine g_ld rfl rfl rfl ?_
          refine g_brN rfl rfl ⟨fun hc => ?_, fun hc => ?_⟩
          · replace h := h.1 (fun q => hc ((i_eq (x := s.2.1 281 a7.toInt.toNat) (y := a3) rfl rfl).mpr q))
            exact k_250_43 r4 h
          · replace h := h.2 ((i_eq (x := s.2.1 281 a7.toInt.toNat) (y := a3) rfl rfl).mp hc)
            refine g_ld rfl rfl rfl ?_
            refine g_ld rfl rfl rfl ?_
            refine g_get rfl rfl ?_
            change Go _ _ _ _ _ _ [.ref 282, .ref 213] _ _
            refine g_ld rfl rfl rfl ?_
            refine g_ial rfl rfl (i_in (x := a7) rfl h.1) ?_
            change Go _ _ _ _ _ _ [.int (s.2.1 282 a7.toInt.toNat), .ref 213] _ _
            replace h := h.2
            refine g_ld rfl rfl rfl ?_
            refine g_get rfl rfl ?_
            change Go _ _ _ _ _ _ [.ref 283, .int (s.2.1 282 a7.toInt.toNat), .ref 213] _ _
            refine g_ld rfl rfl rfl ?_
            refine g_ial rfl rfl (i_in (x := a7) rfl h.1) ?_
            change Go _ _ _ _ _ _ [.int (s.2.1 283 a7.toInt.toNat), .int (s.2.1 282 a7.toInt.toNat), .ref 213] _ _
            replace h := h.2
            refine g_ld rfl rfl rfl ?_
            refine g_ld rfl rfl rfl ?_
            refine g_call [.ref 213, .int (s.2.1 282 a7.toInt.toNat), .int (s.2.1 283 a7.toInt.toNat), .int a4, .int a5] [] rfl rfl rfl (Tot.imp h (fun v2 s1 h => ?_))
            obtain ⟨x3, rfl, h⟩ := h
            change Go _ _ _ _ _ _ [.int x3] _ _
            refine g_brP rfl rfl ⟨fun hc => ?_, fun hc => ?_⟩
            · replace h := h.1 ((i_eq (x := x3) (y := 0) rfl (show (0 : Int32).toInt = 0 by decide)).mp hc)
              exact k_250_43 r4 h
            · replace h := h.2 (fun q => hc ((i_eq (x := x3) (y := 0) rfl (show (0 : Int32).toInt = 0 by decide)).mpr q))
              refine g_c [.int 1] (xo_push (.int 1)) rfl rfl ?_
              refine g_go rfl ?_
              exact k_250_44 r4 h
def wl_250_4 (T : Nat → List Value → yS → (Option Value → yS → Prop) → Prop)  (a1 : Int32) (a2 : Int32) (a3 : Int32) (a4 : Int32) (a5 : Int32) (a6 : Int32) (a7 : Int32) (s : yS) (P : Option Value → yS → Prop) : Prop :=
  ∃ (I : Int32 → Int32 → Int32 → Int32 → Int32 → Int32 → Int32 → yS → Prop) (μ : Int32 → Int32 → Int32 → Int32 → Int32 → Int32 → Int32 → yS → Nat), I a1 a2 a3 a4 a5 a6 a7 s ∧ ∀ (a1 : Int32) (a2 : Int32) (a3 : Int32) (a4 : Int32) (a5 : Int32) (a6 : Int32) (a7 : Int32) (s : yS), I a1 a2 a3 a4 a5 a6 a7 s → w_250_4 T (fun a1' a2' a3' a4' a5' a6' a7' s' => I a1' a2' a3' a4' a5' a6' a7' s' ∧ μ a1' a2' a3' a4' a5' a6' a7' s' < μ a1 a2 a3 a4 a5 a6 a7 s) a1 a2 a3 a4 a5 a6 a7 s P
theorem kl_250_4 {d : Nat}  {a1 : Int32} {a2 : Int32} {a3 : Int32} {a4 : Int32} {a5 : Int32} {a6 : Int32} {a7 : Int32} {s : yS} {P : Option Value → yS → Prop}  (h : wl_250_4 (Tot d)  a1 a2 a3 a4 a5 a6 a7 s P) : Go d 8 (none) xE_250 (xE_250.drop 4) [.ref 213, .int a1, .int a2, .int a3, .int a4, .int a5, .int a6, .int a7, .null, .null, .null, .null, .null, .null] [] s P := by
  obtain ⟨I, μ, h0, h1⟩ := h
  have key : ∀ (n : Nat) (a1 : Int32) (a2 : Int32) (a3 : Int32) (a4 : Int32) (a5 : Int32) (a6 : Int32) (a7 : Int32) (s : yS), μ a1 a2 a3 a4 a5 a6 a7 s = n → I a1 a2 a3 a4 a5 a6 a7 s → Go d 8 (none) xE_250 (xE_250.drop 4) [.ref 213, .int a1, .int a2, .int a3, .int a4, .int a5, .int a6, .int a7, .null, .null, .null, .null, .null, .null] [] s P := by
    intro n
    induction n using Nat.strongRecOn with
    | ind n ih =>
      intro a1 a2 a3 a4 a5 a6 a7 s e hI
      exact k_250_4 (fun a1' a2' a3' a4' a5' a6' a7' s' q => ih _ (by rw [← e]; exact q.2) _ _ _ _ _ _ _ _ rfl q.1) (h1 a1 a2 a3 a4 a5 a6 a7 s hI)
  exact key _ a1 a2 a3 a4 a5 a6 a7 s rfl h0
def w_250_0 (T : Nat → List Value → yS → (Option Value → yS → Prop) → Prop)  (a1 : Int32) (a2 : Int32) (a3 : Int32) (a4 : Int32) (a5 : Int32) (s : yS) (P : Option Value → yS → Prop) : Prop :=
  wl_250_4 T  a1 a2 a3 a4 a5 0 0  s P
set_option maxRecDepth 20000 in
theorem k_250_0 {d : Nat}  {a1 : Int32} {a2 : Int32} {a3 : Int32} {a4 : Int32} {a5 : Int32} {s : yS} {P : Option Value → yS → Prop}  (h : w_250_0 (Tot d)  a1 a2 a3 a4 a5 s P) : Go d 8 (none) xE_250 (xE_250.drop 0) [.ref 213, .int a1, .int a2, .int a3, .int a4, .int a5, .null, .null, .null, .null, .null, .null, .null, .null] [] s P := by
  unfold w_250_0 at h
  refine g_c [.int 0] (xo_push (.int 0)) rfl rfl ?_
  refine g_st [.ref 213, .int a1, .int a2, .int a3, .int a4, .int a5, .int 0, .null, .null, .null, .null, .null, .null, .null] rfl rfl rfl ?_
  refine g_c [.int 0] (xo_push (.int 0)) rfl rfl ?_
  refine g_st [.ref 213, .int a1, .int a2, .int a3, .int a4, .int a5, .int 0, .int 0, .null, .null, .null, .null, .null, .null] rfl rfl rfl ?_
  exact kl_250_4  h
theorem t_250 {d : Nat} {a1 : Int32} {a2 : Int32} {a3 : Int32} {a4 : Int32} {a5 : Int32} {s : yS} {P : Option Value → yS → Prop} (h : w_250_0 (Tot d) a1 a2 a3 a4 a5 s P) : Tot (d + 1) 250 [.ref 213, .int a1, .int a2, .int a3, .int a4, .int a5] s P := tot_of (E := xE_250) (ml := 8) (ret := none) rfl rfl rfl (k_250_0 h)
/-! putFor -/
def w_251_19 (T : Nat → List Value → yS → (Option Value → yS → Prop) → Prop)  (a1 : Int32) (a2 : Int32) (t1 : Int32) (s : yS) (P : Option Value → yS → Prop) : Prop :=
  (t1.toInt = 0 ∨ t1.toInt = 1) ∧ (∀ s1, s1 = sf s 111 t1 → ((s1.1 111).toInt = 0 ∨ (s1.1 111).toInt = 1) ∧ P (some (.int (s1.1 111))) s1)
set_option maxRecDepth 20000 in
theorem k_251_19 {d : Nat}  {a1 : Int32} {a2 : Int32} {t1 : Int32} {s : yS} {P : Option Value → yS → Prop}  (h : w_251_19 (Tot d)  a1 a2 t1 s P) : Go d 3 (some .boolean) xE_251 (xE_251.drop 19) [.ref 213, .int a1, .int a2, .null, .null, .null] [.int t1, .ref 213] s P := by
  unfold w_251_19 at h
  refine g_put rfl rfl (i_z (x := t1) rfl h.1) ?_
  replace h := h.2
  replace h := h _ rfl
  refine g_ld rfl rfl rfl ?_
  refine g_get rfl rfl ?_
  change Go _ _ _ _ _ _ [.int ((sf s 111 t1).1 111)] _ _
  exact g_retZ rfl (i_z (x := (sf s 111 t1).1 111) rfl h.1) h.2
def w_251_18 (T : Nat → List Value → yS → (Option Value → yS → Prop) → Prop)  (a1 : Int32) (a2 : Int32) (s : yS) (P : Option Value → yS → Prop) : Prop :=
  w_251_19 T  a1 a2 0 s P
set_option maxRecDepth 20000 in
theorem k_251_18 {d : Nat}  {a1 : Int32} {a2 : Int32} {s : yS} {P : Option Value → yS → Prop}  (h : w_251_18 (Tot d)  a1 a2 s P) : Go d 3 (some .boolean) xE_251 (xE_251.drop 18) [.ref 213, .int a1, .int a2, .null, .null, .null] [.ref 213] s P := by
  unfold w_251_18 at h
  refine g_c [.int 0, .ref 213] (xo_push (.int 0)) rfl rfl ?_
  exact k_251_19  h
def w_251_0 (T : Nat → List Value → yS → (Option Value → yS → Prop) → Prop)  (a1 : Int32) (a2 : Int32) (s : yS) (P : Option Value → yS → Prop) : Prop :=
  ((s.1 111).toInt = 0 → w_251_18 T  a1 a2  s P) ∧ (¬ ((s.1 111).toInt = 0) → (0 ≤ a1.toInt ∧ a1.toInt < 12006) ∧ ((0 ≤ a1.toInt ∧ a1.toInt < 12006) ∧ (T 191 [.ref 213, .int (s.2.1 231 a1.toInt.toNat), .int (s.2.1 232 a1.toInt.toNat), .int a2] s (fun v2 s1 => ∃ x3, v2 = some (.int x3) ∧ ((x3.toInt = 0 → w_251_18 T  a1 a2  s1 P) ∧ (¬ (x3.toInt = 0) → w_251_19 T  a1 a2 1 s1 P))))))
set_option maxRecDepth 20000 in
theorem k_251_0 {d : Nat}  {a1 : Int32} {a2 : Int32} {s : yS} {P : Option Value → yS → Prop}  (h : w_251_0 (Tot d)  a1 a2 s P) : Go d 3 (some .boolean) xE_251 (xE_251.drop 0) [.ref 213, .int a1, .int a2, .null, .null, .null] [] s P := by
  unfold w_251_0 at h
  refine g_ld rfl rfl rfl ?_
  refine g_ld rfl rfl rfl ?_
  refine g_get rfl rfl ?_
  change Go _ _ _ _ _ _ [.int (s.1 111), .ref 213] _ _
  refine g_brP rfl rfl ⟨fun hc => ?_, fun hc => ?_⟩
  · replace h := h.1 ((i_eq (x := s.1 111) (y := 0) rfl (show (0 : Int32).toInt = 0 by decide)).mp hc)
    exact k_251_18  h
  · replace h := h.2 (fun q => hc ((i_eq (x := s.1 111) (y := 0) rfl (show (0 : Int32).toInt = 0 by decide)).mpr q))
    refine g_ld rfl rfl rfl ?_
    refine g_ld rfl rfl rfl ?_
    refine g_get rfl rfl ?_
    change Go _ _ _ _ _ _ [.ref 231, .ref 213, .ref 213] _ _
    refine g_ld rfl rfl rfl ?_
    refine g_ial rfl rfl (i_in (x := a1) rfl h.1) ?_
    change Go _ _ _ _ _ _ [.int (s.2.1 231 a1.toInt.toNat), .ref 213, .ref 213] _ _
    replace h := h.2
    refine g_ld rfl rfl rfl ?_
    refine g_get rfl rfl ?_
    change Go _ _ _ _ _ _ [.ref 232, .int (s.2.1 231 a1.toInt.toNat), .ref 213, .ref 213] _ _
    refine g_ld rfl rfl rfl ?_
    refine g_ial rfl rfl (i_in (x := a1) rfl h.1) ?_
    change Go _ _ _ _ _ _ [.int (s.2.1 232 a1.toInt.toNat), .int (s.2.1 231 a1.toInt.toNat), .ref 213, .ref 213] _ _
    replace h := h.2
    refine g_ld rfl rfl rfl ?_
    refine g_call [.ref 213, .int (s.2.1 231 a1.toInt.toNat), .int (s.2.1 232 a1.toInt.toNat), .int a2] [.ref 213] rfl rfl rfl (Tot.imp h (fun v2 s1 h => ?_))
    obtain ⟨x3, rfl, h⟩ := h
    change Go _ _ _ _ _ _ [.int x3, .ref 213] _ _
    refine g_brP rfl rfl ⟨fun hc => ?_, fun hc => ?_⟩
    · replace h := h.1 ((i_eq (x := x3) (y := 0) rfl (show (0 : Int32).toInt = 0 by decide)).mp hc)
      exact k_251_18  h
    · replace h := h.2 (fun q => hc ((i_eq (x := x3) (y := 0) rfl (show (0 : Int32).toInt = 0 by decide)).mpr q))
      refine g_c [.int 1, .ref 213] (xo_push (.int 1)) rfl rfl ?_
      refine g_go rfl ?_
      exact k_251_19  h
theorem t_251 {d : Nat} {a1 : Int32} {a2 : Int32} {s : yS} {P : Option Value → yS → Prop} (h : w_251_0 (Tot d) a1 a2 s P) : Tot (d + 1) 251 [.ref 213, .int a1, .int a2] s P := tot_of (E := xE_251) (ml := 3) (ret := some .boolean) rfl rfl rfl (k_251_0 h)
/-! addTypes -/
def w_252_17 (T : Nat → List Value → yS → (Option Value → yS → Prop) → Prop) (R17 : Int32 → Int32 → Int32 → Int32 → Int32 → Int32 → yS → Prop) (a1 : Int32) (a2 : Int32) (a3 : Int32) (a4 : Int32) (a5 : Int32) (a6 : Int32) (s : yS) (P : Option Value → yS → Prop) : Prop :=
  (-2147483648 ≤ a4.toInt + a5.toInt ∧ a4.toInt + a5.toInt ≤ 2147483647) ∧ (∀ x1 : Int32, x1.toInt = a4.toInt + a5.toInt → (x1.toInt ≤ a6.toInt → ∀ s2, s2 = sf s 64 a3 → P none s2) ∧ (¬ (x1.toInt ≤ a6.toInt) → T 186 [.ref 213, .int a6] s (fun v4 s3 => ∃ x5, v4 = some (.int x5) ∧ ((-2147483648 ≤ x5.toInt - a6.toInt ∧ x5.toInt - a6.toInt ≤ 2147483647) ∧ (∀ x6 : Int32, x6.toInt = x5.toInt - a6.toInt → T 250 [.ref 213, .int 0, .int 0, .int 1, .int a6, .int x6] s3 (fun v8 s7 => v8 = none ∧ ((-2147483648 ≤ a6.toInt + 1 ∧ a6.toInt + 1 ≤ 2147483647) ∧ (∀ x9 : Int32, x9.toInt = a6.toInt + 1 → R17 a1 a2 a3 a4 a5 x9  s7))))))))
set_option maxRecDepth 20000 in
theorem k_252_17 {d : Nat} {R17 : Int32 → Int32 → Int32 → Int32 → Int32 → Int32 → yS → Prop} {a1 : Int32} {a2 : Int32} {a3 : Int32} {a4 : Int32} {a5 : Int32} {a6 : Int32} {s : yS} {P : Option Value → yS → Prop} (r17 : ∀ a1 a2 a3 a4 a5 a6 s, R17 a1 a2 a3 a4 a5 a6 s → Go d 7 (none) xE_252 (xE_252.drop 17) [.ref 213, .int a1, .int a2, .int a3, .int a4, .int a5, .int a6, .null, .null, .null] [] s P) (h : w_252_17 (Tot d) R17 a1 a2 a3 a4 a5 a6 s P) : Go d 7 (none) xE_252 (xE_252.drop 17) [.ref 213, .int a1, .int a2, .int a3, .int a4, .int a5, .int a6, .null, .null, .null] [] s P := by
  unfold w_252_17 at h
  refine g_ld rfl rfl rfl ?_
  refine g_ld rfl rfl rfl ?_
  refine g_ld rfl rfl rfl ?_
  have ex1 := i_add (x := a4) (y := a5) rfl rfl h.1
  have cx1 := ck_add (x := a4) (y := a5) rfl rfl h.1
  replace h := h.2 _ ex1
  refine g_ca [.int (a4 + a5), .int a6] xo_iadd rfl rfl (fun _ => cx1) ?_
  refine g_brP rfl rfl ⟨fun hc => ?_, fun hc => ?_⟩
  · replace h := h.1 ((i_le (x := (a4 + a5)) (y := a6) rfl rfl).mp hc)
    refine g_ld rfl rfl rfl ?_
    refine g_ld rfl rfl rfl ?_
    refine g_put rfl rfl rfl ?_
    replace h := h _ rfl
    exact g_ret0 rfl h
  · replace h := h.2 (fun q => hc ((i_le (x := (a4 + a5)) (y := a6) rfl rfl).mpr q))
    refine g_ld rfl rfl rfl ?_
    refine g_c [.int 0, .ref 213] (xo_push (.int 0)) rfl rfl ?_
    refine g_c [.int 0, .int 0, .ref 213] (xo_push (.int 0)) rfl rfl ?_
    refine g_c [.int 1, .int 0, .int 0, .ref 213] (xo_push (.int 1)) rfl rfl ?_
    refine g_ld rfl rfl rfl ?_
    refine g_ld rfl rfl rfl ?_
    refine g_ld rfl rfl rfl ?_
    refine g_call [.ref 213, .int a6] [.int a6, .int 1, .int 0, .int 0, .ref 213] rfl rfl rfl (Tot.imp h (fun v4 s3 h => ?_))
    obtain ⟨x5, rfl, h⟩ := h
    change Go _ _ _ _ _ _ [.int x5, .int a6, .int 1, .int 0, .int 0, .ref 213] _ _
    refine g_ld rfl rfl rfl ?_
    have ex6 := i_sub (x := x5) (y := a6) rfl rfl h.1
    have cx6 := ck_sub (x := x5) (y := a6) rfl rfl h.1
    replace h := h.2 _ ex6
    refine g_ca [.int (x5 - a6), .int a6, .int 1, .int 0, .int 0, .ref 213] xo_isub rfl rfl (fun _ => cx6) ?_
    refine g_call [.ref 213, .int 0, .int 0, .int 1, .int a6, .int (x5 - a6)] [] rfl rfl rfl (Tot.imp h (fun v8 s7 h => ?_))
    obtain ⟨rfl, h⟩ := h
    change Go _ _ _ _ _ _ [] _ _
    have ex9 := i_add (x := a6) (y := 1) rfl (show (1 : Int32).toInt = 1 by decide) h.1
    have cx9 := ck_inc (x := a6) (n := 1) rfl h.1
    replace h := h.2 _ ex9
    refine g_inc [.ref 213, .int a1, .int a2, .int a3, .int a4, .int a5, .int (a6 + 1), .null, .null, .null] rfl rfl rfl rfl cx9 ?_
    refine g_go rfl ?_
    exact r17 a1 a2 a3 a4 a5 (a6 + 1)  s7 h
def wl_252_17 (T : Nat → List Value → yS → (Option Value → yS → Prop) → Prop)  (a1 : Int32) (a2 : Int32) (a3 : Int32) (a4 : Int32) (a5 : Int32) (a6 : Int32) (s : yS) (P : Option Value → yS → Prop) : Prop :=
  ∃ (I : Int32 → Int32 → Int32 → Int32 → Int32 → Int32 → yS → Prop) (μ : Int32 → Int32 → Int32 → Int32 → Int32 → Int32 → yS → Nat), I a1 a2 a3 a4 a5 a6 s ∧ ∀ (a1 : Int32) (a2 : Int32) (a3 : Int32) (a4 : Int32) (a5 : Int32) (a6 : Int32) (s : yS), I a1 a2 a3 a4 a5 a6 s → w_252_17 T (fun a1' a2' a3' a4' a5' a6' s' => I a1' a2' a3' a4' a5' a6' s' ∧ μ a1' a2' a3' a4' a5' a6' s' < μ a1 a2 a3 a4 a5 a6 s) a1 a2 a3 a4 a5 a6 s P
theorem kl_252_17 {d : Nat}  {a1 : Int32} {a2 : Int32} {a3 : Int32} {a4 : Int32} {a5 : Int32} {a6 : Int32} {s : yS} {P : Option Value → yS → Prop}  (h : wl_252_17 (Tot d)  a1 a2 a3 a4 a5 a6 s P) : Go d 7 (none) xE_252 (xE_252.drop 17) [.ref 213, .int a1, .int a2, .int a3, .int a4, .int a5, .int a6, .null, .null, .null] [] s P := by
  obtain ⟨I, μ, h0, h1⟩ := h
  have key : ∀ (n : Nat) (a1 : Int32) (a2 : Int32) (a3 : Int32) (a4 : Int32) (a5 : Int32) (a6 : Int32) (s : yS), μ a1 a2 a3 a4 a5 a6 s = n → I a1 a2 a3 a4 a5 a6 s → Go d 7 (none) xE_252 (xE_252.drop 17) [.ref 213, .int a1, .int a2, .int a3, .int a4, .int a5, .int a6, .null, .null, .null] [] s P := by
    intro n
    induction n using Nat.strongRecOn with
    | ind n ih =>
      intro a1 a2 a3 a4 a5 a6 s e hI
      exact k_252_17 (fun a1' a2' a3' a4' a5' a6' s' q => ih _ (by rw [← e]; exact q.2) _ _ _ _ _ _ _ rfl q.1) (h1 a1 a2 a3 a4 a5 a6 s hI)
  exact key _ a1 a2 a3 a4 a5 a6 s rfl h0
def w_252_0 (T : Nat → List Value → yS → (Option Value → yS → Prop) → Prop)  (a1 : Int32) (a2 : Int32) (s : yS) (P : Option Value → yS → Prop) : Prop :=
  T 251 [.ref 213, .int a1, .int a2] s (fun v2 s1 => ∃ x3, v2 = some (.int x3) ∧ ((¬ (x3.toInt = 0) → wl_252_17 T  a1 a2 (s.1 64) (s1.1 71) (s1.1 72) (s1.1 71)  s1 P) ∧ (x3.toInt = 0 → P none s1)))
set_option maxRecDepth 20000 in
theorem k_252_0 {d : Nat}  {a1 : Int32} {a2 : Int32} {s : yS} {P : Option Value → yS → Prop}  (h : w_252_0 (Tot d)  a1 a2 s P) : Go d 7 (none) xE_252 (xE_252.drop 0) [.ref 213, .int a1, .int a2, .null, .null, .null, .null, .null, .null, .null] [] s P := by
  unfold w_252_0 at h
  refine g_ld rfl rfl rfl ?_
  refine g_get rfl rfl ?_
  change Go _ _ _ _ _ _ [.int (s.1 64)] _ _
  refine g_st [.ref 213, .int a1, .int a2, .int (s.1 64), .null, .null, .null, .null, .null, .null] rfl rfl rfl ?_
  refine g_ld rfl rfl rfl ?_
  refine g_ld rfl rfl rfl ?_
  refine g_ld rfl rfl rfl ?_
  refine g_call [.ref 213, .int a1, .int a2] [] rfl rfl rfl (Tot.imp h (fun v2 s1 h => ?_))
  obtain ⟨x3, rfl, h⟩ := h
  change Go _ _ _ _ _ _ [.int x3] _ _
  refine g_brN rfl rfl ⟨fun hc => ?_, fun hc => ?_⟩
  · replace h := h.1 (fun q => hc ((i_eq (x := x3) (y := 0) rfl (show (0 : Int32).toInt = 0 by decide)).mpr q))
    refine g_ld rfl rfl rfl ?_
    refine g_get rfl rfl ?_
    change Go _ _ _ _ _ _ [.int (s1.1 71)] _ _
    refine g_st [.ref 213, .int a1, .int a2, .int (s.1 64), .int (s1.1 71), .null, .null, .null, .null, .null] rfl rfl rfl ?_
    refine g_ld rfl rfl rfl ?_
    refine g_get rfl rfl ?_
    change Go _ _ _ _ _ _ [.int (s1.1 72)] _ _
    refine g_st [.ref 213, .int a1, .int a2, .int (s.1 64), .int (s1.1 71), .int (s1.1 72), .null, .null, .null, .null] rfl rfl rfl ?_
    refine g_ld rfl rfl rfl ?_
    refine g_st [.ref 213, .int a1, .int a2, .int (s.1 64), .int (s1.1 71), .int (s1.1 72), .int (s1.1 71), .null, .null, .null] rfl rfl rfl ?_
    exact kl_252_17  h
  · replace h := h.2 ((i_eq (x := x3) (y := 0) rfl (show (0 : Int32).toInt = 0 by decide)).mp hc)
    exact g_ret0 rfl h
theorem t_252 {d : Nat} {a1 : Int32} {a2 : Int32} {s : yS} {P : Option Value → yS → Prop} (h : w_252_0 (Tot d) a1 a2 s P) : Tot (d + 1) 252 [.ref 213, .int a1, .int a2] s P := tot_of (E := xE_252) (ml := 7) (ret := none) rfl rfl rfl (k_252_0 h)
/-! addE -/
def w_253_60 (T : Nat → List Value → yS → (Option Value → yS → Prop) → Prop)  (a1 : Int32) (a2 : Int32) (s : yS) (P : Option Value → yS → Prop) : Prop :=
  P none s
set_option maxRecDepth 20000 in
theorem k_253_60 {d : Nat}  {a1 : Int32} {a2 : Int32} {s : yS} {P : Option Value → yS → Prop}  (h : w_253_60 (Tot d)  a1 a2 s P) : Go d 3 (none) xE_253 (xE_253.drop 60) [.ref 213, .int a1, .int a2, .null, .null, .null] [] s P := by
  unfold w_253_60 at h
  exact g_ret0 rfl h
def w_253_47 (T : Nat → List Value → yS → (Option Value → yS → Prop) → Prop)  (a1 : Int32) (a2 : Int32) (s : yS) (P : Option Value → yS → Prop) : Prop :=
  (0 ≤ a1.toInt ∧ a1.toInt < 12006) ∧ ((¬ ((s.2.1 221 a1.toInt.toNat).toInt = 2) → w_253_60 T  a1 a2  s P) ∧ ((s.2.1 221 a1.toInt.toNat).toInt = 2 → (0 ≤ a1.toInt ∧ a1.toInt < 12006) ∧ (T 254 [.ref 213, .int (s.2.1 224 a1.toInt.toNat), .int a2] s (fun v2 s1 => v2 = none ∧ (w_253_60 T  a1 a2  s1 P)))))
set_option maxRecDepth 20000 in
theorem k_253_47 {d : Nat}  {a1 : Int32} {a2 : Int32} {s : yS} {P : Option Value → yS → Prop}  (h : w_253_47 (Tot d)  a1 a2 s P) : Go d 3 (none) xE_253 (xE_253.drop 47) [.ref 213, .int a1, .int a2, .null, .null, .null] [] s P := by
  unfold w_253_47 at h
  refine g_ld rfl rfl rfl ?_
  refine g_get rfl rfl ?_
  change Go _ _ _ _ _ _ [.ref 221] _ _
  refine g_ld rfl rfl rfl ?_
  refine g_ial rfl rfl (i_in (x := a1) rfl h.1) ?_
  change Go _ _ _ _ _ _ [.int (s.2.1 221 a1.toInt.toNat)] _ _
  replace h := h.2
  refine g_c [.int 2, .int (s.2.1 221 a1.toInt.toNat)] (xo_push (.int 2)) rfl rfl ?_
  refine g_brN rfl rfl ⟨fun hc => ?_, fun hc => ?_⟩
  · replace h := h.1 (fun q => hc ((i_eq (x := s.2.1 221 a1.toInt.toNat) (y := 2) rfl (show (2 : Int32).toInt = 2 by decide)).mpr q))
    exact k_253_60  h
  · replace h := h.2 ((i_eq (x := s.2.1 221 a1.toInt.toNat) (y := 2) rfl (show (2 : Int32).toInt = 2 by decide)).mp hc)
    refine g_ld rfl rfl rfl ?_
    refine g_ld rfl rfl rfl ?_
    refine g_get rfl rfl ?_
    change Go _ _ _ _ _ _ [.ref 224, .ref 213] _ _
    refine g_ld rfl rfl rfl ?_
    refine g_ial rfl rfl (i_in (x := a1) rfl h.1) ?_
    change Go _ _ _ _ _ _ [.int (s.2.1 224 a1.toInt.toNat), .ref 213] _ _
    replace h := h.2
    refine g_ld rfl rfl rfl ?_
    refine g_call [.ref 213, .int (s.2.1 224 a1.toInt.toNat), .int a2] [] rfl rfl rfl (Tot.imp h (fun v2 s1 h => ?_))
    obtain ⟨rfl, h⟩ := h
    change Go _ _ _ _ _ _ [] _ _
    exact k_253_60  h
def w_253_34 (T : Nat → List Value → yS → (Option Value → yS → Prop) → Prop)  (a1 : Int32) (a2 : Int32) (s : yS) (P : Option Value → yS → Prop) : Prop :=
  (0 ≤ a1.toInt ∧ a1.toInt < 12006) ∧ (((s.2.1 221 a1.toInt.toNat).toInt = 3 → w_253_47 T  a1 a2  s P) ∧ (¬ ((s.2.1 221 a1.toInt.toNat).toInt = 3) → (0 ≤ a1.toInt ∧ a1.toInt < 12006) ∧ (T 252 [.ref 213, .int (s.2.1 229 a1.toInt.toNat), .int a2] s (fun v2 s1 => v2 = none ∧ (w_253_47 T  a1 a2  s1 P)))))
set_option maxRecDepth 20000 in
theorem k_253_34 {d : Nat}  {a1 : Int32} {a2 : Int32} {s : yS} {P : Option Value → yS → Prop}  (h : w_253_34 (Tot d)  a1 a2 s P) : Go d 3 (none) xE_253 (xE_253.drop 34) [.ref 213, .int a1, .int a2, .null, .null, .null] [] s P := by
  unfold w_253_34 at h
  refine g_ld rfl rfl rfl ?_
  refine g_get rfl rfl ?_
  change Go _ _ _ _ _ _ [.ref 221] _ _
  refine g_ld rfl rfl rfl ?_
  refine g_ial rfl rfl (i_in (x := a1) rfl h.1) ?_
  change Go _ _ _ _ _ _ [.int (s.2.1 221 a1.toInt.toNat)] _ _
  replace h := h.2
  refine g_c [.int 3, .int (s.2.1 221 a1.toInt.toNat)] (xo_push (.int 3)) rfl rfl ?_
  refine g_brP rfl rfl ⟨fun hc => ?_, fun hc => ?_⟩
  · replace h := h.1 ((i_eq (x := s.2.1 221 a1.toInt.toNat) (y := 3) rfl (show (3 : Int32).toInt = 3 by decide)).mp hc)
    exact k_253_47  h
  · replace h := h.2 (fun q => hc ((i_eq (x := s.2.1 221 a1.toInt.toNat) (y := 3) rfl (show (3 : Int32).toInt = 3 by decide)).mpr q))
    refine g_ld rfl rfl rfl ?_
    refine g_ld rfl rfl rfl ?_
    refine g_get rfl rfl ?_
    change Go _ _ _ _ _ _ [.ref 229, .ref 213] _ _
    refine g_ld rfl rfl rfl ?_
    refine g_ial rfl rfl (i_in (x := a1) rfl h.1) ?_
    change Go _ _ _ _ _ _ [.int (s.2.1 229 a1.toInt.toNat), .ref 213] _ _
    replace h := h.2
    refine g_ld rfl rfl rfl ?_
    refine g_call [.ref 213, .int (s.2.1 229 a1.toInt.toNat), .int a2] [] rfl rfl rfl (Tot.imp h (fun v2 s1 h => ?_))
    obtain ⟨rfl, h⟩ := h
    change Go _ _ _ _ _ _ [] _ _
    exact k_253_47  h
def w_253_9 (T : Nat → List Value → yS → (Option Value → yS → Prop) → Prop)  (a1 : Int32) (a2 : Int32) (s : yS) (P : Option Value → yS → Prop) : Prop :=
  P none s
set_option maxRecDepth 20000 in
theorem k_253_9 {d : Nat}  {a1 : Int32} {a2 : Int32} {s : yS} {P : Option Value → yS → Prop}  (h : w_253_9 (Tot d)  a1 a2 s P) : Go d 3 (none) xE_253 (xE_253.drop 9) [.ref 213, .int a1, .int a2, .null, .null, .null] [] s P := by
  unfold w_253_9 at h
  exact g_ret0 rfl h
def w_253_0 (T : Nat → List Value → yS → (Option Value → yS → Prop) → Prop)  (a1 : Int32) (a2 : Int32) (s : yS) (P : Option Value → yS → Prop) : Prop :=
  ((s.1 111).toInt = 0 → w_253_9 T  a1 a2  s P) ∧ (¬ ((s.1 111).toInt = 0) → (0 ≤ a1.toInt ∧ a1.toInt < 12006) ∧ ((¬ ((s.2.1 221 a1.toInt.toNat).toInt = 1) → (0 ≤ a1.toInt ∧ a1.toInt < 12006) ∧ ((¬ ((s.2.1 221 a1.toInt.toNat).toInt = 4) → (0 ≤ a1.toInt ∧ a1.toInt < 12006) ∧ (((s.2.1 221 a1.toInt.toNat).toInt = 2 → w_253_34 T  a1 a2  s P) ∧ (¬ ((s.2.1 221 a1.toInt.toNat).toInt = 2) → (0 ≤ a1.toInt ∧ a1.toInt < 12006) ∧ (T 253 [.ref 213, .int (s.2.1 227 a1.toInt.toNat), .int a2] s (fun v2 s1 => v2 = none ∧ (w_253_34 T  a1 a2  s1 P)))))) ∧ ((s.2.1 221 a1.toInt.toNat).toInt = 4 → T 255 [.ref 213, .int a1, .int a2] s (fun v4 s3 => v4 = none ∧ (P none s3))))) ∧ ((s.2.1 221 a1.toInt.toNat).toInt = 1 → w_253_9 T  a1 a2  s P)))
set_option maxRecDepth 20000 in
theorem k_253_0 {d : Nat}  {a1 : Int32} {a2 : Int32} {s : yS} {P : Option Value → yS → Prop}  (h : w_253_0 (Tot d)  a1 a2 s P) : Go d 3 (none) xE_253 (xE_253.drop 0) [.ref 213, .int a1, .int a2, .null, .null, .null] [] s P := by
  unfold w_253_0 at h
  refine g_ld rfl rfl rfl ?_
  refine g_get rfl rfl ?_
  change Go _ _ _ _ _ _ [.int (s.1 111)] _ _
  refine g_brP rfl rfl ⟨fun hc => ?_, fun hc => ?_⟩
  · replace h := h.1 ((i_eq (x := s.1 111) (y := 0) rfl (show (0 : Int32).toInt = 0 by decide)).mp hc)
    exact k_253_9  h
  · replace h := h.2 (fun q => hc ((i_eq (x := s.1 111) (y := 0) rfl (show (0 : Int32).toInt = 0 by decide)).mpr q))
    refine g_ld rfl rfl rfl ?_
    refine g_get rfl rfl ?_
    change Go _ _ _ _ _ _ [.ref 221] _ _
    refine g_ld rfl rfl rfl ?_
    refine g_ial rfl rfl (i_in (x := a1) rfl h.1) ?_
    change Go _ _ _ _ _ _ [.int (s.2.1 221 a1.toInt.toNat)] _ _
    replace h := h.2
    refine g_c [.int 1, .int (s.2.1 221 a1.toInt.toNat)] (xo_push (.int 1)) rfl rfl ?_
    refine g_brN rfl rfl ⟨fun hc => ?_, fun hc => ?_⟩
    · replace h := h.1 (fun q => hc ((i_eq (x := s.2.1 221 a1.toInt.toNat) (y := 1) rfl (show (1 : Int32).toInt = 1 by decide)).mpr q))
      refine g_ld rfl rfl rfl ?_
      refine g_get rfl rfl ?_
      change Go _ _ _ _ _ _ [.ref 221] _ _
      refine g_ld rfl rfl rfl ?_
      refine g_ial rfl rfl (i_in (x := a1) rfl h.1) ?_
      change Go _ _ _ _ _ _ [.int (s.2.1 221 a1.toInt.toNat)] _ _
      replace h := h.2
      refine g_c [.int 4, .int (s.2.1 221 a1.toInt.toNat)] (xo_push (.int 4)) rfl rfl ?_
      refine g_brN rfl rfl ⟨fun hc => ?_, fun hc => ?_⟩
      · replace h := h.1 (fun q => hc ((i_eq (x := s.2.1 221 a1.toInt.toNat) (y := 4) rfl (show (4 : Int32).toInt = 4 by decide)).mpr q))
        refine g_ld rfl rfl rfl ?_
        refine g_get rfl rfl ?_
        change Go _ _ _ _ _ _ [.ref 221] _ _
        refine g_ld rfl rfl rfl ?_
        refine g_ial rfl rfl (i_in (x := a1) rfl h.1) ?_
        change Go _ _ _ _ _ _ [.int (s.2.1 221 a1.toInt.toNat)] _ _
        replace h := h.2
        refine g_c [.int 2, .int (s.2.1 221 a1.toInt.toNat)] (xo_push (.int 2)) rfl rfl ?_
        refine g_brP rfl rfl ⟨fun hc => ?_, fun hc => ?_⟩
        · replace h := h.1 ((i_eq (x := s.2.1 221 a1.toInt.toNat) (y := 2) rfl (show (2 : Int32).toInt = 2 by decide)).mp hc)
          exact k_253_34  h
        · replace h := h.2 (fun q => hc ((i_eq (x := s.2.1 221 a1.toInt.toNat) (y := 2) rfl (show (2 : Int32).toInt = 2 by decide)).mpr q))
          refine g_ld rfl rfl rfl ?_
          refine g_ld rfl rfl rfl ?_
          refine g_get rfl rfl ?_
          change Go _ _ _ _ _ _ [.ref 227, .ref 213] _ _
          refine g_ld rfl rfl rfl ?_
          refine g_ial rfl rfl (i_in (x := a1) rfl h.1) ?_
          change Go _ _ _ _ _ _ [.int (s.2.1 227 a1.toInt.toNat), .ref 213] _ _
          replace h := h.2
          refine g_ld rfl rfl rfl ?_
          refine g_call [.ref 213, .int (s.2.1 227 a1.toInt.toNat), .int a2] [] rfl rfl rfl (Tot.imp h (fun v2 s1 h => ?_))
          obtain ⟨rfl, h⟩ := h
          change Go _ _ _ _ _ _ [] _ _
          exact k_253_34  h
      · replace h := h.2 ((i_eq (x := s.2.1 221 a1.toInt.toNat) (y := 4) rfl (show (4 : Int32).toInt = 4 by decide)).mp hc)
        refine g_ld rfl rfl rfl ?_
        refine g_ld rfl rfl rfl ?_
        refine g_ld rfl rfl rfl ?_
        refine g_call [.ref 213, .int a1, .int a2] [] rfl rfl rfl (Tot.imp h (fun v4 s3 h => ?_))
        obtain ⟨rfl, h⟩ := h
        change Go _ _ _ _ _ _ [] _ _
        exact g_ret0 rfl h
    · replace h := h.2 ((i_eq (x := s.2.1 221 a1.toInt.toNat) (y := 1) rfl (show (1 : Int32).toInt = 1 by decide)).mp hc)
      exact k_253_9  h
theorem t_253 {d : Nat} {a1 : Int32} {a2 : Int32} {s : yS} {P : Option Value → yS → Prop} (h : w_253_0 (Tot d) a1 a2 s P) : Tot (d + 1) 253 [.ref 213, .int a1, .int a2] s P := tot_of (E := xE_253) (ml := 3) (ret := none) rfl rfl rfl (k_253_0 h)
/-! addParts -/
def w_254_23 (T : Nat → List Value → yS → (Option Value → yS → Prop) → Prop)  (a1 : Int32) (a2 : Int32) (a3 : Int32) (s : yS) (P : Option Value → yS → Prop) : Prop :=
  P none s
set_option maxRecDepth 20000 in
theorem k_254_23 {d : Nat}  {a1 : Int32} {a2 : Int32} {a3 : Int32} {s : yS} {P : Option Value → yS → Prop}  (h : w_254_23 (Tot d)  a1 a2 a3 s P) : Go d 5 (none) xE_254 (xE_254.drop 23) [.ref 213, .int a1, .int a2, .int a3, .null, .null, .null, .null] [] s P := by
  unfold w_254_23 at h
  exact g_ret0 rfl h
def w_254_2 (T : Nat → List Value → yS → (Option Value → yS → Prop) → Prop) (R2 : Int32 → Int32 → Int32 → yS → Prop) (a1 : Int32) (a2 : Int32) (a3 : Int32) (s : yS) (P : Option Value → yS → Prop) : Prop :=
  (a3.toInt < 0 → w_254_23 T  a1 a2 a3  s P) ∧ (¬ (a3.toInt < 0) → ((s.1 111).toInt = 0 → w_254_23 T  a1 a2 a3  s P) ∧ (¬ ((s.1 111).toInt = 0) → T 253 [.ref 213, .int a3, .int a2] s (fun v2 s1 => v2 = none ∧ (∀ s3, s3 = sf s1 64 (s.1 64) → (0 ≤ a3.toInt ∧ a3.toInt < 12006) ∧ (R2 a1 a2 (s3.2.1 225 a3.toInt.toNat)  s3)))))
set_option maxRecDepth 20000 in
theorem k_254_2 {d : Nat} {R2 : Int32 → Int32 → Int32 → yS → Prop} {a1 : Int32} {a2 : Int32} {a3 : Int32} {s : yS} {P : Option Value → yS → Prop} (r2 : ∀ a1 a2 a3 s, R2 a1 a2 a3 s → Go d 5 (none) xE_254 (xE_254.drop 2) [.ref 213, .int a1, .int a2, .int a3, .null, .null, .null, .null] [] s P) (h : w_254_2 (Tot d) R2 a1 a2 a3 s P) : Go d 5 (none) xE_254 (xE_254.drop 2) [.ref 213, .int a1, .int a2, .int a3, .null, .null, .null, .null] [] s P := by
  unfold w_254_2 at h
  refine g_ld rfl rfl rfl ?_
  refine g_brP rfl rfl ⟨fun hc => ?_, fun hc => ?_⟩
  · replace h := h.1 ((i_lt (x := a3) (y := 0) rfl (show (0 : Int32).toInt = 0 by decide)).mp hc)
    exact k_254_23  h
  · replace h := h.2 (fun q => hc ((i_lt (x := a3) (y := 0) rfl (show (0 : Int32).toInt = 0 by decide)).mpr q))
    refine g_ld rfl rfl rfl ?_
    refine g_get rfl rfl ?_
    change Go _ _ _ _ _ _ [.int (s.1 111)] _ _
    refine g_brP rfl rfl ⟨fun hc => ?_, fun hc => ?_⟩
    · replace h := h.1 ((i_eq (x := s.1 111) (y := 0) rfl (show (0 : Int32).toInt = 0 by decide)).mp hc)
      exact k_254_23  h
    · replace h := h.2 (fun q => hc ((i_eq (x := s.1 111) (y := 0) rfl (show (0 : Int32).toInt = 0 by decide)).mpr q))
      refine g_ld rfl rfl rfl ?_
      refine g_get rfl rfl ?_
      change Go _ _ _ _ _ _ [.int (s.1 64)] _ _
      refine g_st [.ref 213, .int a1, .int a2, .int a3, .int (s.1 64), .null, .null, .null] rfl rfl rfl ?_
      refine g_ld rfl rfl rfl ?_
      refine g_ld rfl rfl rfl ?_
      refine g_ld rfl rfl rfl ?_
      refine g_call [.ref 213, .int a3, .int a2] [] rfl rfl rfl (Tot.imp h (fun v2 s1 h => ?_))
      obtain ⟨rfl, h⟩ := h
      change Go _ _ _ _ _ _ [] _ _
      refine g_ld rfl rfl rfl ?_
      refine g_ld rfl rfl rfl ?_
      refine g_put rfl rfl rfl ?_
      replace h := h _ rfl
      refine g_ld rfl rfl rfl ?_
      refine g_get rfl rfl ?_
      change Go _ _ _ _ _ _ [.ref 225] _ _
      refine g_ld rfl rfl rfl ?_
      refine g_ial rfl rfl (i_in (x := a3) rfl h.1) ?_
      change Go _ _ _ _ _ _ [.int ((sf s1 64 (s.1 64)).2.1 225 a3.toInt.toNat)] _ _
      replace h := h.2
      refine g_st [.ref 213, .int a1, .int a2, .int ((sf s1 64 (s.1 64)).2.1 225 a3.toInt.toNat), .int (s.1 64), .null, .null, .null] rfl rfl rfl ?_
      refine g_go rfl ?_
      refine g_fg 4 ?_
      exact r2 a1 a2 ((sf s1 64 (s.1 64)).2.1 225 a3.toInt.toNat)  (sf s1 64 (s.1 64)) h
def wl_254_2 (T : Nat → List Value → yS → (Option Value → yS → Prop) → Prop)  (a1 : Int32) (a2 : Int32) (a3 : Int32) (s : yS) (P : Option Value → yS → Prop) : Prop :=
  ∃ (I : Int32 → Int32 → Int32 → yS → Prop) (μ : Int32 → Int32 → Int32 → yS → Nat), I a1 a2 a3 s ∧ ∀ (a1 : Int32) (a2 : Int32) (a3 : Int32) (s : yS), I a1 a2 a3 s → w_254_2 T (fun a1' a2' a3' s' => I a1' a2' a3' s' ∧ μ a1' a2' a3' s' < μ a1 a2 a3 s) a1 a2 a3 s P
theorem kl_254_2 {d : Nat}  {a1 : Int32} {a2 : Int32} {a3 : Int32} {s : yS} {P : Option Value → yS → Prop}  (h : wl_254_2 (Tot d)  a1 a2 a3 s P) : Go d 5 (none) xE_254 (xE_254.drop 2) [.ref 213, .int a1, .int a2, .int a3, .null, .null, .null, .null] [] s P := by
  obtain ⟨I, μ, h0, h1⟩ := h
  have key : ∀ (n : Nat) (a1 : Int32) (a2 : Int32) (a3 : Int32) (s : yS), μ a1 a2 a3 s = n → I a1 a2 a3 s → Go d 5 (none) xE_254 (xE_254.drop 2) [.ref 213, .int a1, .int a2, .int a3, .null, .null, .null, .null] [] s P := by
    intro n
    induction n using Nat.strongRecOn with
    | ind n ih =>
      intro a1 a2 a3 s e hI
      exact k_254_2 (fun a1' a2' a3' s' q => ih _ (by rw [← e]; exact q.2) _ _ _ _ rfl q.1) (h1 a1 a2 a3 s hI)
  exact key _ a1 a2 a3 s rfl h0
def w_254_0 (T : Nat → List Value → yS → (Option Value → yS → Prop) → Prop)  (a1 : Int32) (a2 : Int32) (s : yS) (P : Option Value → yS → Prop) : Prop :=
  wl_254_2 T  a1 a2 a1  s P
set_option maxRecDepth 20000 in
theorem k_254_0 {d : Nat}  {a1 : Int32} {a2 : Int32} {s : yS} {P : Option Value → yS → Prop}  (h : w_254_0 (Tot d)  a1 a2 s P) : Go d 5 (none) xE_254 (xE_254.drop 0) [.ref 213, .int a1, .int a2, .null, .null, .null, .null, .null] [] s P := by
  unfold w_254_0 at h
  refine g_ld rfl rfl rfl ?_
  refine g_st [.ref 213, .int a1, .int a2, .int a1, .null, .null, .null, .null] rfl rfl rfl ?_
  exact kl_254_2  h
theorem t_254 {d : Nat} {a1 : Int32} {a2 : Int32} {s : yS} {P : Option Value → yS → Prop} (h : w_254_0 (Tot d) a1 a2 s P) : Tot (d + 1) 254 [.ref 213, .int a1, .int a2] s P := tot_of (E := xE_254) (ml := 5) (ret := none) rfl rfl rfl (k_254_0 h)
/-! addMethod -/
def w_255_120 (T : Nat → List Value → yS → (Option Value → yS → Prop) → Prop)  (a1 : Int32) (a2 : Int32) (a3 : Int32) (a4 : Int32) (a5 : Int32) (a6 : Int32) (s : yS) (P : Option Value → yS → Prop) : Prop :=
  ∀ s1, s1 = sf s 64 a3 → (0 ≤ a1.toInt ∧ a1.toInt < 12006) ∧ (T 254 [.ref 213, .int (s1.2.1 224 a1.toInt.toNat), .int a2] s1 (fun v3 s2 => v3 = none ∧ (P none s2)))
set_option maxRecDepth 20000 in
theorem k_255_120 {d : Nat}  {a1 : Int32} {a2 : Int32} {a3 : Int32} {a4 : Int32} {a5 : Int32} {a6 : Int32} {s : yS} {P : Option Value → yS → Prop}  (h : w_255_120 (Tot d)  a1 a2 a3 a4 a5 a6 s P) : Go d 7 (none) xE_255 (xE_255.drop 120) [.ref 213, .int a1, .int a2, .int a3, .int a4, .int a5, .int a6, .null, .null, .null] [] s P := by
  unfold w_255_120 at h
  refine g_ld rfl rfl rfl ?_
  refine g_ld rfl rfl rfl ?_
  refine g_put rfl rfl rfl ?_
  replace h := h _ rfl
  refine g_ld rfl rfl rfl ?_
  refine g_ld rfl rfl rfl ?_
  refine g_get rfl rfl ?_
  change Go _ _ _ _ _ _ [.ref 224, .ref 213] _ _
  refine g_ld rfl rfl rfl ?_
  refine g_ial rfl rfl (i_in (x := a1) rfl h.1) ?_
  change Go _ _ _ _ _ _ [.int ((sf s 64 a3).2.1 224 a1.toInt.toNat), .ref 213] _ _
  replace h := h.2
  refine g_ld rfl rfl rfl ?_
  refine g_call [.ref 213, .int ((sf s 64 a3).2.1 224 a1.toInt.toNat), .int a2] [] rfl rfl rfl (Tot.imp h (fun v3 s2 h => ?_))
  obtain ⟨rfl, h⟩ := h
  change Go _ _ _ _ _ _ [] _ _
  exact g_ret0 rfl h
def w_255_105 (T : Nat → List Value → yS → (Option Value → yS → Prop) → Prop) (R105 : Int32 → Int32 → Int32 → Int32 → Int32 → Int32 → yS → Prop) (a1 : Int32) (a2 : Int32) (a3 : Int32) (a4 : Int32) (a5 : Int32) (a6 : Int32) (s : yS) (P : Option Value → yS → Prop) : Prop :=
  (a6.toInt < 0 → w_255_120 T  a1 a2 a3 a4 a5 a6  s P) ∧ (¬ (a6.toInt < 0) → ((s.1 111).toInt = 0 → w_255_120 T  a1 a2 a3 a4 a5 a6  s P) ∧ (¬ ((s.1 111).toInt = 0) → T 252 [.ref 213, .int a6, .int a2] s (fun v2 s1 => v2 = none ∧ ((0 ≤ a6.toInt ∧ a6.toInt < 12006) ∧ (R105 a1 a2 a3 a4 a5 (s1.2.1 225 a6.toInt.toNat)  s1)))))
set_option maxRecDepth 20000 in
theorem k_255_105 {d : Nat} {R105 : Int32 → Int32 → Int32 → Int32 → Int32 → Int32 → yS → Prop} {a1 : Int32} {a2 : Int32} {a3 : Int32} {a4 : Int32} {a5 : Int32} {a6 : Int32} {s : yS} {P : Option Value → yS → Prop} (r105 : ∀ a1 a2 a3 a4 a5 a6 s, R105 a1 a2 a3 a4 a5 a6 s → Go d 7 (none) xE_255 (xE_255.drop 105) [.ref 213, .int a1, .int a2, .int a3, .int a4, .int a5, .int a6, .null, .null, .null] [] s P) (h : w_255_105 (Tot d) R105 a1 a2 a3 a4 a5 a6 s P) : Go d 7 (none) xE_255 (xE_255.drop 105) [.ref 213, .int a1, .int a2, .int a3, .int a4, .int a5, .int a6, .null, .null, .null] [] s P := by
  unfold w_255_105 at h
  refine g_ld rfl rfl rfl ?_
  refine g_brP rfl rfl ⟨fun hc => ?_, fun hc => ?_⟩
  · replace h := h.1 ((i_lt (x := a6) (y := 0) rfl (show (0 : Int32).toInt = 0 by decide)).mp hc)
    exact k_255_120  h
  · replace h := h.2 (fun q => hc ((i_lt (x := a6) (y := 0) rfl (show (0 : Int32).toInt = 0 by decide)).mpr q))
    refine g_ld rfl rfl rfl ?_
    refine g_get rfl rfl ?_
    change Go _ _ _ _ _ _ [.int (s.1 111)] _ _
    refine g_brP rfl rfl ⟨fun hc => ?_, fun hc => ?_⟩
    · replace h := h.1 ((i_eq (x := s.1 111) (y := 0) rfl (show (0 : Int32).toInt = 0 by decide)).mp hc)
      exact k_255_120  h
    · replace h := h.2 (fun q => hc ((i_eq (x := s.1 111) (y := 0) rfl (show (0 : Int32).toInt = 0 by decide)).mpr q))
      refine g_ld rfl rfl rfl ?_
      refine g_ld rfl rfl rfl ?_
      refine g_ld rfl rfl rfl ?_
      refine g_call [.ref 213, .int a6, .int a2] [] rfl rfl rfl (Tot.imp h (fun v2 s1 h => ?_))
      obtain ⟨rfl, h⟩ := h
      change Go _ _ _ _ _ _ [] _ _
      refine g_ld rfl rfl rfl ?_
      refine g_get rfl rfl ?_
      change Go _ _ _ _ _ _ [.ref 225] _ _
      refine g_ld rfl rfl rfl ?_
      refine g_ial rfl rfl (i_in (x := a6) rfl h.1) ?_
      change Go _ _ _ _ _ _ [.int (s1.2.1 225 a6.toInt.toNat)] _ _
      replace h := h.2
      refine g_st [.ref 213, .int a1, .int a2, .int a3, .int a4, .int a5, .int (s1.2.1 225 a6.toInt.toNat), .null, .null, .null] rfl rfl rfl ?_
      refine g_go rfl ?_
      exact r105 a1 a2 a3 a4 a5 (s1.2.1 225 a6.toInt.toNat)  s1 h
def wl_255_105 (T : Nat → List Value → yS → (Option Value → yS → Prop) → Prop)  (a1 : Int32) (a2 : Int32) (a3 : Int32) (a4 : Int32) (a5 : Int32) (a6 : Int32) (s : yS) (P : Option Value → yS → Prop) : Prop :=
  ∃ (I : Int32 → Int32 → Int32 → Int32 → Int32 → Int32 → yS → Prop) (μ : Int32 → Int32 → Int32 → Int32 → Int32 → Int32 → yS → Nat), I a1 a2 a3 a4 a5 a6 s ∧ ∀ (a1 : Int32) (a2 : Int32) (a3 : Int32) (a4 : Int32) (a5 : Int32) (a6 : Int32) (s : yS), I a1 a2 a3 a4 a5 a6 s → w_255_105 T (fun a1' a2' a3' a4' a5' a6' s' => I a1' a2' a3' a4' a5' a6' s' ∧ μ a1' a2' a3' a4' a5' a6' s' < μ a1 a2 a3 a4 a5 a6 s) a1 a2 a3 a4 a5 a6 s P
theorem kl_255_105 {d : Nat}  {a1 : Int32} {a2 : Int32} {a3 : Int32} {a4 : Int32} {a5 : Int32} {a6 : Int32} {s : yS} {P : Option Value → yS → Prop}  (h : wl_255_105 (Tot d)  a1 a2 a3 a4 a5 a6 s P) : Go d 7 (none) xE_255 (xE_255.drop 105) [.ref 213, .int a1, .int a2, .int a3, .int a4, .int a5, .int a6, .null, .null, .null] [] s P := by
  obtain ⟨I, μ, h0, h1⟩ := h
  have key : ∀ (n : Nat) (a1 : Int32) (a2 : Int32) (a3 : Int32) (a4 : Int32) (a5 : Int32) (a6 : Int32) (s : yS), μ a1 a2 a3 a4 a5 a6 s = n → I a1 a2 a3 a4 a5 a6 s → Go d 7 (none) xE_255 (xE_255.drop 105) [.ref 213, .int a1, .int a2, .int a3, .int a4, .int a5, .int a6, .null, .null, .null] [] s P := by
    intro n
    induction n using Nat.strongRecOn with
    | ind n ih =>
      intro a1 a2 a3 a4 a5 a6 s e hI
      exact k_255_105 (fun a1' a2' a3' a4' a5' a6' s' q => ih _ (by rw [← e]; exact q.2) _ _ _ _ _ _ _ rfl q.1) (h1 a1 a2 a3 a4 a5 a6 s hI)
  exact key _ a1 a2 a3 a4 a5 a6 s rfl h0
def w_255_100 (T : Nat → List Value → yS → (Option Value → yS → Prop) → Prop)  (a1 : Int32) (a2 : Int32) (a3 : Int32) (a4 : Int32) (a5 : Int32) (a6 : Int32) (s : yS) (P : Option Value → yS → Prop) : Prop :=
  (0 ≤ a1.toInt ∧ a1.toInt < 12006) ∧ (wl_255_105 T  a1 a2 a3 a4 a5 (s.2.1 229 a1.toInt.toNat)  s P)
set_option maxRecDepth 20000 in
theorem k_255_100 {d : Nat}  {a1 : Int32} {a2 : Int32} {a3 : Int32} {a4 : Int32} {a5 : Int32} {a6 : Int32} {s : yS} {P : Option Value → yS → Prop}  (h : w_255_100 (Tot d)  a1 a2 a3 a4 a5 a6 s P) : Go d 7 (none) xE_255 (xE_255.drop 100) [.ref 213, .int a1, .int a2, .int a3, .int a4, .int a5, .int a6, .null, .null, .null] [] s P := by
  unfold w_255_100 at h
  refine g_ld rfl rfl rfl ?_
  refine g_get rfl rfl ?_
  change Go _ _ _ _ _ _ [.ref 229] _ _
  refine g_ld rfl rfl rfl ?_
  refine g_ial rfl rfl (i_in (x := a1) rfl h.1) ?_
  change Go _ _ _ _ _ _ [.int (s.2.1 229 a1.toInt.toNat)] _ _
  replace h := h.2
  refine g_st [.ref 213, .int a1, .int a2, .int a3, .int a4, .int a5, .int (s.2.1 229 a1.toInt.toNat), .null, .null, .null] rfl rfl rfl ?_
  exact kl_255_105  h
def w_255_81 (T : Nat → List Value → yS → (Option Value → yS → Prop) → Prop)  (a1 : Int32) (a2 : Int32) (a3 : Int32) (a4 : Int32) (a5 : Int32) (a6 : Int32) (s : yS) (P : Option Value → yS → Prop) : Prop :=
  ((s.1 111).toInt = 0 → w_255_100 T  a1 a2 a3 a4 a5 a6  s P) ∧ (¬ ((s.1 111).toInt = 0) → (0 ≤ a1.toInt ∧ a1.toInt < 12006) ∧ ((0 ≤ (s.2.1 222 a1.toInt.toNat).toInt ∧ (s.2.1 222 a1.toInt.toNat).toInt < 12006) ∧ ((-2147483648 ≤ (s.1 64).toInt - a4.toInt ∧ (s.1 64).toInt - a4.toInt ≤ 2147483647) ∧ (∀ x1 : Int32, x1.toInt = (s.1 64).toInt - a4.toInt → T 250 [.ref 213, .int 1, .int (s.2.1 217 (s.2.1 222 a1.toInt.toNat).toInt.toNat), .int a5, .int a4, .int x1] s (fun v3 s2 => v3 = none ∧ (w_255_100 T  a1 a2 a3 a4 a5 a6  s2 P))))))
set_option maxRecDepth 20000 in
theorem k_255_81 {d : Nat}  {a1 : Int32} {a2 : Int32} {a3 : Int32} {a4 : Int32} {a5 : Int32} {a6 : Int32} {s : yS} {P : Option Value → yS → Prop}  (h : w_255_81 (Tot d)  a1 a2 a3 a4 a5 a6 s P) : Go d 7 (none) xE_255 (xE_255.drop 81) [.ref 213, .int a1, .int a2, .int a3, .int a4, .int a5, .int a6, .null, .null, .null] [] s P := by
  unfold w_255_81 at h
  refine g_ld rfl rfl rfl ?_
  refine g_get rfl rfl ?_
  change Go _ _ _ _ _ _ [.int (s.1 111)] _ _
  refine g_brP rfl rfl ⟨fun hc => ?_, fun hc => ?_⟩
  · replace h := h.1 ((i_eq (x := s.1 111) (y := 0) rfl (show (0 : Int32).toInt = 0 by decide)).mp hc)
    exact k_255_100  h
  · replace h := h.2 (fun q => hc ((i_eq (x := s.1 111) (y := 0) rfl (show (0 : Int32).toInt = 0 by decide)).mpr q))
    refine g_ld rfl rfl rfl ?_
    refine g_c [.int 1, .ref 213] (xo_push (.int 1)) rfl rfl ?_
    refine g_ld rfl rfl rfl ?_
    refine g_get rfl rfl ?_
    change Go _ _ _ _ _ _ [.ref 217, .int 1, .ref 213] _ _
    refine g_ld rfl rfl rfl ?_
    refine g_get rfl rfl ?_
    change Go _ _ _ _ _ _ [.ref 222, .ref 217, .int 1, .ref 213] _ _
    refine g_ld rfl rfl rfl ?_
    refine g_ial rfl rfl (i_in (x := a1) rfl h.1) ?_
    change Go _ _ _ _ _ _ [.int (s.2.1 222 a1.toInt.toNat), .ref 217, .int 1, .ref 213] _ _
    replace h := h.2
    refine g_ial rfl rfl (i_in (x := s.2.1 222 a1.toInt.toNat) rfl h.1) ?_
    change Go _ _ _ _ _ _ [.int (s.2.1 217 (s.2.1 222 a1.toInt.toNat).toInt.toNat), .int 1, .ref 213] _ _
    replace h := h.2
    refine g_ld rfl rfl rfl ?_
    refine g_ld rfl rfl rfl ?_
    refine g_ld rfl rfl rfl ?_
    refine g_get rfl rfl ?_
    change Go _ _ _ _ _ _ [.int (s.1 64), .int a4, .int a5, .int (s.2.1 217 (s.2.1 222 a1.toInt.toNat).toInt.toNat), .int 1, .ref 213] _ _
    refine g_ld rfl rfl rfl ?_
    have ex1 := i_sub (x := s.1 64) (y := a4) rfl rfl h.1
    have cx1 := ck_sub (x := s.1 64) (y := a4) rfl rfl h.1
    replace h := h.2 _ ex1
    refine g_ca [.int ((s.1 64) - a4), .int a4, .int a5, .int (s.2.1 217 (s.2.1 222 a1.toInt.toNat).toInt.toNat), .int 1, .ref 213] xo_isub rfl rfl (fun _ => cx1) ?_
    refine g_call [.ref 213, .int 1, .int (s.2.1 217 (s.2.1 222 a1.toInt.toNat).toInt.toNat), .int a5, .int a4, .int ((s.1 64) - a4)] [] rfl rfl rfl (Tot.imp h (fun v3 s2 h => ?_))
    obtain ⟨rfl, h⟩ := h
    change Go _ _ _ _ _ _ [] _ _
    exact k_255_100  h
def w_255_67 (T : Nat → List Value → yS → (Option Value → yS → Prop) → Prop) (R67 : Int32 → Int32 → Int32 → Int32 → Int32 → Int32 → yS → Prop) (a1 : Int32) (a2 : Int32) (a3 : Int32) (a4 : Int32) (a5 : Int32) (a6 : Int32) (s : yS) (P : Option Value → yS → Prop) : Prop :=
  (a6.toInt < 0 → w_255_81 T  a1 a2 a3 a4 a5 a6  s P) ∧ (¬ (a6.toInt < 0) → T 251 [.ref 213, .int a6, .int a2] s (fun v2 s1 => ∃ x3, v2 = some (.int x3) ∧ ((x3.toInt = 0 → w_255_81 T  a1 a2 a3 a4 a5 a6  s1 P) ∧ (¬ (x3.toInt = 0) → (-2147483648 ≤ a5.toInt + 1 ∧ a5.toInt + 1 ≤ 2147483647) ∧ (∀ x4 : Int32, x4.toInt = a5.toInt + 1 → (0 ≤ a6.toInt ∧ a6.toInt < 12006) ∧ (R67 a1 a2 a3 a4 x4 (s1.2.1 225 a6.toInt.toNat)  s1))))))
set_option maxRecDepth 20000 in
theorem k_255_67 {d : Nat} {R67 : Int32 → Int32 → Int32 → Int32 → Int32 → Int32 → yS → Prop} {a1 : Int32} {a2 : Int32} {a3 : Int32} {a4 : Int32} {a5 : Int32} {a6 : Int32} {s : yS} {P : Option Value → yS → Prop} (r67 : ∀ a1 a2 a3 a4 a5 a6 s, R67 a1 a2 a3 a4 a5 a6 s → Go d 7 (none) xE_255 (xE_255.drop 67) [.ref 213, .int a1, .int a2, .int a3, .int a4, .int a5, .int a6, .null, .null, .null] [] s P) (h : w_255_67 (Tot d) R67 a1 a2 a3 a4 a5 a6 s P) : Go d 7 (none) xE_255 (xE_255.drop 67) [.ref 213, .int a1, .int a2, .int a3, .int a4, .int a5, .int a6, .null, .null, .null] [] s P := by
  unfold w_255_67 at h
  refine g_ld rfl rfl rfl ?_
  refine g_brP rfl rfl ⟨fun hc => ?_, fun hc => ?_⟩
  · replace h := h.1 ((i_lt (x := a6) (y := 0) rfl (show (0 : Int32).toInt = 0 by decide)).mp hc)
    exact k_255_81  h
  · replace h := h.2 (fun q => hc ((i_lt (x := a6) (y := 0) rfl (show (0 : Int32).toInt = 0 by decide)).mpr q))
    refine g_ld rfl rfl rfl ?_
    refine g_ld rfl rfl rfl ?_
    refine g_ld rfl rfl rfl ?_
    refine g_call [.ref 213, .int a6, .int a2] [] rfl rfl rfl (Tot.imp h (fun v2 s1 h => ?_))
    obtain ⟨x3, rfl, h⟩ := h
    change Go _ _ _ _ _ _ [.int x3] _ _
    refine g_brP rfl rfl ⟨fun hc => ?_, fun hc => ?_⟩
    · replace h := h.1 ((i_eq (x := x3) (y := 0) rfl (show (0 : Int32).toInt = 0 by decide)).mp hc)
      exact k_255_81  h
    · replace h := h.2 (fun q => hc ((i_eq (x := x3) (y := 0) rfl (show (0 : Int32).toInt = 0 by decide)).mpr q))
      have ex4 := i_add (x := a5) (y := 1) rfl (show (1 : Int32).toInt = 1 by decide) h.1
      have cx4 := ck_inc (x := a5) (n := 1) rfl h.1
      replace h := h.2 _ ex4
      refine g_inc [.ref 213, .int a1, .int a2, .int a3, .int a4, .int (a5 + 1), .int a6, .null, .null, .null] rfl rfl rfl rfl cx4 ?_
      refine g_ld rfl rfl rfl ?_
      refine g_get rfl rfl ?_
      change Go _ _ _ _ _ _ [.ref 225] _ _
      refine g_ld rfl rfl rfl ?_
      refine g_ial rfl rfl (i_in (x := a6) rfl h.1) ?_
      change Go _ _ _ _ _ _ [.int (s1.2.1 225 a6.toInt.toNat)] _ _
      replace h := h.2
      refine g_st [.ref 213, .int a1, .int a2, .int a3, .int a4, .int (a5 + 1), .int (s1.2.1 225 a6.toInt.toNat), .null, .null, .null] rfl rfl rfl ?_
      refine g_go rfl ?_
      exact r67 a1 a2 a3 a4 (a5 + 1) (s1.2.1 225 a6.toInt.toNat)  s1 h
def wl_255_67 (T : Nat → List Value → yS → (Option Value → yS → Prop) → Prop)  (a1 : Int32) (a2 : Int32) (a3 : Int32) (a4 : Int32) (a5 : Int32) (a6 : Int32) (s : yS) (P : Option Value → yS → Prop) : Prop :=
  ∃ (I : Int32 → Int32 → Int32 → Int32 → Int32 → Int32 → yS → Prop) (μ : Int32 → Int32 → Int32 → Int32 → Int32 → Int32 → yS → Nat), I a1 a2 a3 a4 a5 a6 s ∧ ∀ (a1 : Int32) (a2 : Int32) (a3 : Int32) (a4 : Int32) (a5 : Int32) (a6 : Int32) (s : yS), I a1 a2 a3 a4 a5 a6 s → w_255_67 T (fun a1' a2' a3' a4' a5' a6' s' => I a1' a2' a3' a4' a5' a6' s' ∧ μ a1' a2' a3' a4' a5' a6' s' < μ a1 a2 a3 a4 a5 a6 s) a1 a2 a3 a4 a5 a6 s P
theorem kl_255_67 {d : Nat}  {a1 : Int32} {a2 : Int32} {a3 : Int32} {a4 : Int32} {a5 : Int32} {a6 : Int32} {s : yS} {P : Option Value → yS → Prop}  (h : wl_255_67 (Tot d)  a1 a2 a3 a4 a5 a6 s P) : Go d 7 (none) xE_255 (xE_255.drop 67) [.ref 213, .int a1, .int a2, .int a3, .int a4, .int a5, .int a6, .null, .null, .null] [] s P := by
  obtain ⟨I, μ, h0, h1⟩ := h
  have key : ∀ (n : Nat) (a1 : Int32) (a2 : Int32) (a3 : Int32) (a4 : Int32) (a5 : Int32) (a6 : Int32) (s : yS), μ a1 a2 a3 a4 a5 a6 s = n → I a1 a2 a3 a4 a5 a6 s → Go d 7 (none) xE_255 (xE_255.drop 67) [.ref 213, .int a1, .int a2, .int a3, .int a4, .int a5, .int a6, .null, .null, .null] [] s P := by
    intro n
    induction n using Nat.strongRecOn with
    | ind n ih =>
      intro a1 a2 a3 a4 a5 a6 s e hI
      exact k_255_67 (fun a1' a2' a3' a4' a5' a6' s' q => ih _ (by rw [← e]; exact q.2) _ _ _ _ _ _ _ rfl q.1) (h1 a1 a2 a3 a4 a5 a6 s hI)
  exact key _ a1 a2 a3 a4 a5 a6 s rfl h0
def w_255_59 (T : Nat → List Value → yS → (Option Value → yS → Prop) → Prop)  (a1 : Int32) (a2 : Int32) (a3 : Int32) (a4 : Int32) (t1 : Int32) (s : yS) (P : Option Value → yS → Prop) : Prop :=
  (t1.toInt = 0 ∨ t1.toInt = 1) ∧ (∀ s1, s1 = sf s 111 t1 → (0 ≤ a1.toInt ∧ a1.toInt < 12006) ∧ (wl_255_67 T  a1 a2 a3 a4 1 (s1.2.1 229 a1.toInt.toNat)  s1 P))
set_option maxRecDepth 20000 in
theorem k_255_59 {d : Nat}  {a1 : Int32} {a2 : Int32} {a3 : Int32} {a4 : Int32} {t1 : Int32} {s : yS} {P : Option Value → yS → Prop}  (h : w_255_59 (Tot d)  a1 a2 a3 a4 t1 s P) : Go d 7 (none) xE_255 (xE_255.drop 59) [.ref 213, .int a1, .int a2, .int a3, .int a4, .null, .null, .null, .null, .null] [.int t1, .ref 213] s P := by
  unfold w_255_59 at h
  refine g_put rfl rfl (i_z (x := t1) rfl h.1) ?_
  replace h := h.2
  replace h := h _ rfl
  refine g_c [.int 1] (xo_push (.int 1)) rfl rfl ?_
  refine g_st [.ref 213, .int a1, .int a2, .int a3, .int a4, .int 1, .null, .null, .null, .null] rfl rfl rfl ?_
  refine g_ld rfl rfl rfl ?_
  refine g_get rfl rfl ?_
  change Go _ _ _ _ _ _ [.ref 229] _ _
  refine g_ld rfl rfl rfl ?_
  refine g_ial rfl rfl (i_in (x := a1) rfl h.1) ?_
  change Go _ _ _ _ _ _ [.int ((sf s 111 t1).2.1 229 a1.toInt.toNat)] _ _
  replace h := h.2
  refine g_st [.ref 213, .int a1, .int a2, .int a3, .int a4, .int 1, .int ((sf s 111 t1).2.1 229 a1.toInt.toNat), .null, .null, .null] rfl rfl rfl ?_
  exact kl_255_67  h
def w_255_58 (T : Nat → List Value → yS → (Option Value → yS → Prop) → Prop)  (a1 : Int32) (a2 : Int32) (a3 : Int32) (a4 : Int32) (s : yS) (P : Option Value → yS → Prop) : Prop :=
  w_255_59 T  a1 a2 a3 a4 0 s P
set_option maxRecDepth 20000 in
theorem k_255_58 {d : Nat}  {a1 : Int32} {a2 : Int32} {a3 : Int32} {a4 : Int32} {s : yS} {P : Option Value → yS → Prop}  (h : w_255_58 (Tot d)  a1 a2 a3 a4 s P) : Go d 7 (none) xE_255 (xE_255.drop 58) [.ref 213, .int a1, .int a2, .int a3, .int a4, .null, .null, .null, .null, .null] [.ref 213] s P := by
  unfold w_255_58 at h
  refine g_c [.int 0, .ref 213] (xo_push (.int 0)) rfl rfl ?_
  exact k_255_59  h
def w_255_12 (T : Nat → List Value → yS → (Option Value → yS → Prop) → Prop) (R12 : Int32 → Int32 → Int32 → Int32 → yS → Prop) (a1 : Int32) (a2 : Int32) (a3 : Int32) (a4 : Int32) (s : yS) (P : Option Value → yS → Prop) : Prop :=
  (0 ≤ a1.toInt ∧ a1.toInt < 12006) ∧ (((s.2.1 272 a1.toInt.toNat).toInt ≤ a4.toInt → ((s.1 111).toInt = 0 → w_255_58 T  a1 a2 a3 (s.1 64)  s P) ∧ (¬ ((s.1 111).toInt = 0) → (0 ≤ a1.toInt ∧ a1.toInt < 12006) ∧ (T 191 [.ref 213, .int a3, .int (s.2.1 272 a1.toInt.toNat), .int a2] s (fun v2 s1 => ∃ x3, v2 = some (.int x3) ∧ ((x3.toInt = 0 → w_255_58 T  a1 a2 a3 (s.1 64)  s1 P) ∧ (¬ (x3.toInt = 0) → w_255_59 T  a1 a2 a3 (s.1 64) 1 s1 P)))))) ∧ (¬ ((s.2.1 272 a1.toInt.toNat).toInt ≤ a4.toInt) → (0 ≤ a1.toInt ∧ a1.toInt < 12006) ∧ ((-2147483648 ≤ (s.2.1 271 a1.toInt.toNat).toInt + a4.toInt ∧ (s.2.1 271 a1.toInt.toNat).toInt + a4.toInt ≤ 2147483647) ∧ (∀ x4 : Int32, x4.toInt = (s.2.1 271 a1.toInt.toNat).toInt + a4.toInt → (0 ≤ x4.toInt ∧ x4.toInt < 120000) ∧ ((0 ≤ (s.1 64).toInt ∧ (s.1 64).toInt < 200000) ∧ (∀ s5, s5 = sa s 264 (s.1 64).toInt.toNat (s.2.1 270 x4.toInt.toNat) → (-2147483648 ≤ (s5.1 64).toInt + 1 ∧ (s5.1 64).toInt + 1 ≤ 2147483647) ∧ (∀ x6 : Int32, x6.toInt = (s5.1 64).toInt + 1 → ∀ s7, s7 = sf s5 64 x6 → (-2147483648 ≤ a4.toInt + 1 ∧ a4.toInt + 1 ≤ 2147483647) ∧ (∀ x8 : Int32, x8.toInt = a4.toInt + 1 → R12 a1 a2 a3 x8  s7))))))))
set_option maxRecDepth 20000 in
theorem k_255_12 {d : Nat} {R12 : Int32 → Int32 → Int32 → Int32 → yS → Prop} {a1 : Int32} {a2 : Int32} {a3 : Int32} {a4 : Int32} {s : yS} {P : Option Value → yS → Prop} (r12 : ∀ a1 a2 a3 a4 s, R12 a1 a2 a3 a4 s → Go d 7 (none) xE_255 (xE_255.drop 12) [.ref 213, .int a1, .int a2, .int a3, .int a4, .null, .null, .null, .null, .null] [] s P) (h : w_255_12 (Tot d) R12 a1 a2 a3 a4 s P) : Go d 7 (none) xE_255 (xE_255.drop 12) [.ref 213, .int a1, .int a2, .int a3, .int a4, .null, .null, .null, .null, .null] [] s P := by
  unfold w_255_12 at h
  refine g_ld rfl rfl rfl ?_
  refine g_ld rfl rfl rfl ?_
  refine g_get rfl rfl ?_
  change Go _ _ _ _ _ _ [.ref 272, .int a4] _ _
  refine g_ld rfl rfl rfl ?_
  refine g_ial rfl rfl (i_in (x := a1) rfl h.1) ?_
  change Go _ _ _ _ _ _ [.int (s.2.1 272 a1.toInt.toNat), .int a4] _ _
  replace h := h.2
  refine g_brP rfl rfl ⟨fun hc => ?_, fun hc => ?_⟩
  · replace h := h.1 ((i_le (x := s.2.1 272 a1.toInt.toNat) (y := a4) rfl rfl).mp hc)
    refine g_ld rfl rfl rfl ?_
    refine g_get rfl rfl ?_
    change Go _ _ _ _ _ _ [.int (s.1 64)] _ _
    refine g_st [.ref 213, .int a1, .int a2, .int a3, .int (s.1 64), .null, .null, .null, .null, .null] rfl rfl rfl ?_
    refine g_ld rfl rfl rfl ?_
    refine g_ld rfl rfl rfl ?_
    refine g_get rfl rfl ?_
    change Go _ _ _ _ _ _ [.int (s.1 111), .ref 213] _ _
    refine g_brP rfl rfl ⟨fun hc => ?_, fun hc => ?_⟩
    · replace h := h.1 ((i_eq (x := s.1 111) (y := 0) rfl (show (0 : Int32).toInt = 0 by decide)).mp hc)
      exact k_255_58  h
    · replace h := h.2 (fun q => hc ((i_eq (x := s.1 111) (y := 0) rfl (show (0 : Int32).toInt = 0 by decide)).mpr q))
      refine g_ld rfl rfl rfl ?_
      refine g_ld rfl rfl rfl ?_
      refine g_ld rfl rfl rfl ?_
      refine g_get rfl rfl ?_
      change Go _ _ _ _ _ _ [.ref 272, .int a3, .ref 213, .ref 213] _ _
      refine g_ld rfl rfl rfl ?_
      refine g_ial rfl rfl (i_in (x := a1) rfl h.1) ?_
      change Go _ _ _ _ _ _ [.int (s.2.1 272 a1.toInt.toNat), .int a3, .ref 213, .ref 213] _ _
      replace h := h.2
      refine g_ld rfl rfl rfl ?_
      refine g_call [.ref 213, .int a3, .int (s.2.1 272 a1.toInt.toNat), .int a2] [.ref 213] rfl rfl rfl (Tot.imp h (fun v2 s1 h => ?_))
      obtain ⟨x3, rfl, h⟩ := h
      change Go _ _ _ _ _ _ [.int x3, .ref 213] _ _
      refine g_brP rfl rfl ⟨fun hc => ?_, fun hc => ?_⟩
      · replace h := h.1 ((i_eq (x := x3) (y := 0) rfl (show (0 : Int32).toInt = 0 by decide)).mp hc)
        exact k_255_58  h
      · replace h := h.2 (fun q => hc ((i_eq (x := x3) (y := 0) rfl (show (0 : Int32).toInt = 0 by decide)).mpr q))
        refine g_c [.int 1, .ref 213] (xo_push (.int 1)) rfl rfl ?_
        refine g_go rfl ?_
        exact k_255_59  h
  · replace h := h.2 (fun q => hc ((i_le (x := s.2.1 272 a1.toInt.toNat) (y := a4) rfl rfl).mpr q))
    refine g_ld rfl rfl rfl ?_
    refine g_get rfl rfl ?_
    change Go _ _ _ _ _ _ [.ref 264] _ _
    refine g_ld rfl rfl rfl ?_
    refine g_get rfl rfl ?_
    change Go _ _ _ _ _ _ [.int (s.1 64), .ref 264] _ _
    refine g_ld rfl rfl rfl ?_
    refine g_get rfl rfl ?_
    change Go _ _ _ _ _ _ [.ref 270, .int (s.1 64), .ref 264] _ _
    refine g_ld rfl rfl rfl ?_
    refine g_get rfl rfl ?_
    change Go _ _ _ _ _ _ [.ref 271, .ref 270, .int (s.1 64), .ref 264] _ _
    refine g_ld rfl rfl rfl ?_
    refine g_ial rfl rfl (i_in (x := a1) rfl h.1) ?_
    change Go _ _ _ _ _ _ [.int (s.2.1 271 a1.toInt.toNat), .ref 270, .int (s.1 64), .ref 264] _ _
    replace h := h.2
    refine g_ld rfl rfl rfl ?_
    have ex4 := i_add (x := s.2.1 271 a1.toInt.toNat) (y := a4) rfl rfl h.1
    have cx4 := ck_add (x := s.2.1 271 a1.toInt.toNat) (y := a4) rfl rfl h.1
    replace h := h.2 _ ex4
    refine g_ca [.int ((s.2.1 271 a1.toInt.toNat) + a4), .ref 270, .int (s.1 64), .ref 264] xo_iadd rfl rfl (fun _ => cx4) ?_
    refine g_ial rfl rfl (i_in (x := ((s.2.1 271 a1.toInt.toNat) + a4)) rfl h.1) ?_
    change Go _ _ _ _ _ _ [.int (s.2.1 270 ((s.2.1 271 a1.toInt.toNat) + a4).toInt.toNat), .int (s.1 64), .ref 264] _ _
    replace h := h.2
    refine g_ias rfl rfl (i_in (x := s.1 64) rfl h.1) ?_
    replace h := h.2
    replace h := h _ rfl
    refine g_ld rfl rfl rfl ?_
    refine g_c [.ref 213, .ref 213] xo_dup rfl rfl ?_
    refine g_get rfl rfl ?_
    change Go _ _ _ _ _ _ [.int ((sa s 264 (s.1 64).toInt.toNat (s.2.1 270 ((s.2.1 271 a1.toInt.toNat) + a4).toInt.toNat)).1 64), .ref 213] _ _
    refine g_c [.int 1, .int ((sa s 264 (s.1 64).toInt.toNat (s.2.1 270 ((s.2.1 271 a1.toInt.toNat) + a4).toInt.toNat)).1 64), .ref 213] (xo_push (.int 1)) rfl rfl ?_
    have ex6 := i_add (x := (sa s 264 (s.1 64).toInt.toNat (s.2.1 270 ((s.2.1 271 a1.toInt.toNat) + a4).toInt.toNat)).1 64) (y := 1) rfl (show (1 : Int32).toInt = 1 by decide) h.1
    have cx6 := ck_add (x := (sa s 264 (s.1 64).toInt.toNat (s.2.1 270 ((s.2.1 271 a1.toInt.toNat) + a4).toInt.toNat)).1 64) (y := 1) rfl (show (1 : Int32).toInt = 1 by decide) h.1
    replace h := h.2 _ ex6
    refine g_ca [.int (((sa s 264 (s.1 64).toInt.toNat (s.2.1 270 ((s.2.1 271 a1.toInt.toNat) + a4).toInt.toNat)).1 64) + 1), .ref 213] xo_iadd rfl rfl (fun _ => cx6) ?_
    refine g_put rfl rfl rfl ?_
    replace h := h _ rfl
    have ex8 := i_add (x := a4) (y := 1) rfl (show (1 : Int32).toInt = 1 by decide) h.1
    have cx8 := ck_inc (x := a4) (n := 1) rfl h.1
    replace h := h.2 _ ex8
    refine g_inc [.ref 213, .int a1, .int a2, .int a3, .int (a4 + 1), .null, .null, .null, .null, .null] rfl rfl rfl rfl cx8 ?_
    refine g_go rfl ?_
    exact r12 a1 a2 a3 (a4 + 1)  (sf (sa s 264 (s.1 64).toInt.toNat (s.2.1 270 ((s.2.1 271 a1.toInt.toNat) + a4).toInt.toNat)) 64 (((sa s 264 (s.1 64).toInt.toNat (s.2.1 270 ((s.2.1 271 a1.toInt.toNat) + a4).toInt.toNat)).1 64) + 1)) h
def wl_255_12 (T : Nat → List Value → yS → (Option Value → yS → Prop) → Prop)  (a1 : Int32) (a2 : Int32) (a3 : Int32) (a4 : Int32) (s : yS) (P : Option Value → yS → Prop) : Prop :=
  ∃ (I : Int32 → Int32 → Int32 → Int32 → yS → Prop) (μ : Int32 → Int32 → Int32 → Int32 → yS → Nat), I a1 a2 a3 a4 s ∧ ∀ (a1 : Int32) (a2 : Int32) (a3 : Int32) (a4 : Int32) (s : yS), I a1 a2 a3 a4 s → w_255_12 T (fun a1' a2' a3' a4' s' => I a1' a2' a3' a4' s' ∧ μ a1' a2' a3' a4' s' < μ a1 a2 a3 a4 s) a1 a2 a3 a4 s P
theorem kl_255_12 {d : Nat}  {a1 : Int32} {a2 : Int32} {a3 : Int32} {a4 : Int32} {s : yS} {P : Option Value → yS → Prop}  (h : wl_255_12 (Tot d)  a1 a2 a3 a4 s P) : Go d 7 (none) xE_255 (xE_255.drop 12) [.ref 213, .int a1, .int a2, .int a3, .int a4, .null, .null, .null, .null, .null] [] s P := by
  obtain ⟨I, μ, h0, h1⟩ := h
  have key : ∀ (n : Nat) (a1 : Int32) (a2 : Int32) (a3 : Int32) (a4 : Int32) (s : yS), μ a1 a2 a3 a4 s = n → I a1 a2 a3 a4 s → Go d 7 (none) xE_255 (xE_255.drop 12) [.ref 213, .int a1, .int a2, .int a3, .int a4, .null, .null, .null, .null, .null] [] s P := by
    intro n
    induction n using Nat.strongRecOn with
    | ind n ih =>
      intro a1 a2 a3 a4 s e hI
      exact k_255_12 (fun a1' a2' a3' a4' s' q => ih _ (by rw [← e]; exact q.2) _ _ _ _ _ rfl q.1) (h1 a1 a2 a3 a4 s hI)
  exact key _ a1 a2 a3 a4 s rfl h0
def w_255_0 (T : Nat → List Value → yS → (Option Value → yS → Prop) → Prop)  (a1 : Int32) (a2 : Int32) (s : yS) (P : Option Value → yS → Prop) : Prop :=
  (0 ≤ a1.toInt ∧ a1.toInt < 12006) ∧ (T 253 [.ref 213, .int (s.2.1 227 a1.toInt.toNat), .int a2] s (fun v2 s1 => v2 = none ∧ (wl_255_12 T  a1 a2 (s1.1 64) 0  s1 P)))
set_option maxRecDepth 20000 in
theorem k_255_0 {d : Nat}  {a1 : Int32} {a2 : Int32} {s : yS} {P : Option Value → yS → Prop}  (h : w_255_0 (Tot d)  a1 a2 s P) : Go d 7 (none) xE_255 (xE_255.drop 0) [.ref 213, .int a1, .int a2, .null, .null, .null, .null, .null, .null, .null] [] s P := by
  unfold w_255_0 at h
  refine g_ld rfl rfl rfl ?_
  refine g_ld rfl rfl rfl ?_
  refine g_get rfl rfl ?_
  change Go _ _ _ _ _ _ [.ref 227, .ref 213] _ _
  refine g_ld rfl rfl rfl ?_
  refine g_ial rfl rfl (i_in (x := a1) rfl h.1) ?_
  change Go _ _ _ _ _ _ [.int (s.2.1 227 a1.toInt.toNat), .ref 213] _ _
  replace h := h.2
  refine g_ld rfl rfl rfl ?_
  refine g_call [.ref 213, .int (s.2.1 227 a1.toInt.toNat), .int a2] [] rfl rfl rfl (Tot.imp h (fun v2 s1 h => ?_))
  obtain ⟨rfl, h⟩ := h
  change Go _ _ _ _ _ _ [] _ _
  refine g_ld rfl rfl rfl ?_
  refine g_get rfl rfl ?_
  change Go _ _ _ _ _ _ [.int (s1.1 64)] _ _
  refine g_st [.ref 213, .int a1, .int a2, .int (s1.1 64), .null, .null, .null, .null, .null, .null] rfl rfl rfl ?_
  refine g_c [.int 0] (xo_push (.int 0)) rfl rfl ?_
  refine g_st [.ref 213, .int a1, .int a2, .int (s1.1 64), .int 0, .null, .null, .null, .null, .null] rfl rfl rfl ?_
  exact kl_255_12  h
theorem t_255 {d : Nat} {a1 : Int32} {a2 : Int32} {s : yS} {P : Option Value → yS → Prop} (h : w_255_0 (Tot d) a1 a2 s P) : Tot (d + 1) 255 [.ref 213, .int a1, .int a2] s P := tot_of (E := xE_255) (ml := 7) (ret := none) rfl rfl rfl (k_255_0 h)
/-! addBody -/
def w_256_189 (T : Nat → List Value → yS → (Option Value → yS → Prop) → Prop) (R189 : Int32 → Int32 → Int32 → Int32 → Int32 → Int32 → Int32 → Int32 → Int32 → Int32 → Int32 → Int32 → Int32 → yS → Prop) (a1 : Int32) (a2 : Int32) (a3 : Int32) (a4 : Int32) (a5 : Int32) (a6 : Int32) (a7 : Int32) (a8 : Int32) (a9 : Int32) (a10 : Int32) (a11 : Int32) (a12 : Int32) (a13 : Int32) (s : yS) (P : Option Value → yS → Prop) : Prop :=
  (0 ≤ a11.toInt ∧ a11.toInt < 600) ∧ (((s.2.1 266 a11.toInt.toNat).toInt ≤ a13.toInt → ∀ s1, s1 = sf s 78 a9 → (0 ≤ a9.toInt ∧ a9.toInt < 120) ∧ (T 253 [.ref 213, .int (s1.2.1 258 a9.toInt.toNat), .int a10] s1 (fun v3 s2 => v3 = none ∧ (∀ s4, s4 = sf s2 78 (s.1 78) → (-2147483648 ≤ (s4.1 70).toInt - 1 ∧ (s4.1 70).toInt - 1 ≤ 2147483647) ∧ (∀ x5 : Int32, x5.toInt = (s4.1 70).toInt - 1 → ∀ s6, s6 = sf s4 70 x5 → ∀ s7, s7 = sf s6 64 a5 → P none s7))))) ∧ (¬ ((s.2.1 266 a11.toInt.toNat).toInt ≤ a13.toInt) → (-2147483648 ≤ 6 * a11.toInt ∧ 6 * a11.toInt ≤ 2147483647) ∧ (∀ x8 : Int32, x8.toInt = 6 * a11.toInt → (-2147483648 ≤ x8.toInt + a13.toInt ∧ x8.toInt + a13.toInt ≤ 2147483647) ∧ (∀ x9 : Int32, x9.toInt = x8.toInt + a13.toInt → (0 ≤ x9.toInt ∧ x9.toInt < 3600) ∧ (∀ s10, s10 = sa s 267 x9.toInt.toNat a12 → (-2147483648 ≤ 6 * a11.toInt ∧ 6 * a11.toInt ≤ 2147483647) ∧ (∀ x11 : Int32, x11.toInt = 6 * a11.toInt → (-2147483648 ≤ x11.toInt + a13.toInt ∧ x11.toInt + a13.toInt ≤ 2147483647) ∧ (∀ x12 : Int32, x12.toInt = x11.toInt + a13.toInt → T 186 [.ref 213, .int a12] s10 (fun v14 s13 => ∃ x15, v14 = some (.int x15) ∧ ((-2147483648 ≤ x15.toInt - a12.toInt ∧ x15.toInt - a12.toInt ≤ 2147483647) ∧ (∀ x16 : Int32, x16.toInt = x15.toInt - a12.toInt → (0 ≤ x12.toInt ∧ x12.toInt < 3600) ∧ (∀ s17, s17 = sa s13 268 x12.toInt.toNat x16 → T 186 [.ref 213, .int a12] s17 (fun v19 s18 => ∃ x20, v19 = some (.int x20) ∧ ((-2147483648 ≤ a13.toInt + 1 ∧ a13.toInt + 1 ≤ 2147483647) ∧ (∀ x21 : Int32, x21.toInt = a13.toInt + 1 → R189 a1 a2 a3 a4 a5 a6 a7 a8 a9 a10 a11 x20 x21  s18))))))))))))))
set_option maxRecDepth 20000 in
theorem k_256_189 {d : Nat} {R189 : Int32 → Int32 → Int32 → Int32 → Int32 → Int32 → Int32 → Int32 → Int32 → Int32 → Int32 → Int32 → Int32 → yS → Prop} {a1 : Int32} {a2 : Int32} {a3 : Int32} {a4 : Int32} {a5 : Int32} {a6 : Int32} {a7 : Int32} {a8 : Int32} {a9 : Int32} {a10 : Int32} {a11 : Int32} {a12 : Int32} {a13 : Int32} {s : yS} {P : Option Value → yS → Prop} (r189 : ∀ a1 a2 a3 a4 a5 a6 a7 a8 a9 a10 a11 a12 a13 s, R189 a1 a2 a3 a4 a5 a6 a7 a8 a9 a10 a11 a12 a13 s → Go d 14 (none) xE_256 (xE_256.drop 189) [.ref 213, .int a1, .int a2, .int a3, .int a4, .int a5, .int a6, .int a7, .int a8, .int a9, .int a10, .int a11, .int a12, .int a13, .null, .null, .null, .null] [] s P) (h : w_256_189 (Tot d) R189 a1 a2 a3 a4 a5 a6 a7 a8 a9 a10 a11 a12 a13 s P) : Go d 14 (none) xE_256 (xE_256.drop 189) [.ref 213, .int a1, .int a2, .int a3, .int a4, .int a5, .int a6, .int a7, .int a8, .int a9, .int a10, .int a11, .int a12, .int a13, .null, .null, .null, .null] [] s P := by
  unfold w_256_189 at h
  refine g_ld rfl rfl rfl ?_
  refine g_ld rfl rfl rfl ?_
  refine g_get rfl rfl ?_
  change Go _ _ _ _ _ _ [.ref 266, .int a13] _ _
  refine g_ld rfl rfl rfl ?_
  refine g_ial rfl rfl (i_in (x := a11) rfl h.1) ?_
  change Go _ _ _ _ _ _ [.int (s.2.1 266 a11.toInt.toNat), .int a13] _ _
  replace h := h.2
  refine g_brP rfl rfl ⟨fun hc => ?_, fun hc => ?_⟩
  · replace h := h.1 ((i_le (x := s.2.1 266 a11.toInt.toNat) (y := a13) rfl rfl).mp hc)
    refine g_ld rfl rfl rfl ?_
    refine g_get rfl rfl ?_
    change Go _ _ _ _ _ _ [.int (s.1 78)] _ _
    refine g_st [.ref 213, .int a1, .int a2, .int a3, .int a4, .int a5, .int a6, .int a7, .int a8, .int a9, .int a10, .int a11, .int a12, .int (s.1 78), .null, .null, .null, .null] rfl rfl rfl ?_
    refine g_ld rfl rfl rfl ?_
    refine g_ld rfl rfl rfl ?_
    refine g_put rfl rfl rfl ?_
    replace h := h _ rfl
    refine g_ld rfl rfl rfl ?_
    refine g_ld rfl rfl rfl ?_
    refine g_get rfl rfl ?_
    change Go _ _ _ _ _ _ [.ref 258, .ref 213] _ _
    refine g_ld rfl rfl rfl ?_
    refine g_ial rfl rfl (i_in (x := a9) rfl h.1) ?_
    change Go _ _ _ _ _ _ [.int ((sf s 78 a9).2.1 258 a9.toInt.toNat), .ref 213] _ _
    replace h := h.2
    refine g_ld rfl rfl rfl ?_
    refine g_call [.ref 213, .int ((sf s 78 a9).2.1 258 a9.toInt.toNat), .int a10] [] rfl rfl rfl (Tot.imp h (fun v3 s2 h => ?_))
    obtain ⟨rfl, h⟩ := h
    change Go _ _ _ _ _ _ [] _ _
    refine g_ld rfl rfl rfl ?_
    refine g_ld rfl rfl rfl ?_
    refine g_put rfl rfl rfl ?_
    replace h := h _ rfl
    refine g_ld rfl rfl rfl ?_
    refine g_c [.ref 213, .ref 213] xo_dup rfl rfl ?_
    refine g_get rfl rfl ?_
    change Go _ _ _ _ _ _ [.int ((sf s2 78 (s.1 78)).1 70), .ref 213] _ _
    refine g_c [.int 1, .int ((sf s2 78 (s.1 78)).1 70), .ref 213] (xo_push (.int 1)) rfl rfl ?_
    have ex5 := i_sub (x := (sf s2 78 (s.1 78)).1 70) (y := 1) rfl (show (1 : Int32).toInt = 1 by decide) h.1
    have cx5 := ck_sub (x := (sf s2 78 (s.1 78)).1 70) (y := 1) rfl (show (1 : Int32).toInt = 1 by decide) h.1
    replace h := h.2 _ ex5
    refine g_ca [.int (((sf s2 78 (s.1 78)).1 70) - 1), .ref 213] xo_isub rfl rfl (fun _ => cx5) ?_
    refine g_put rfl rfl rfl ?_
    replace h := h _ rfl
    refine g_ld rfl rfl rfl ?_
    refine g_ld rfl rfl rfl ?_
    refine g_put rfl rfl rfl ?_
    replace h := h _ rfl
    exact g_ret0 rfl h
  · replace h := h.2 (fun q => hc ((i_le (x := s.2.1 266 a11.toInt.toNat) (y := a13) rfl rfl).mpr q))
    refine g_ld rfl rfl rfl ?_
    refine g_get rfl rfl ?_
    change Go _ _ _ _ _ _ [.ref 267] _ _
    refine g_c [.int 6, .ref 267] (xo_push (.int 6)) rfl rfl ?_
    refine g_ld rfl rfl rfl ?_
    have ex8 := i_mul (x := 6) (y := a11) (show (6 : Int32).toInt = 6 by decide) rfl h.1
    have cx8 := ck_mul (x := 6) (y := a11) (show (6 : Int32).toInt = 6 by decide) rfl h.1
    replace h := h.2 _ ex8
    refine g_ca [.int (6 * a11), .ref 267] xo_imul rfl rfl (fun _ => cx8) ?_
    refine g_ld rfl rfl rfl ?_
    have ex9 := i_add (x := (6 * a11)) (y := a13) rfl rfl h.1
    have cx9 := ck_add (x := (6 * a11)) (y := a13) rfl rfl h.1
    replace h := h.2 _ ex9
    refine g_ca [.int ((6 * a11) + a13), .ref 267] xo_iadd rfl rfl (fun _ => cx9) ?_
    refine g_ld rfl rfl rfl ?_
    refine g_ias rfl rfl (i_in (x := ((6 * a11) + a13)) rfl h.1) ?_
    replace h := h.2
    replace h := h _ rfl
    refine g_ld rfl rfl rfl ?_
    refine g_get rfl rfl ?_
    change Go _ _ _ _ _ _ [.ref 268] _ _
    refine g_c [.int 6, .ref 268] (xo_push (.int 6)) rfl rfl ?_
    refine g_ld rfl rfl rfl ?_
    have ex11 := i_mul (x := 6) (y := a11) (show (6 : Int32).toInt = 6 by decide) rfl h.1
    have cx11 := ck_mul (x := 6) (y := a11) (show (6 : Int32).toInt = 6 by decide) rfl h.1
    replace h := h.2 _ ex11
    refine g_ca [.int (6 * a11), .ref 268] xo_imul rfl rfl (fun _ => cx11) ?_
    refine g_ld rfl rfl rfl ?_
    have ex12 := i_add (x := (6 * a11)) (y := a13) rfl rfl h.1
    have cx12 := ck_add (x := (6 * a11)) (y := a13) rfl rfl h.1
    replace h := h.2 _ ex12
    refine g_ca [.int ((6 * a11) + a13), .ref 268] xo_iadd rfl rfl (fun _ => cx12) ?_
    refine g_ld rfl rfl rfl ?_
    refine g_ld rfl rfl rfl ?_
    refine g_call [.ref 213, .int a12] [.int ((6 * a11) + a13), .ref 268] rfl rfl rfl (Tot.imp h (fun v14 s13 h => ?_))
    obtain ⟨x15, rfl, h⟩ := h
    change Go _ _ _ _ _ _ [.int x15, .int ((6 * a11) + a13), .ref 268] _ _
    refine g_ld rfl rfl rfl ?_
    have ex16 := i_sub (x := x15) (y := a12) rfl rfl h.1
    have cx16 := ck_sub (x := x15) (y := a12) rfl rfl h.1
    replace h := h.2 _ ex16
    refine g_ca [.int (x15 - a12), .int ((6 * a11) + a13), .ref 268] xo_isub rfl rfl (fun _ => cx16) ?_
    refine g_ias rfl rfl (i_in (x := ((6 * a11) + a13)) rfl h.1) ?_
    replace h := h.2
    replace h := h _ rfl
    refine g_ld rfl rfl rfl ?_
    refine g_ld rfl rfl rfl ?_
    refine g_call [.ref 213, .int a12] [] rfl rfl rfl (Tot.imp h (fun v19 s18 h => ?_))
    obtain ⟨x20, rfl, h⟩ := h
    change Go _ _ _ _ _ _ [.int x20] _ _
    refine g_st [.ref 213, .int a1, .int a2, .int a3, .int a4, .int a5, .int a6, .int a7, .int a8, .int a9, .int a10, .int a11, .int x20, .int a13, .null, .null, .null, .null] rfl rfl rfl ?_
    have ex21 := i_add (x := a13) (y := 1) rfl (show (1 : Int32).toInt = 1 by decide) h.1
    have cx21 := ck_inc (x := a13) (n := 1) rfl h.1
    replace h := h.2 _ ex21
    refine g_inc [.ref 213, .int a1, .int a2, .int a3, .int a4, .int a5, .int a6, .int a7, .int a8, .int a9, .int a10, .int a11, .int x20, .int (a13 + 1), .null, .null, .null, .null] rfl rfl rfl rfl cx21 ?_
    refine g_go rfl ?_
    exact r189 a1 a2 a3 a4 a5 a6 a7 a8 a9 a10 a11 x20 (a13 + 1)  s18 h
def wl_256_189 (T : Nat → List Value → yS → (Option Value → yS → Prop) → Prop)  (a1 : Int32) (a2 : Int32) (a3 : Int32) (a4 : Int32) (a5 : Int32) (a6 : Int32) (a7 : Int32) (a8 : Int32) (a9 : Int32) (a10 : Int32) (a11 : Int32) (a12 : Int32) (a13 : Int32) (s : yS) (P : Option Value → yS → Prop) : Prop :=
  ∃ (I : Int32 → Int32 → Int32 → Int32 → Int32 → Int32 → Int32 → Int32 → Int32 → Int32 → Int32 → Int32 → Int32 → yS → Prop) (μ : Int32 → Int32 → Int32 → Int32 → Int32 → Int32 → Int32 → Int32 → Int32 → Int32 → Int32 → Int32 → Int32 → yS → Nat), I a1 a2 a3 a4 a5 a6 a7 a8 a9 a10 a11 a12 a13 s ∧ ∀ (a1 : Int32) (a2 : Int32) (a3 : Int32) (a4 : Int32) (a5 : Int32) (a6 : Int32) (a7 : Int32) (a8 : Int32) (a9 : Int32) (a10 : Int32) (a11 : Int32) (a12 : Int32) (a13 : Int32) (s : yS), I a1 a2 a3 a4 a5 a6 a7 a8 a9 a10 a11 a12 a13 s → w_256_189 T (fun a1' a2' a3' a4' a5' a6' a7' a8' a9' a10' a11' a12' a13' s' => I a1' a2' a3' a4' a5' a6' a7' a8' a9' a10' a11' a12' a13' s' ∧ μ a1' a2' a3' a4' a5' a6' a7' a8' a9' a10' a11' a12' a13' s' < μ a1 a2 a3 a4 a5 a6 a7 a8 a9 a10 a11 a12 a13 s) a1 a2 a3 a4 a5 a6 a7 a8 a9 a10 a11 a12 a13 s P
theorem kl_256_189 {d : Nat}  {a1 : Int32} {a2 : Int32} {a3 : Int32} {a4 : Int32} {a5 : Int32} {a6 : Int32} {a7 : Int32} {a8 : Int32} {a9 : Int32} {a10 : Int32} {a11 : Int32} {a12 : Int32} {a13 : Int32} {s : yS} {P : Option Value → yS → Prop}  (h : wl_256_189 (Tot d)  a1 a2 a3 a4 a5 a6 a7 a8 a9 a10 a11 a12 a13 s P) : Go d 14 (none) xE_256 (xE_256.drop 189) [.ref 213, .int a1, .int a2, .int a3, .int a4, .int a5, .int a6, .int a7, .int a8, .int a9, .int a10, .int a11, .int a12, .int a13, .null, .null, .null, .null] [] s P := by
  obtain ⟨I, μ, h0, h1⟩ := h
  have key : ∀ (n : Nat) (a1 : Int32) (a2 : Int32) (a3 : Int32) (a4 : Int32) (a5 : Int32) (a6 : Int32) (a7 : Int32) (a8 : Int32) (a9 : Int32) (a10 : Int32) (a11 : Int32) (a12 : Int32) (a13 : Int32) (s : yS), μ a1 a2 a3 a4 a5 a6 a7 a8 a9 a10 a11 a12 a13 s = n → I a1 a2 a3 a4 a5 a6 a7 a8 a9 a10 a11 a12 a13 s → Go d 14 (none) xE_256 (xE_256.drop 189) [.ref 213, .int a1, .int a2, .int a3, .int a4, .int a5, .int a6, .int a7, .int a8, .int a9, .int a10, .int a11, .int a12, .int a13, .null, .null, .null, .null] [] s P := by
    intro n
    induction n using Nat.strongRecOn with
    | ind n ih =>
      intro a1 a2 a3 a4 a5 a6 a7 a8 a9 a10 a11 a12 a13 s e hI
      exact k_256_189 (fun a1' a2' a3' a4' a5' a6' a7' a8' a9' a10' a11' a12' a13' s' q => ih _ (by rw [← e]; exact q.2) _ _ _ _ _ _ _ _ _ _ _ _ _ _ rfl q.1) (h1 a1 a2 a3 a4 a5 a6 a7 a8 a9 a10 a11 a12 a13 s hI)
  exact key _ a1 a2 a3 a4 a5 a6 a7 a8 a9 a10 a11 a12 a13 s rfl h0
def w_256_74 (T : Nat → List Value → yS → (Option Value → yS → Prop) → Prop) (R74 : Int32 → Int32 → Int32 → Int32 → Int32 → Int32 → Int32 → yS → Prop) (a1 : Int32) (a2 : Int32) (a3 : Int32) (a4 : Int32) (a5 : Int32) (a6 : Int32) (a7 : Int32) (s : yS) (P : Option Value → yS → Prop) : Prop :=
  (0 ≤ a3.toInt ∧ a3.toInt < 160) ∧ ((0 ≤ a3.toInt ∧ a3.toInt < 160) ∧ ((-2147483648 ≤ (s.2.1 282 a3.toInt.toNat).toInt + (s.2.1 283 a3.toInt.toNat).toInt ∧ (s.2.1 282 a3.toInt.toNat).toInt + (s.2.1 283 a3.toInt.toNat).toInt ≤ 2147483647) ∧ (∀ x1 : Int32, x1.toInt = (s.2.1 282 a3.toInt.toNat).toInt + (s.2.1 283 a3.toInt.toNat).toInt → (x1.toInt ≤ a7.toInt → (0 ≤ a3.toInt ∧ a3.toInt < 160) ∧ ((0 ≤ a3.toInt ∧ a3.toInt < 160) ∧ ((-2147483648 ≤ (s.1 64).toInt - a5.toInt ∧ (s.1 64).toInt - a5.toInt ≤ 2147483647) ∧ (∀ x2 : Int32, x2.toInt = (s.1 64).toInt - a5.toInt → T 250 [.ref 213, .int 2, .int (s.2.1 280 a3.toInt.toNat), .int (s.2.1 281 a3.toInt.toNat), .int a5, .int x2] s (fun v4 s3 => v4 = none ∧ ((¬ ((s3.1 112).toInt = (s.1 112).toInt) → (0 ≤ a3.toInt ∧ a3.toInt < 160) ∧ (T 193 [.ref 213, .int a1, .int (s3.2.1 280 a3.toInt.toNat)] s3 (fun v6 s5 => ∃ x7, v6 = some (.int x7) ∧ (T 246 [.ref 213, .int (s5.1 73)] s5 (fun v9 s8 => ∃ x10, v9 = some (.int x10) ∧ (T 188 [.ref 213] s8 (fun v12 s11 => ∃ x13, v12 = some (.int x13) ∧ (T 189 [.ref 213, .int x13, .int 0, .int (s11.1 74), .int a5] s11 (fun v15 s14 => v15 = none ∧ ((-2147483648 ≤ 2 * x13.toInt ∧ 2 * x13.toInt ≤ 2147483647) ∧ (∀ x16 : Int32, x16.toInt = 2 * x13.toInt → (-2147483648 ≤ x16.toInt + 1 ∧ x16.toInt + 1 ≤ 2147483647) ∧ (∀ x17 : Int32, x17.toInt = x16.toInt + 1 → (-2147483648 ≤ 204 * (s14.1 75).toInt ∧ 204 * (s14.1 75).toInt ≤ 2147483647) ∧ (∀ x18 : Int32, x18.toInt = 204 * (s14.1 75).toInt → (-2147483648 ≤ (s14.1 73).toInt - x18.toInt ∧ (s14.1 73).toInt - x18.toInt ≤ 2147483647) ∧ (∀ x19 : Int32, x19.toInt = (s14.1 73).toInt - x18.toInt → (-2147483648 ≤ 6 * x19.toInt ∧ 6 * x19.toInt ≤ 2147483647) ∧ (∀ x20 : Int32, x20.toInt = 6 * x19.toInt → (-2147483648 ≤ 2000 + x20.toInt ∧ 2000 + x20.toInt ≤ 2147483647) ∧ (∀ x21 : Int32, x21.toInt = 2000 + x20.toInt → (0 ≤ x17.toInt ∧ x17.toInt < 600) ∧ (∀ s22, s22 = sa s14 265 x17.toInt.toNat x21 → (0 ≤ a3.toInt ∧ a3.toInt < 160) ∧ ((-2147483648 ≤ (s22.2.1 281 a3.toInt.toNat).toInt - 1 ∧ (s22.2.1 281 a3.toInt.toNat).toInt - 1 ≤ 2147483647) ∧ (∀ x23 : Int32, x23.toInt = (s22.2.1 281 a3.toInt.toNat).toInt - 1 → (0 ≤ x17.toInt ∧ x17.toInt < 600) ∧ (∀ s24, s24 = sa s22 266 x17.toInt.toNat x23 → (-2147483648 ≤ a5.toInt + a2.toInt ∧ a5.toInt + a2.toInt ≤ 2147483647) ∧ (∀ x25 : Int32, x25.toInt = a5.toInt + a2.toInt → wl_256_189 T  a1 a2 a3 a4 a5 a6 (s.1 112) x7 x10 x13 x17 x25 0  s24 P))))))))))))))))))))) ∧ ((s3.1 112).toInt = (s.1 112).toInt → ∀ s26, s26 = sf s3 64 a5 → P none s26))))))) ∧ (¬ (x1.toInt ≤ a7.toInt) → (0 ≤ a7.toInt ∧ a7.toInt < 200000) ∧ ((0 ≤ (s.1 64).toInt ∧ (s.1 64).toInt < 200000) ∧ (∀ s27, s27 = sa s 264 (s.1 64).toInt.toNat (s.2.1 264 a7.toInt.toNat) → (-2147483648 ≤ (s27.1 64).toInt + 1 ∧ (s27.1 64).toInt + 1 ≤ 2147483647) ∧ (∀ x28 : Int32, x28.toInt = (s27.1 64).toInt + 1 → ∀ s29, s29 = sf s27 64 x28 → (-2147483648 ≤ a7.toInt + 1 ∧ a7.toInt + 1 ≤ 2147483647) ∧ (∀ x30 : Int32, x30.toInt = a7.toInt + 1 → R74 a1 a2 a3 a4 a5 a6 x30  s29))))))))
set_option maxRecDepth 20000 in
theorem k_256_74 {d : Nat} {R74 : Int32 → Int32 → Int32 → Int32 → Int32 → Int32 → Int32 → yS → Prop} {a1 : Int32} {a2 : Int32} {a3 : Int32} {a4 : Int32} {a5 : Int32} {a6 : Int32} {a7 : Int32} {s : yS} {P : Option Value → yS → Prop} (r74 : ∀ a1 a2 a3 a4 a5 a6 a7 s, R74 a1 a2 a3 a4 a5 a6 a7 s → Go d 14 (none) xE_256 (xE_256.drop 74) [.ref 213, .int a1, .int a2, .int a3, .int a4, .int a5, .int a6, .int a7, .null, .null, .null, .null, .null, .null, .null, .null, .null, .null] [] s P) (h : w_256_74 (Tot d) R74 a1 a2 a3 a4 a5 a6 a7 s P) : Go d 14 (none) xE_256 (xE_256.drop 74) [.ref 213, .int a1, .int a2, .int a3, .int a4, .int a5, .int a6, .int a7, .null, .null, .null, .null, .null, .null, .null, .null, .null, .null] [] s P := by
  unfold w_256_74 at h
  refine g_ld rfl rfl rfl ?_
  refine g_ld rfl rfl rfl ?_
  refine g_get rfl rfl ?_
  change Go _ _ _ _ _ _ [.ref 282, .int a7] _ _
  refine g_ld rfl rfl rfl ?_
  refine g_ial rfl rfl (i_in (x := a3) rfl h.1) ?_
  change Go _ _ _ _ _ _ [.int (s.2.1 282 a3.toInt.toNat), .int a7] _ _
  replace h := h.2
  refine g_ld rfl rfl rfl ?_
  refine g_get rfl rfl ?_
  change Go _ _ _ _ _ _ [.ref 283, .int (s.2.1 282 a3.toInt.toNat), .int a7] _ _
  refine g_ld rfl rfl rfl ?_
  refine g_ial rfl rfl (i_in (x := a3) rfl h.1) ?_
  change Go _ _ _ _ _ _ [.int (s.2.1 283 a3.toInt.toNat), .int (s.2.1 282 a3.toInt.toNat), .int a7] _ _
  replace h := h.2
  have ex1 := i_add (x := s.2.1 282 a3.toInt.toNat) (y := s.2.1 283 a3.toInt.toNat) rfl rfl h.1
  have cx1 := ck_add (x := s.2.1 282 a3.toInt.toNat) (y := s.2.1 283 a3.toInt.toNat) rfl rfl h.1
  replace h := h.2 _ ex1
  refine g_ca [.int ((s.2.1 282 a3.toInt.toNat) + (s.2.1 283 a3.toInt.toNat)), .int a7] xo_iadd rfl rfl (fun _ => cx1) ?_
  refine g_brP rfl rfl ⟨fun hc => ?_, fun hc => ?_⟩
  · replace h := h.1 ((i_le (x := ((s.2.1 282 a3.toInt.toNat) + (s.2.1 283 a3.toInt.toNat))) (y := a7) rfl rfl).mp hc)
    refine g_ld rfl rfl rfl ?_
    refine g_get rfl rfl ?_
    change Go _ _ _ _ _ _ [.int (s.1 112)] _ _
    refine g_st [.ref 213, .int a1, .int a2, .int a3, .int a4, .int a5, .int a6, .int (s.1 112), .null, .null, .null, .null, .null, .null, .null, .null, .null, .null] rfl rfl rfl ?_
    refine g_ld rfl rfl rfl ?_
    refine g_c [.int 2, .ref 213] (xo_push (.int 2)) rfl rfl ?_
    refine g_ld rfl rfl rfl ?_
    refine g_get rfl rfl ?_
    change Go _ _ _ _ _ _ [.ref 280, .int 2, .ref 213] _ _
    refine g_ld rfl rfl rfl ?_
    refine g_ial rfl rfl (i_in (x := a3) rfl h.1) ?_
    change Go _ _ _ _ _ _ [.int (s.2.1 280 a3.toInt.toNat), .int 2, .ref 213] _ _
    replace h := h.2
    refine g_ld rfl rfl rfl ?_
    refine g_get rfl rfl ?_
    change Go _ _ _ _ _ _ [.ref 281, .int (s.2.1 280 a3.toInt.toNat), .int 2, .ref 213] _ _
    refine g_ld rfl rfl rfl ?_
    refine g_ial rfl rfl (i_in (x := a3) rfl h.1) ?_
    change Go _ _ _ _ _ _ [.int (s.2.1 281 a3.toInt.toNat), .int (s.2.1 280 a3.toInt.toNat), .int 2, .ref 213] _ _
    replace h := h.2
    refine g_ld rfl rfl rfl ?_
    refine g_ld rfl rfl rfl ?_
    refine g_get rfl rfl ?_
    change Go _ _ _ _ _ _ [.int (s.1 64), .int a5, .int (s.2.1 281 a3.toInt.toNat), .int (s.2.1 280 a3.toInt.toNat), .int 2, .ref 213] _ _
    refine g_ld rfl rfl rfl ?_
    have ex2 := i_sub (x := s.1 64) (y := a5) rfl rfl h.1
    have cx2 := ck_sub (x := s.1 64) (y := a5) rfl rfl h.1
    replace h := h.2 _ ex2
    refine g_ca [.int ((s.1 64) - a5), .int a5, .int (s.2.1 281 a3.toInt.toNat), .int (s.2.1 280 a3.toInt.toNat), .int 2, .ref 213] xo_isub rfl rfl (fun _ => cx2) ?_
    refine g_call [.ref 213, .int 2, .int (s.2.1 280 a3.toInt.toNat), .int (s.2.1 281 a3.toInt.toNat), .int a5, .int ((s.1 64) - a5)] [] rfl rfl rfl (Tot.imp h (fun v4 s3 h => ?_))
    obtain ⟨rfl, h⟩ := h
    change Go _ _ _ _ _ _ [] _ _
    refine g_ld rfl rfl rfl ?_
    refine g_get rfl rfl ?_
    change Go _ _ _ _ _ _ [.int (s3.1 112)] _ _
    refine g_ld rfl rfl rfl ?_
    refine g_brN rfl rfl ⟨fun hc => ?_, fun hc => ?_⟩
    · replace h := h.1 (fun q => hc ((i_eq (x := s3.1 112) (y := s.1 112) rfl rfl).mpr q))
      refine g_ld rfl rfl rfl ?_
      refine g_ld rfl rfl rfl ?_
      refine g_ld rfl rfl rfl ?_
      refine g_get rfl rfl ?_
      change Go _ _ _ _ _ _ [.ref 280, .int a1, .ref 213] _ _
      refine g_ld rfl rfl rfl ?_
      refine g_ial rfl rfl (i_in (x := a3) rfl h.1) ?_
      change Go _ _ _ _ _ _ [.int (s3.2.1 280 a3.toInt.toNat), .int a1, .ref 213] _ _
      replace h := h.2
      refine g_call [.ref 213, .int a1, .int (s3.2.1 280 a3.toInt.toNat)] [] rfl rfl rfl (Tot.imp h (fun v6 s5 h => ?_))
      obtain ⟨x7, rfl, h⟩ := h
      change Go _ _ _ _ _ _ [.int x7] _ _
      refine g_st [.ref 213, .int a1, .int a2, .int a3, .int a4, .int a5, .int a6, .int (s.1 112), .int x7, .null, .null, .null, .null, .null, .null, .null, .null, .null] rfl rfl rfl ?_
      refine g_ld rfl rfl rfl ?_
      refine g_ld rfl rfl rfl ?_
      refine g_get rfl rfl ?_
      change Go _ _ _ _ _ _ [.int (s5.1 73), .ref 213] _ _
      refine g_call [.ref 213, .int (s5.1 73)] [] rfl rfl rfl (Tot.imp h (fun v9 s8 h => ?_))
      obtain ⟨x10, rfl, h⟩ := h
      change Go _ _ _ _ _ _ [.int x10] _ _
      refine g_st [.ref 213, .int a1, .int a2, .int a3, .int a4, .int a5, .int a6, .int (s.1 112), .int x7, .int x10, .null, .null, .null, .null, .null, .null, .null, .null] rfl rfl rfl ?_
      refine g_ld rfl rfl rfl ?_
      refine g_call [.ref 213] [] rfl rfl rfl (Tot.imp h (fun v12 s11 h => ?_))
      obtain ⟨x13, rfl, h⟩ := h
      change Go _ _ _ _ _ _ [.int x13] _ _
      refine g_st [.ref 213, .int a1, .int a2, .int a3, .int a4, .int a5, .int a6, .int (s.1 112), .int x7, .int x10, .int x13, .null, .null, .null, .null, .null, .null, .null] rfl rfl rfl ?_
      refine g_ld rfl rfl rfl ?_
      refine g_ld rfl rfl rfl ?_
      refine g_c [.int 0, .int x13, .ref 213] (xo_push (.int 0)) rfl rfl ?_
      refine g_ld rfl rfl rfl ?_
      refine g_get rfl rfl ?_
      change Go _ _ _ _ _ _ [.int (s11.1 74), .int 0, .int x13, .ref 213] _ _
      refine g_ld rfl rfl rfl ?_
      refine g_call [.ref 213, .int x13, .int 0, .int (s11.1 74), .int a5] [] rfl rfl rfl (Tot.imp h (fun v15 s14 h => ?_))
      obtain ⟨rfl, h⟩ := h
      change Go _ _ _ _ _ _ [] _ _
      refine g_c [.int 2] (xo_push (.int 2)) rfl rfl ?_
      refine g_ld rfl rfl rfl ?_
      have ex16 := i_mul (x := 2) (y := x13) (show (2 : Int32).toInt = 2 by decide) rfl h.1
      have cx16 := ck_mul (x := 2) (y := x13) (show (2 : Int32).toInt = 2 by decide) rfl h.1
      replace h := h.2 _ ex16
      refine g_ca [.int (2 * x13)] xo_imul rfl rfl (fun _ => cx16) ?_
      refine g_c [.int 1, .int (2 * x13)] (xo_push (.int 1)) rfl rfl ?_
      have ex17 := i_add (x := (2 * x13)) (y := 1) rfl (show (1 : Int32).toInt = 1 by decide) h.1
      have cx17 := ck_add (x := (2 * x13)) (y := 1) rfl (show (1 : Int32).toInt = 1 by decide) h.1
      replace h := h.2 _ ex17
      refine g_ca [.int ((2 * x13) + 1)] xo_iadd rfl rfl (fun _ => cx17) ?_
      refine g_st [.ref 213, .int a1, .int a2, .int a3, .int a4, .int a5, .int a6, .int (s.1 112), .int x7, .int x10, .int x13, .int ((2 * x13) + 1), .null, .null, .null, .null, .null, .null] rfl rfl rfl ?_
      refine g_ld rfl rfl rfl ?_
      refine g_get rfl rfl ?_
      change Go _ _ _ _ _ _ [.ref 265] _ _
      refine g_ld rfl rfl rfl ?_
      refine g_c [.int 2000, .int ((2 * x13) + 1), .ref 265] (xo_push (.int 2000)) rfl rfl ?_
      refine g_c [.int 6, .int 2000, .int ((2 * x13) + 1), .ref 265] (xo_push (.int 6)) rfl rfl ?_
      refine g_ld rfl rfl rfl ?_
      refine g_get rfl rfl ?_
      change Go _ _ _ _ _ _ [.int (s14.1 73), .int 6, .int 2000, .int ((2 * x13) + 1), .ref 265] _ _
      refine g_c [.int 204, .int (s14.1 73), .int 6, .int 2000, .int ((2 * x13) + 1), .ref 265] (xo_push (.int 204)) rfl rfl ?_
      refine g_ld rfl rfl rfl ?_
      refine g_get rfl rfl ?_
      change Go _ _ _ _ _ _ [.int (s14.1 75), .int 204, .int (s14.1 73), .int 6, .int 2000, .int ((2 * x13) + 1), .ref 265] _ _
      have ex18 := i_mul (x := 204) (y := s14.1 75) (show (204 : Int32).toInt = 204 by decide) rfl h.1
      have cx18 := ck_mul (x := 204) (y := s14.1 75) (show (204 : Int32).toInt = 204 by decide) rfl h.1
      replace h := h.2 _ ex18
      refine g_ca [.int (204 * (s14.1 75)), .int (s14.1 73), .int 6, .int 2000, .int ((2 * x13) + 1), .ref 265] xo_imul rfl rfl (fun _ => cx18) ?_
      have ex19 := i_sub (x := s14.1 73) (y := (204 * (s14.1 75))) rfl rfl h.1
      have cx19 := ck_sub (x := s14.1 73) (y := (204 * (s14.1 75))) rfl rfl h.1
      replace h := h.2 _ ex19
      refine g_ca [.int ((s14.1 73) - (204 * (s14.1 75))), .int 6, .int 2000, .int ((2 * x13) + 1), .ref 265] xo_isub rfl rfl (fun _ => cx19) ?_
      have ex20 := i_mul (x := 6) (y := ((s14.1 73) - (204 * (s14.1 75)))) (show (6 : Int32).toInt = 6 by decide) rfl h.1
      have cx20 := ck_mul (x := 6) (y := ((s14.1 73) - (204 * (s14.1 75)))) (show (6 : Int32).toInt = 6 by decide) rfl h.1
      replace h := h.2 _ ex20
      refine g_ca [.int (6 * ((s14.1 73) - (204 * (s14.1 75)))), .int 2000, .int ((2 * x13) + 1), .ref 265] xo_imul rfl rfl (fun _ => cx20) ?_
      have ex21 := i_add (x := 2000) (y := (6 * ((s14.1 73) - (204 * (s14.1 75))))) (show (2000 : Int32).toInt = 2000 by decide) rfl h.1
      have cx21 := ck_add (x := 2000) (y := (6 * ((s14.1 73) - (204 * (s14.1 75))))) (show (2000 : Int32).toInt = 2000 by decide) rfl h.1
      replace h := h.2 _ ex21
      refine g_ca [.int (2000 + (6 * ((s14.1 73) - (204 * (s14.1 75))))), .int ((2 * x13) + 1), .ref 265] xo_iadd rfl rfl (fun _ => cx21) ?_
      refine g_ias rfl rfl (i_in (x := ((2 * x13) + 1)) rfl h.1) ?_
      replace h := h.2
      replace h := h _ rfl
      refine g_ld rfl rfl rfl ?_
      refine g_get rfl rfl ?_
      change Go _ _ _ _ _ _ [.ref 266] _ _
      refine g_ld rfl rfl rfl ?_
      refine g_ld rfl rfl rfl ?_
      refine g_get rfl rfl ?_
      change Go _ _ _ _ _ _ [.ref 281, .int ((2 * x13) + 1), .ref 266] _ _
      refine g_ld rfl rfl rfl ?_
      refine g_ial rfl rfl (i_in (x := a3) rfl h.1) ?_
      change Go _ _ _ _ _ _ [.int ((sa s14 265 ((2 * x13) + 1).toInt.toNat (2000 + (6 * ((s14.1 73) - (204 * (s14.1 75)))))).2.1 281 a3.toInt.toNat), .int ((2 * x13) + 1), .ref 266] _ _
      replace h := h.2
      refine g_c [.int 1, .int ((sa s14 265 ((2 * x13) + 1).toInt.toNat (2000 + (6 * ((s14.1 73) - (204 * (s14.1 75)))))).2.1 281 a3.toInt.toNat), .int ((2 * x13) + 1), .ref 266] (xo_push (.int 1)) rfl rfl ?_
      have ex23 := i_sub (x := (sa s14 265 ((2 * x13) + 1).toInt.toNat (2000 + (6 * ((s14.1 73) - (204 * (s14.1 75)))))).2.1 281 a3.toInt.toNat) (y := 1) rfl (show (1 : Int32).toInt = 1 by decide) h.1
      have cx23 := ck_sub (x := (sa s14 265 ((2 * x13) + 1).toInt.toNat (2000 + (6 * ((s14.1 73) - (204 * (s14.1 75)))))).2.1 281 a3.toInt.toNat) (y := 1) rfl (show (1 : Int32).toInt = 1 by decide) h.1
      replace h := h.2 _ ex23
      refine g_ca [.int (((sa s14 265 ((2 * x13) + 1).toInt.toNat (2000 + (6 * ((s14.1 73) - (204 * (s14.1 75)))))).2.1 281 a3.toInt.toNat) - 1), .int ((2 * x13) + 1), .ref 266] xo_isub rfl rfl (fun _ => cx23) ?_
      refine g_ias rfl rfl (i_in (x := ((2 * x13) + 1)) rfl h.1) ?_
      replace h := h.2
      replace h := h _ rfl
      refine g_ld rfl rfl rfl ?_
      refine g_ld rfl rfl rfl ?_
      have ex25 := i_add (x := a5) (y := a2) rfl rfl h.1
      have cx25 := ck_add (x := a5) (y := a2) rfl rfl h.1
      replace h := h.2 _ ex25
      refine g_ca [.int (a5 + a2)] xo_iadd rfl rfl (fun _ => cx25) ?_
      refine g_st [.ref 213, .int a1, .int a2, .int a3, .int a4, .int a5, .int a6, .int (s.1 112), .int x7, .int x10, .int x13, .int ((2 * x13) + 1), .int (a5 + a2), .null, .null, .null, .null, .null] rfl rfl rfl ?_
      refine g_c [.int 0] (xo_push (.int 0)) rfl rfl ?_
      refine g_st [.ref 213, .int a1, .int a2, .int a3, .int a4, .int a5, .int a6, .int (s.1 112), .int x7, .int x10, .int x13, .int ((2 * x13) + 1), .int (a5 + a2), .int 0, .null, .null, .null, .null] rfl rfl rfl ?_
      exact kl_256_189  h
    · replace h := h.2 ((i_eq (x := s3.1 112) (y := s.1 112) rfl rfl).mp hc)
      refine g_ld rfl rfl rfl ?_
      refine g_ld rfl rfl rfl ?_
      refine g_put rfl rfl rfl ?_
      replace h := h _ rfl
      exact g_ret0 rfl h
  · replace h := h.2 (fun q => hc ((i_le (x := ((s.2.1 282 a3.toInt.toNat) + (s.2.1 283 a3.toInt.toNat))) (y := a7) rfl rfl).mpr q))
    refine g_ld rfl rfl rfl ?_
    refine g_get rfl rfl ?_
    change Go _ _ _ _ _ _ [.ref 264] _ _
    refine g_ld rfl rfl rfl ?_
    refine g_get rfl rfl ?_
    change Go _ _ _ _ _ _ [.int (s.1 64), .ref 264] _ _
    refine g_ld rfl rfl rfl ?_
    refine g_get rfl rfl ?_
    change Go _ _ _ _ _ _ [.ref 264, .int (s.1 64), .ref 264] _ _
    refine g_ld rfl rfl rfl ?_
    refine g_ial rfl rfl (i_in (x := a7) rfl h.1) ?_
    change Go _ _ _ _ _ _ [.int (s.2.1 264 a7.toInt.toNat), .int (s.1 64), .ref 264] _ _
    replace h := h.2
    refine g_ias rfl rfl (i_in (x := s.1 64) rfl h.1) ?_
    replace h := h.2
    replace h := h _ rfl
    refine g_ld rfl rfl rfl ?_
    refine g_c [.ref 213, .ref 213] xo_dup rfl rfl ?_
    refine g_get rfl rfl ?_
    change Go _ _ _ _ _ _ [.int ((sa s 264 (s.1 64).toInt.toNat (s.2.1 264 a7.toInt.toNat)).1 64), .ref 213] _ _
    refine g_c [.int 1, .int ((sa s 264 (s.1 64).toInt.toNat (s.2.1 264 a7.toInt.toNat)).1 64), .ref 213] (xo_push (.int 1)) rfl rfl ?_
    have ex28 := i_add (x := (sa s 264 (s.1 64).toInt.toNat (s.2.1 264 a7.toInt.toNat)).1 64) (y := 1) rfl (show (1 : Int32).toInt = 1 by decide) h.1
    have cx28 := ck_add (x := (sa s 264 (s.1 64).toInt.toNat (s.2.1 264 a7.toInt.toNat)).1 64) (y := 1) rfl (show (1 : Int32).toInt = 1 by decide) h.1
    replace h := h.2 _ ex28
    refine g_ca [.int (((sa s 264 (s.1 64).toInt.toNat (s.2.1 264 a7.toInt.toNat)).1 64) + 1), .ref 213] xo_iadd rfl rfl (fun _ => cx28) ?_
    refine g_put rfl rfl rfl ?_
    replace h := h _ rfl
    have ex30 := i_add (x := a7) (y := 1) rfl (show (1 : Int32).toInt = 1 by decide) h.1
    have cx30 := ck_inc (x := a7) (n := 1) rfl h.1
    replace h := h.2 _ ex30
    refine g_inc [.ref 213, .int a1, .int a2, .int a3, .int a4, .int a5, .int a6, .int (a7 + 1), .null, .null, .null, .null, .null, .null, .null, .null, .null, .null] rfl rfl rfl rfl cx30 ?_
    refine g_go rfl ?_
    exact r74 a1 a2 a3 a4 a5 a6 (a7 + 1)  (sf (sa s 264 (s.1 64).toInt.toNat (s.2.1 264 a7.toInt.toNat)) 64 (((sa s 264 (s.1 64).toInt.toNat (s.2.1 264 a7.toInt.toNat)).1 64) + 1)) h
def wl_256_74 (T : Nat → List Value → yS → (Option Value → yS → Prop) → Prop)  (a1 : Int32) (a2 : Int32) (a3 : Int32) (a4 : Int32) (a5 : Int32) (a6 : Int32) (a7 : Int32) (s : yS) (P : Option Value → yS → Prop) : Prop :=
  ∃ (I : Int32 → Int32 → Int32 → Int32 → Int32 → Int32 → Int32 → yS → Prop) (μ : Int32 → Int32 → Int32 → Int32 → Int32 → Int32 → Int32 → yS → Nat), I a1 a2 a3 a4 a5 a6 a7 s ∧ ∀ (a1 : Int32) (a2 : Int32) (a3 : Int32) (a4 : Int32) (a5 : Int32) (a6 : Int32) (a7 : Int32) (s : yS), I a1 a2 a3 a4 a5 a6 a7 s → w_256_74 T (fun a1' a2' a3' a4' a5' a6' a7' s' => I a1' a2' a3' a4' a5' a6' a7' s' ∧ μ a1' a2' a3' a4' a5' a6' a7' s' < μ a1 a2 a3 a4 a5 a6 a7 s) a1 a2 a3 a4 a5 a6 a7 s P
theorem kl_256_74 {d : Nat}  {a1 : Int32} {a2 : Int32} {a3 : Int32} {a4 : Int32} {a5 : Int32} {a6 : Int32} {a7 : Int32} {s : yS} {P : Option Value → yS → Prop}  (h : wl_256_74 (Tot d)  a1 a2 a3 a4 a5 a6 a7 s P) : Go d 14 (none) xE_256 (xE_256.drop 74) [.ref 213, .int a1, .int a2, .int a3, .int a4, .int a5, .int a6, .int a7, .null, .null, .null, .null, .null, .null, .null, .null, .null, .null] [] s P := by
  obtain ⟨I, μ, h0, h1⟩ := h
  have key : ∀ (n : Nat) (a1 : Int32) (a2 : Int32) (a3 : Int32) (a4 : Int32) (a5 : Int32) (a6 : Int32) (a7 : Int32) (s : yS), μ a1 a2 a3 a4 a5 a6 a7 s = n → I a1 a2 a3 a4 a5 a6 a7 s → Go d 14 (none) xE_256 (xE_256.drop 74) [.ref 213, .int a1, .int a2, .int a3, .int a4, .int a5, .int a6, .int a7, .null, .null, .null, .null, .null, .null, .null, .null, .null, .null] [] s P := by
    intro n
    induction n using Nat.strongRecOn with
    | ind n ih =>
      intro a1 a2 a3 a4 a5 a6 a7 s e hI
      exact k_256_74 (fun a1' a2' a3' a4' a5' a6' a7' s' q => ih _ (by rw [← e]; exact q.2) _ _ _ _ _ _ _ _ rfl q.1) (h1 a1 a2 a3 a4 a5 a6 a7 s hI)
  exact key _ a1 a2 a3 a4 a5 a6 a7 s rfl h0
def w_256_50 (T : Nat → List Value → yS → (Option Value → yS → Prop) → Prop) (R50 : Int32 → Int32 → Int32 → Int32 → Int32 → Int32 → Int32 → yS → Prop) (a1 : Int32) (a2 : Int32) (a3 : Int32) (a4 : Int32) (a5 : Int32) (a6 : Int32) (a7 : Int32) (s : yS) (P : Option Value → yS → Prop) : Prop :=
  (a2.toInt ≤ a7.toInt → wl_256_74 T  a1 a2 a3 a4 a5 a6 a6  s P) ∧ (¬ (a2.toInt ≤ a7.toInt) → (-2147483648 ≤ a1.toInt + a7.toInt ∧ a1.toInt + a7.toInt ≤ 2147483647) ∧ (∀ x1 : Int32, x1.toInt = a1.toInt + a7.toInt → (0 ≤ x1.toInt ∧ x1.toInt < 200000) ∧ ((0 ≤ (s.1 64).toInt ∧ (s.1 64).toInt < 200000) ∧ (∀ s2, s2 = sa s 264 (s.1 64).toInt.toNat (s.2.1 264 x1.toInt.toNat) → (-2147483648 ≤ (s2.1 64).toInt + 1 ∧ (s2.1 64).toInt + 1 ≤ 2147483647) ∧ (∀ x3 : Int32, x3.toInt = (s2.1 64).toInt + 1 → ∀ s4, s4 = sf s2 64 x3 → (-2147483648 ≤ a7.toInt + 1 ∧ a7.toInt + 1 ≤ 2147483647) ∧ (∀ x5 : Int32, x5.toInt = a7.toInt + 1 → R50 a1 a2 a3 a4 a5 a6 x5  s4))))))
set_option maxRecDepth 20000 in
theorem k_256_50 {d : Nat} {R50 : Int32 → Int32 → Int32 → Int32 → Int32 → Int32 → Int32 → yS → Prop} {a1 : Int32} {a2 : Int32} {a3 : Int32} {a4 : Int32} {a5 : Int32} {a6 : Int32} {a7 : Int32} {s : yS} {P : Option Value → yS → Prop} (r50 : ∀ a1 a2 a3 a4 a5 a6 a7 s, R50 a1 a2 a3 a4 a5 a6 a7 s → Go d 14 (none) xE_256 (xE_256.drop 50) [.ref 213, .int a1, .int a2, .int a3, .int a4, .int a5, .int a6, .int a7, .null, .null, .null, .null, .null, .null, .null, .null, .null, .null] [] s P) (h : w_256_50 (Tot d) R50 a1 a2 a3 a4 a5 a6 a7 s P) : Go d 14 (none) xE_256 (xE_256.drop 50) [.ref 213, .int a1, .int a2, .int a3, .int a4, .int a5, .int a6, .int a7, .null, .null, .null, .null, .null, .null, .null, .null, .null, .null] [] s P := by
  unfold w_256_50 at h
  refine g_ld rfl rfl rfl ?_
  refine g_ld rfl rfl rfl ?_
  refine g_brP rfl rfl ⟨fun hc => ?_, fun hc => ?_⟩
  · replace h := h.1 ((i_le (x := a2) (y := a7) rfl rfl).mp hc)
    refine g_ld rfl rfl rfl ?_
    refine g_st [.ref 213, .int a1, .int a2, .int a3, .int a4, .int a5, .int a6, .int a6, .null, .null, .null, .null, .null, .null, .null, .null, .null, .null] rfl rfl rfl ?_
    exact kl_256_74  h
  · replace h := h.2 (fun q => hc ((i_le (x := a2) (y := a7) rfl rfl).mpr q))
    refine g_ld rfl rfl rfl ?_
    refine g_get rfl rfl ?_
    change Go _ _ _ _ _ _ [.ref 264] _ _
    refine g_ld rfl rfl rfl ?_
    refine g_get rfl rfl ?_
    change Go _ _ _ _ _ _ [.int (s.1 64), .ref 264] _ _
    refine g_ld rfl rfl rfl ?_
    refine g_get rfl rfl ?_
    change Go _ _ _ _ _ _ [.ref 264, .int (s.1 64), .ref 264] _ _
    refine g_ld rfl rfl rfl ?_
    refine g_ld rfl rfl rfl ?_
    have ex1 := i_add (x := a1) (y := a7) rfl rfl h.1
    have cx1 := ck_add (x := a1) (y := a7) rfl rfl h.1
    replace h := h.2 _ ex1
    refine g_ca [.int (a1 + a7), .ref 264, .int (s.1 64), .ref 264] xo_iadd rfl rfl (fun _ => cx1) ?_
    refine g_ial rfl rfl (i_in (x := (a1 + a7)) rfl h.1) ?_
    change Go _ _ _ _ _ _ [.int (s.2.1 264 (a1 + a7).toInt.toNat), .int (s.1 64), .ref 264] _ _
    replace h := h.2
    refine g_ias rfl rfl (i_in (x := s.1 64) rfl h.1) ?_
    replace h := h.2
    replace h := h _ rfl
    refine g_ld rfl rfl rfl ?_
    refine g_c [.ref 213, .ref 213] xo_dup rfl rfl ?_
    refine g_get rfl rfl ?_
    change Go _ _ _ _ _ _ [.int ((sa s 264 (s.1 64).toInt.toNat (s.2.1 264 (a1 + a7).toInt.toNat)).1 64), .ref 213] _ _
    refine g_c [.int 1, .int ((sa s 264 (s.1 64).toInt.toNat (s.2.1 264 (a1 + a7).toInt.toNat)).1 64), .ref 213] (xo_push (.int 1)) rfl rfl ?_
    have ex3 := i_add (x := (sa s 264 (s.1 64).toInt.toNat (s.2.1 264 (a1 + a7).toInt.toNat)).1 64) (y := 1) rfl (show (1 : Int32).toInt = 1 by decide) h.1
    have cx3 := ck_add (x := (sa s 264 (s.1 64).toInt.toNat (s.2.1 264 (a1 + a7).toInt.toNat)).1 64) (y := 1) rfl (show (1 : Int32).toInt = 1 by decide) h.1
    replace h := h.2 _ ex3
    refine g_ca [.int (((sa s 264 (s.1 64).toInt.toNat (s.2.1 264 (a1 + a7).toInt.toNat)).1 64) + 1), .ref 213] xo_iadd rfl rfl (fun _ => cx3) ?_
    refine g_put rfl rfl rfl ?_
    replace h := h _ rfl
    have ex5 := i_add (x := a7) (y := 1) rfl (show (1 : Int32).toInt = 1 by decide) h.1
    have cx5 := ck_inc (x := a7) (n := 1) rfl h.1
    replace h := h.2 _ ex5
    refine g_inc [.ref 213, .int a1, .int a2, .int a3, .int a4, .int a5, .int a6, .int (a7 + 1), .null, .null, .null, .null, .null, .null, .null, .null, .null, .null] rfl rfl rfl rfl cx5 ?_
    refine g_go rfl ?_
    exact r50 a1 a2 a3 a4 a5 a6 (a7 + 1)  (sf (sa s 264 (s.1 64).toInt.toNat (s.2.1 264 (a1 + a7).toInt.toNat)) 64 (((sa s 264 (s.1 64).toInt.toNat (s.2.1 264 (a1 + a7).toInt.toNat)).1 64) + 1)) h
def wl_256_50 (T : Nat → List Value → yS → (Option Value → yS → Prop) → Prop)  (a1 : Int32) (a2 : Int32) (a3 : Int32) (a4 : Int32) (a5 : Int32) (a6 : Int32) (a7 : Int32) (s : yS) (P : Option Value → yS → Prop) : Prop :=
  ∃ (I : Int32 → Int32 → Int32 → Int32 → Int32 → Int32 → Int32 → yS → Prop) (μ : Int32 → Int32 → Int32 → Int32 → Int32 → Int32 → Int32 → yS → Nat), I a1 a2 a3 a4 a5 a6 a7 s ∧ ∀ (a1 : Int32) (a2 : Int32) (a3 : Int32) (a4 : Int32) (a5 : Int32) (a6 : Int32) (a7 : Int32) (s : yS), I a1 a2 a3 a4 a5 a6 a7 s → w_256_50 T (fun a1' a2' a3' a4' a5' a6' a7' s' => I a1' a2' a3' a4' a5' a6' a7' s' ∧ μ a1' a2' a3' a4' a5' a6' a7' s' < μ a1 a2 a3 a4 a5 a6 a7 s) a1 a2 a3 a4 a5 a6 a7 s P
theorem kl_256_50 {d : Nat}  {a1 : Int32} {a2 : Int32} {a3 : Int32} {a4 : Int32} {a5 : Int32} {a6 : Int32} {a7 : Int32} {s : yS} {P : Option Value → yS → Prop}  (h : wl_256_50 (Tot d)  a1 a2 a3 a4 a5 a6 a7 s P) : Go d 14 (none) xE_256 (xE_256.drop 50) [.ref 213, .int a1, .int a2, .int a3, .int a4, .int a5, .int a6, .int a7, .null, .null, .null, .null, .null, .null, .null, .null, .null, .null] [] s P := by
  obtain ⟨I, μ, h0, h1⟩ := h
  have key : ∀ (n : Nat) (a1 : Int32) (a2 : Int32) (a3 : Int32) (a4 : Int32) (a5 : Int32) (a6 : Int32) (a7 : Int32) (s : yS), μ a1 a2 a3 a4 a5 a6 a7 s = n → I a1 a2 a3 a4 a5 a6 a7 s → Go d 14 (none) xE_256 (xE_256.drop 50) [.ref 213, .int a1, .int a2, .int a3, .int a4, .int a5, .int a6, .int a7, .null, .null, .null, .null, .null, .null, .null, .null, .null, .null] [] s P := by
    intro n
    induction n using Nat.strongRecOn with
    | ind n ih =>
      intro a1 a2 a3 a4 a5 a6 a7 s e hI
      exact k_256_50 (fun a1' a2' a3' a4' a5' a6' a7' s' q => ih _ (by rw [← e]; exact q.2) _ _ _ _ _ _ _ _ rfl q.1) (h1 a1 a2 a3 a4 a5 a6 a7 s hI)
  exact key _ a1 a2 a3 a4 a5 a6 a7 s rfl h0
def w_256_37 (T : Nat → List Value → yS → (Option Value → yS → Prop) → Prop)  (a1 : Int32) (a2 : Int32) (a3 : Int32) (a4 : Int32) (s : yS) (P : Option Value → yS → Prop) : Prop :=
  P none s
set_option maxRecDepth 20000 in
theorem k_256_37 {d : Nat}  {a1 : Int32} {a2 : Int32} {a3 : Int32} {a4 : Int32} {s : yS} {P : Option Value → yS → Prop}  (h : w_256_37 (Tot d)  a1 a2 a3 a4 s P) : Go d 14 (none) xE_256 (xE_256.drop 37) [.ref 213, .int a1, .int a2, .int a3, .int a4, .null, .null, .null, .null, .null, .null, .null, .null, .null, .null, .null, .null, .null] [] s P := by
  unfold w_256_37 at h
  exact g_ret0 rfl h
def w_256_30 (T : Nat → List Value → yS → (Option Value → yS → Prop) → Prop)  (a1 : Int32) (a2 : Int32) (a3 : Int32) (a4 : Int32) (t1 : Int32) (s : yS) (P : Option Value → yS → Prop) : Prop :=
  (t1.toInt = 0 ∨ t1.toInt = 1) ∧ (∀ s1, s1 = sf s 111 t1 → (¬ (a4.toInt = 1) → w_256_37 T  a1 a2 a3 a4  s1 P) ∧ (a4.toInt = 1 → (¬ ((s1.1 111).toInt = 0) → (0 ≤ a3.toInt ∧ a3.toInt < 160) ∧ (T 186 [.ref 213, .int (s1.2.1 282 a3.toInt.toNat)] s1 (fun v3 s2 => ∃ x4, v3 = some (.int x4) ∧ (wl_256_50 T  a1 a2 a3 a4 (s1.1 64) x4 0  s2 P)))) ∧ ((s1.1 111).toInt = 0 → w_256_37 T  a1 a2 a3 a4  s1 P)))
set_option maxRecDepth 20000 in
theorem k_256_30 {d : Nat}  {a1 : Int32} {a2 : Int32} {a3 : Int32} {a4 : Int32} {t1 : Int32} {s : yS} {P : Option Value → yS → Prop}  (h : w_256_30 (Tot d)  a1 a2 a3 a4 t1 s P) : Go d 14 (none) xE_256 (xE_256.drop 30) [.ref 213, .int a1, .int a2, .int a3, .int a4, .null, .null, .null, .null, .null, .null, .null, .null, .null, .null, .null, .null, .null] [.int t1, .ref 213] s P := by
  unfold w_256_30 at h
  refine g_put rfl rfl (i_z (x := t1) rfl h.1) ?_
  replace h := h.2
  replace h := h _ rfl
  refine g_ld rfl rfl rfl ?_
  refine g_c [.int 1, .int a4] (xo_push (.int 1)) rfl rfl ?_
  refine g_brN rfl rfl ⟨fun hc => ?_, fun hc => ?_⟩
  · replace h := h.1 (fun q => hc ((i_eq (x := a4) (y := 1) rfl (show (1 : Int32).toInt = 1 by decide)).mpr q))
    exact k_256_37  h
  · replace h := h.2 ((i_eq (x := a4) (y := 1) rfl (show (1 : Int32).toInt = 1 by decide)).mp hc)
    refine g_ld rfl rfl rfl ?_
    refine g_get rfl rfl ?_
    change Go _ _ _ _ _ _ [.int ((sf s 111 t1).1 111)] _ _
    refine g_brN rfl rfl ⟨fun hc => ?_, fun hc => ?_⟩
    · replace h := h.1 (fun q => hc ((i_eq (x := (sf s 111 t1).1 111) (y := 0) rfl (show (0 : Int32).toInt = 0 by decide)).mpr q))
      refine g_ld rfl rfl rfl ?_
      refine g_get rfl rfl ?_
      change Go _ _ _ _ _ _ [.int ((sf s 111 t1).1 64)] _ _
      refine g_st [.ref 213, .int a1, .int a2, .int a3, .int a4, .int ((sf s 111 t1).1 64), .null, .null, .null, .null, .null, .null, .null, .null, .null, .null, .null, .null] rfl rfl rfl ?_
      refine g_ld rfl rfl rfl ?_
      refine g_ld rfl rfl rfl ?_
      refine g_get rfl rfl ?_
      change Go _ _ _ _ _ _ [.ref 282, .ref 213] _ _
      refine g_ld rfl rfl rfl ?_
      refine g_ial rfl rfl (i_in (x := a3) rfl h.1) ?_
      change Go _ _ _ _ _ _ [.int ((sf s 111 t1).2.1 282 a3.toInt.toNat), .ref 213] _ _
      replace h := h.2
      refine g_call [.ref 213, .int ((sf s 111 t1).2.1 282 a3.toInt.toNat)] [] rfl rfl rfl (Tot.imp h (fun v3 s2 h => ?_))
      obtain ⟨x4, rfl, h⟩ := h
      change Go _ _ _ _ _ _ [.int x4] _ _
      refine g_st [.ref 213, .int a1, .int a2, .int a3, .int a4, .int ((sf s 111 t1).1 64), .int x4, .null, .null, .null, .null, .null, .null, .null, .null, .null, .null, .null] rfl rfl rfl ?_
      refine g_c [.int 0] (xo_push (.int 0)) rfl rfl ?_
      refine g_st [.ref 213, .int a1, .int a2, .int a3, .int a4, .int ((sf s 111 t1).1 64), .int x4, .int 0, .null, .null, .null, .null, .null, .null, .null, .null, .null, .null] rfl rfl rfl ?_
      exact kl_256_50  h
    · replace h := h.2 ((i_eq (x := (sf s 111 t1).1 111) (y := 0) rfl (show (0 : Int32).toInt = 0 by decide)).mp hc)
      exact k_256_37  h
def w_256_29 (T : Nat → List Value → yS → (Option Value → yS → Prop) → Prop)  (a1 : Int32) (a2 : Int32) (a3 : Int32) (a4 : Int32) (s : yS) (P : Option Value → yS → Prop) : Prop :=
  w_256_30 T  a1 a2 a3 a4 0 s P
set_option maxRecDepth 20000 in
theorem k_256_29 {d : Nat}  {a1 : Int32} {a2 : Int32} {a3 : Int32} {a4 : Int32} {s : yS} {P : Option Value → yS → Prop}  (h : w_256_29 (Tot d)  a1 a2 a3 a4 s P) : Go d 14 (none) xE_256 (xE_256.drop 29) [.ref 213, .int a1, .int a2, .int a3, .int a4, .null, .null, .null, .null, .null, .null, .null, .null, .null, .null, .null, .null, .null] [.ref 213] s P := by
  unfold w_256_29 at h
  refine g_c [.int 0, .ref 213] (xo_push (.int 0)) rfl rfl ?_
  exact k_256_30  h
def w_256_0 (T : Nat → List Value → yS → (Option Value → yS → Prop) → Prop)  (a1 : Int32) (a2 : Int32) (a3 : Int32) (s : yS) (P : Option Value → yS → Prop) : Prop :=
  (0 ≤ a3.toInt ∧ a3.toInt < 160) ∧ ((0 ≤ a3.toInt ∧ a3.toInt < 160) ∧ (T 186 [.ref 213, .int (s.2.1 282 a3.toInt.toNat)] s (fun v2 s1 => ∃ x3, v2 = some (.int x3) ∧ ((0 ≤ a3.toInt ∧ a3.toInt < 160) ∧ ((-2147483648 ≤ x3.toInt - (s1.2.1 282 a3.toInt.toNat).toInt ∧ x3.toInt - (s1.2.1 282 a3.toInt.toNat).toInt ≤ 2147483647) ∧ (∀ x4 : Int32, x4.toInt = x3.toInt - (s1.2.1 282 a3.toInt.toNat).toInt → T 195 [.ref 213, .int a1, .int a2, .int (s.2.1 282 a3.toInt.toNat), .int x4] s1 (fun v6 s5 => ∃ x7, v6 = some (.int x7) ∧ (((s5.1 111).toInt = 0 → w_256_29 T  a1 a2 a3 x7  s5 P) ∧ (¬ ((s5.1 111).toInt = 0) → (x7.toInt = 2 → w_256_29 T  a1 a2 a3 x7  s5 P) ∧ (¬ (x7.toInt = 2) → w_256_30 T  a1 a2 a3 x7 1 s5 P))))))))))
set_option maxRecDepth 20000 in
theorem k_256_0 {d : Nat}  {a1 : Int32} {a2 : Int32} {a3 : Int32} {s : yS} {P : Option Value → yS → Prop}  (h : w_256_0 (Tot d)  a1 a2 a3 s P) : Go d 14 (none) xE_256 (xE_256.drop 0) [.ref 213, .int a1, .int a2, .int a3, .null, .null, .null, .null, .null, .null, .null, .null, .null, .null, .null, .null, .null, .null] [] s P := by
  unfold w_256_0 at h
  refine g_ld rfl rfl rfl ?_
  refine g_ld rfl rfl rfl ?_
  refine g_ld rfl rfl rfl ?_
  refine g_ld rfl rfl rfl ?_
  refine g_get rfl rfl ?_
  change Go _ _ _ _ _ _ [.ref 282, .int a2, .int a1, .ref 213] _ _
  refine g_ld rfl rfl rfl ?_
  refine g_ial rfl rfl (i_in (x := a3) rfl h.1) ?_
  change Go _ _ _ _ _ _ [.int (s.2.1 282 a3.toInt.toNat), .int a2, .int a1, .ref 213] _ _
  replace h := h.2
  refine g_ld rfl rfl rfl ?_
  refine g_ld rfl rfl rfl ?_
  refine g_get rfl rfl ?_
  change Go _ _ _ _ _ _ [.ref 282, .ref 213, .int (s.2.1 282 a3.toInt.toNat), .int a2, .int a1, .ref 213] _ _
  refine g_ld rfl rfl rfl ?_
  refine g_ial rfl rfl (i_in (x := a3) rfl h.1) ?_
  change Go _ _ _ _ _ _ [.int (s.2.1 282 a3.toInt.toNat), .ref 213, .int (s.2.1 282 a3.toInt.toNat), .int a2, .int a1, .ref 213] _ _
  replace h := h.2
  refine g_call [.ref 213, .int (s.2.1 282 a3.toInt.toNat)] [.int (s.2.1 282 a3.toInt.toNat), .int a2, .int a1, .ref 213] rfl rfl rfl (Tot.imp h (fun v2 s1 h => ?_))
  obtain ⟨x3, rfl, h⟩ := h
  change Go _ _ _ _ _ _ [.int x3, .int (s.2.1 282 a3.toInt.toNat), .int a2, .int a1, .ref 213] _ _
  refine g_ld rfl rfl rfl ?_
  refine g_get rfl rfl ?_
  change Go _ _ _ _ _ _ [.ref 282, .int x3, .int (s.2.1 282 a3.toInt.toNat), .int a2, .int a1, .ref 213] _ _
  refine g_ld rfl rfl rfl ?_
  refine g_ial rfl rfl (i_in (x := a3) rfl h.1) ?_
  change Go _ _ _ _ _ _ [.int (s1.2.1 282 a3.toInt.toNat), .int x3, .int (s.2.1 282 a3.toInt.toNat), .int a2, .int a1, .ref 213] _ _
  replace h := h.2
  have ex4 := i_sub (x := x3) (y := s1.2.1 282 a3.toInt.toNat) rfl rfl h.1
  have cx4 := ck_sub (x := x3) (y := s1.2.1 282 a3.toInt.toNat) rfl rfl h.1
  replace h := h.2 _ ex4
  refine g_ca [.int (x3 - (s1.2.1 282 a3.toInt.toNat)), .int (s.2.1 282 a3.toInt.toNat), .int a2, .int a1, .ref 213] xo_isub rfl rfl (fun _ => cx4) ?_
  refine g_call [.ref 213, .int a1, .int a2, .int (s.2.1 282 a3.toInt.toNat), .int (x3 - (s1.2.1 282 a3.toInt.toNat))] [] rfl rfl rfl (Tot.imp h (fun v6 s5 h => ?_))
  obtain ⟨x7, rfl, h⟩ := h
  change Go _ _ _ _ _ _ [.int x7] _ _
  refine g_st [.ref 213, .int a1, .int a2, .int a3, .int x7, .null, .null, .null, .null, .null, .null, .null, .null, .null, .null, .null, .null, .null] rfl rfl rfl ?_
  refine g_ld rfl rfl rfl ?_
  refine g_ld rfl rfl rfl ?_
  refine g_get rfl rfl ?_
  change Go _ _ _ _ _ _ [.int (s5.1 111), .ref 213] _ _
  refine g_brP rfl rfl ⟨fun hc => ?_, fun hc => ?_⟩
  · replace h := h.1 ((i_eq (x := s5.1 111) (y := 0) rfl (show (0 : Int32).toInt = 0 by decide)).mp hc)
    exact k_256_29  h
  · replace h := h.2 (fun q => hc ((i_eq (x := s5.1 111) (y := 0) rfl (show (0 : Int32).toInt = 0 by decide)).mpr q))
    refine g_ld rfl rfl rfl ?_
    refine g_c [.int 2, .int x7, .ref 213] (xo_push (.int 2)) rfl rfl ?_
    refine g_brP rfl rfl ⟨fun hc => ?_, fun hc => ?_⟩
    · replace h := h.1 ((i_eq (x := x7) (y := 2) rfl (show (2 : Int32).toInt = 2 by decide)).mp hc)
      exact k_256_29  h
    · replace h := h.2 (fun q => hc ((i_eq (x := x7) (y := 2) rfl (show (2 : Int32).toInt = 2 by decide)).mpr q))
      refine g_c [.int 1, .ref 213] (xo_push (.int 1)) rfl rfl ?_
      refine g_go rfl ?_
      exact k_256_30  h
theorem t_256 {d : Nat} {a1 : Int32} {a2 : Int32} {a3 : Int32} {s : yS} {P : Option Value → yS → Prop} (h : w_256_0 (Tot d) a1 a2 a3 s P) : Tot (d + 1) 256 [.ref 213, .int a1, .int a2, .int a3] s P := tot_of (E := xE_256) (ml := 14) (ret := none) rfl rfl rfl (k_256_0 h)
/-! instances -/
def w_257_128 (T : Nat → List Value → yS → (Option Value → yS → Prop) → Prop)  (a1 : Int32) (a2 : Int32) (t1 : Int32) (s : yS) (P : Option Value → yS → Prop) : Prop :=
  ∀ s1, s1 = sf s 109 t1 → P (some (.int (s1.1 109))) s1
set_option maxRecDepth 20000 in
theorem k_257_128 {d : Nat}  {a1 : Int32} {a2 : Int32} {t1 : Int32} {s : yS} {P : Option Value → yS → Prop}  (h : w_257_128 (Tot d)  a1 a2 t1 s P) : Go d 5 (some .int) xE_257 (xE_257.drop 128) [.ref 213, .int a1, .int a2, .null, .null, .null] [.int t1, .ref 213] s P := by
  unfold w_257_128 at h
  refine g_put rfl rfl rfl ?_
  replace h := h _ rfl
  refine g_ld rfl rfl rfl ?_
  refine g_get rfl rfl ?_
  change Go _ _ _ _ _ _ [.int ((sf s 109 t1).1 109)] _ _
  exact g_retI rfl h
def w_257_119 (T : Nat → List Value → yS → (Option Value → yS → Prop) → Prop)  (a1 : Int32) (a2 : Int32) (s : yS) (P : Option Value → yS → Prop) : Prop :=
  ((s.1 111).toInt = 0 → w_257_128 T  a1 a2 (-1) s P) ∧ (¬ ((s.1 111).toInt = 0) → T 258 [.ref 213, .int 2] s (fun v2 s1 => ∃ x3, v2 = some (.int x3) ∧ (w_257_128 T  a1 a2 x3 s1 P)))
set_option maxRecDepth 20000 in
theorem k_257_119 {d : Nat}  {a1 : Int32} {a2 : Int32} {s : yS} {P : Option Value → yS → Prop}  (h : w_257_119 (Tot d)  a1 a2 s P) : Go d 5 (some .int) xE_257 (xE_257.drop 119) [.ref 213, .int a1, .int a2, .null, .null, .null] [] s P := by
  unfold w_257_119 at h
  refine g_ld rfl rfl rfl ?_
  refine g_ld rfl rfl rfl ?_
  refine g_get rfl rfl ?_
  change Go _ _ _ _ _ _ [.int (s.1 111), .ref 213] _ _
  refine g_brP rfl rfl ⟨fun hc => ?_, fun hc => ?_⟩
  · replace h := h.1 ((i_eq (x := s.1 111) (y := 0) rfl (show (0 : Int32).toInt = 0 by decide)).mp hc)
    refine g_c [.int (-1), .ref 213] (xo_push (.int (-1))) rfl rfl ?_
    exact k_257_128  h
  · replace h := h.2 (fun q => hc ((i_eq (x := s.1 111) (y := 0) rfl (show (0 : Int32).toInt = 0 by decide)).mpr q))
    refine g_ld rfl rfl rfl ?_
    refine g_c [.int 2, .ref 213, .ref 213] (xo_push (.int 2)) rfl rfl ?_
    refine g_call [.ref 213, .int 2] [.ref 213] rfl rfl rfl (Tot.imp h (fun v2 s1 h => ?_))
    obtain ⟨x3, rfl, h⟩ := h
    change Go _ _ _ _ _ _ [.int x3, .ref 213] _ _
    refine g_go rfl ?_
    exact k_257_128  h
def w_257_118 (T : Nat → List Value → yS → (Option Value → yS → Prop) → Prop) (R54 : Int32 → Int32 → yS → Prop) (a1 : Int32) (a2 : Int32) (a3 : Int32) (s : yS) (P : Option Value → yS → Prop) : Prop :=
  R54 a1 a2  s
set_option maxRecDepth 20000 in
theorem k_257_118 {d : Nat} {R54 : Int32 → Int32 → yS → Prop} {a1 : Int32} {a2 : Int32} {a3 : Int32} {s : yS} {P : Option Value → yS → Prop} (r54 : ∀ a1 a2 s, R54 a1 a2 s → Go d 5 (some .int) xE_257 (xE_257.drop 54) [.ref 213, .int a1, .int a2, .null, .null, .null] [] s P) (h : w_257_118 (Tot d) R54 a1 a2 a3 s P) : Go d 5 (some .int) xE_257 (xE_257.drop 118) [.ref 213, .int a1, .int a2, .int a3, .null, .null] [] s P := by
  unfold w_257_118 at h
  refine g_go rfl ?_
  refine g_fg 3 ?_
  exact r54 a1 a2  s h
def w_257_116 (T : Nat → List Value → yS → (Option Value → yS → Prop) → Prop) (R54 : Int32 → Int32 → yS → Prop) (R66 : Int32 → Int32 → Int32 → yS → Prop) (a1 : Int32) (a2 : Int32) (a3 : Int32) (a4 : Int32) (s : yS) (P : Option Value → yS → Prop) : Prop :=
  (-2147483648 ≤ a3.toInt + 1 ∧ a3.toInt + 1 ≤ 2147483647) ∧ (∀ x1 : Int32, x1.toInt = a3.toInt + 1 → R66 a1 a2 x1  s)
set_option maxRecDepth 20000 in
theorem k_257_116 {d : Nat} {R54 : Int32 → Int32 → yS → Prop} {R66 : Int32 → Int32 → Int32 → yS → Prop} {a1 : Int32} {a2 : Int32} {a3 : Int32} {a4 : Int32} {s : yS} {P : Option Value → yS → Prop} (r54 : ∀ a1 a2 s, R54 a1 a2 s → Go d 5 (some .int) xE_257 (xE_257.drop 54) [.ref 213, .int a1, .int a2, .null, .null, .null] [] s P) (r66 : ∀ a1 a2 a3 s, R66 a1 a2 a3 s → Go d 5 (some .int) xE_257 (xE_257.drop 66) [.ref 213, .int a1, .int a2, .int a3, .null, .null] [] s P) (h : w_257_116 (Tot d) R54 R66 a1 a2 a3 a4 s P) : Go d 5 (some .int) xE_257 (xE_257.drop 116) [.ref 213, .int a1, .int a2, .int a3, .int a4, .null] [] s P := by
  unfold w_257_116 at h
  have ex1 := i_add (x := a3) (y := 1) rfl (show (1 : Int32).toInt = 1 by decide) h.1
  have cx1 := ck_inc (x := a3) (n := 1) rfl h.1
  replace h := h.2 _ ex1
  refine g_inc [.ref 213, .int a1, .int a2, .int (a3 + 1), .int a4, .null] rfl rfl rfl rfl cx1 ?_
  refine g_go rfl ?_
  refine g_fg 4 ?_
  exact r66 a1 a2 (a3 + 1)  s h
def w_257_114 (T : Nat → List Value → yS → (Option Value → yS → Prop) → Prop) (R54 : Int32 → Int32 → yS → Prop) (R66 : Int32 → Int32 → Int32 → yS → Prop) (R75 : Int32 → Int32 → Int32 → Int32 → yS → Prop) (a1 : Int32) (a2 : Int32) (a3 : Int32) (a4 : Int32) (s : yS) (P : Option Value → yS → Prop) : Prop :=
  (-2147483648 ≤ a4.toInt + 1 ∧ a4.toInt + 1 ≤ 2147483647) ∧ (∀ x1 : Int32, x1.toInt = a4.toInt + 1 → R75 a1 a2 a3 x1  s)
set_option maxRecDepth 20000 in
theorem k_257_114 {d : Nat} {R54 : Int32 → Int32 → yS → Prop} {R66 : Int32 → Int32 → Int32 → yS → Prop} {R75 : Int32 → Int32 → Int32 → Int32 → yS → Prop} {a1 : Int32} {a2 : Int32} {a3 : Int32} {a4 : Int32} {s : yS} {P : Option Value → yS → Prop} (r54 : ∀ a1 a2 s, R54 a1 a2 s → Go d 5 (some .int) xE_257 (xE_257.drop 54) [.ref 213, .int a1, .int a2, .null, .null, .null] [] s P) (r66 : ∀ a1 a2 a3 s, R66 a1 a2 a3 s → Go d 5 (some .int) xE_257 (xE_257.drop 66) [.ref 213, .int a1, .int a2, .int a3, .null, .null] [] s P) (r75 : ∀ a1 a2 a3 a4 s, R75 a1 a2 a3 a4 s → Go d 5 (some .int) xE_257 (xE_257.drop 75) [.ref 213, .int a1, .int a2, .int a3, .int a4, .null] [] s P) (h : w_257_114 (Tot d) R54 R66 R75 a1 a2 a3 a4 s P) : Go d 5 (some .int) xE_257 (xE_257.drop 114) [.ref 213, .int a1, .int a2, .int a3, .int a4, .null] [] s P := by
  unfold w_257_114 at h
  have ex1 := i_add (x := a4) (y := 1) rfl (show (1 : Int32).toInt = 1 by decide) h.1
  have cx1 := ck_inc (x := a4) (n := 1) rfl h.1
  replace h := h.2 _ ex1
  refine g_inc [.ref 213, .int a1, .int a2, .int a3, .int (a4 + 1), .null] rfl rfl rfl rfl cx1 ?_
  refine g_go rfl ?_
  exact r75 a1 a2 a3 (a4 + 1)  s h
def w_257_75 (T : Nat → List Value → yS → (Option Value → yS → Prop) → Prop) (R54 : Int32 → Int32 → yS → Prop) (R66 : Int32 → Int32 → Int32 → yS → Prop) (R75 : Int32 → Int32 → Int32 → Int32 → yS → Prop) (a1 : Int32) (a2 : Int32) (a3 : Int32) (a4 : Int32) (s : yS) (P : Option Value → yS → Prop) : Prop :=
  ((s.1 112).toInt ≤ a4.toInt → w_257_116 T R54 R66 a1 a2 a3 a4  s P) ∧ (¬ ((s.1 112).toInt ≤ a4.toInt) → ((s.1 111).toInt = 0 → w_257_116 T R54 R66 a1 a2 a3 a4  s P) ∧ (¬ ((s.1 111).toInt = 0) → (0 ≤ a3.toInt ∧ a3.toInt < 160) ∧ ((¬ ((s.2.1 279 a3.toInt.toNat).toInt = 1) → w_257_116 T R54 R66 a1 a2 a3 a4  s P) ∧ ((s.2.1 279 a3.toInt.toNat).toInt = 1 → (0 ≤ a4.toInt ∧ a4.toInt < 160) ∧ ((¬ ((s.2.1 279 a4.toInt.toNat).toInt = 0) → w_257_114 T R54 R66 R75 a1 a2 a3 a4  s P) ∧ ((s.2.1 279 a4.toInt.toNat).toInt = 0 → (0 ≤ a4.toInt ∧ a4.toInt < 160) ∧ (T 220 [.ref 213, .int (s.2.1 282 a4.toInt.toNat)] s (fun v2 s1 => ∃ x3, v2 = some (.int x3) ∧ ((x3.toInt = 0 → w_257_114 T R54 R66 R75 a1 a2 a3 a4  s1 P) ∧ (¬ (x3.toInt = 0) → ∀ s4, s4 = sf s1 64 100000 → (0 ≤ a4.toInt ∧ a4.toInt < 160) ∧ ((0 ≤ a4.toInt ∧ a4.toInt < 160) ∧ (T 256 [.ref 213, .int (s4.2.1 282 a4.toInt.toNat), .int (s4.2.1 283 a4.toInt.toNat), .int a3] s4 (fun v6 s5 => v6 = none ∧ (w_257_114 T R54 R66 R75 a1 a2 a3 a4  s5 P))))))))))))))
set_option maxRecDepth 20000 in
theorem k_257_75 {d : Nat} {R54 : Int32 → Int32 → yS → Prop} {R66 : Int32 → Int32 → Int32 → yS → Prop} {R75 : Int32 → Int32 → Int32 → Int32 → yS → Prop} {a1 : Int32} {a2 : Int32} {a3 : Int32} {a4 : Int32} {s : yS} {P : Option Value → yS → Prop} (r54 : ∀ a1 a2 s, R54 a1 a2 s → Go d 5 (some .int) xE_257 (xE_257.drop 54) [.ref 213, .int a1, .int a2, .null, .null, .null] [] s P) (r66 : ∀ a1 a2 a3 s, R66 a1 a2 a3 s → Go d 5 (some .int) xE_257 (xE_257.drop 66) [.ref 213, .int a1, .int a2, .int a3, .null, .null] [] s P) (r75 : ∀ a1 a2 a3 a4 s, R75 a1 a2 a3 a4 s → Go d 5 (some .int) xE_257 (xE_257.drop 75) [.ref 213, .int a1, .int a2, .int a3, .int a4, .null] [] s P) (h : w_257_75 (Tot d) R54 R66 R75 a1 a2 a3 a4 s P) : Go d 5 (some .int) xE_257 (xE_257.drop 75) [.ref 213, .int a1, .int a2, .int a3, .int a4, .null] [] s P := by
  unfold w_257_75 at h
  refine g_ld rfl rfl rfl ?_
  refine g_ld rfl rfl rfl ?_
  refine g_get rfl rfl ?_
  change Go _ _ _ _ _ _ [.int (s.1 112), .int a4] _ _
  refine g_brP rfl rfl ⟨fun hc => ?_, fun hc => ?_⟩
  · replace h := h.1 ((i_le (x := s.1 112) (y := a4) rfl rfl).mp hc)
    exact k_257_116 r54 r66 h
  · replace h := h.2 (fun q => hc ((i_le (x := s.1 112) (y := a4) rfl rfl).mpr q))
    refine g_ld rfl rfl rfl ?_
    refine g_get rfl rfl ?_
    change Go _ _ _ _ _ _ [.int (s.1 111)] _ _
    refine g_brP rfl rfl ⟨fun hc => ?_, fun hc => ?_⟩
    · replace h := h.1 ((i_eq (x := s.1 111) (y := 0) rfl (show (0 : Int32).toInt = 0 by decide)).mp hc)
      exact k_257_116 r54 r66 h
    · replace h := h.2 (fun q => hc ((i_eq (x := s.1 111) (y := 0) rfl (show (0 : Int32).toInt = 0 by decide)).mpr q))
      refine g_ld rfl rfl rfl ?_
      refine g_get rfl rfl ?_
      change Go _ _ _ _ _ _ [.ref 279] _ _
      refine g_ld rfl rfl rfl ?_
      refine g_ial rfl rfl (i_in (x := a3) rfl h.1) ?_
      change Go _ _ _ _ _ _ [.int (s.2.1 279 a3.toInt.toNat)] _ _
      replace h := h.2
      refine g_c [.int 1, .int (s.2.1 279 a3.toInt.toNat)] (xo_push (.int 1)) rfl rfl ?_
      refine g_brN rfl rfl ⟨fun hc => ?_, fun hc => ?_⟩
      · replace h := h.1 (fun q => hc ((i_eq (x := s.2.1 279 a3.toInt.toNat) (y := 1) rfl (show (1 : Int32).toInt = 1 by decide)).mpr q))
        exact k_257_116 r54 r66 h
      · replace h := h.2 ((i_eq (x := s.2.1 279 a3.toInt.toNat) (y := 1) rfl (show (1 : Int32).toInt = 1 by decide)).mp hc)
        refine g_ld rfl rfl rfl ?_
        refine g_get rfl rfl ?_
        change Go _ _ _ _ _ _ [.ref 279] _ _
        refine g_ld rfl rfl rfl ?_
        refine g_ial rfl rfl (i_in (x := a4) rfl h.1) ?_
        change Go _ _ _ _ _ _ [.int (s.2.1 279 a4.toInt.toNat)] _ _
        replace h := h.2
        refine g_brN rfl rfl ⟨fun hc => ?_, fun hc => ?_⟩
        · replace h := h.1 (fun q => hc ((i_eq (x := s.2.1 279 a4.toInt.toNat) (y := 0) rfl (show (0 : Int32).toInt = 0 by decide)).mpr q))
          exact k_257_114 r54 r66 r75 h
        · replace h := h.2 ((i_eq (x := s.2.1 279 a4.toInt.toNat) (y := 0) rfl (show (0 : Int32).toInt = 0 by decide)).mp hc)
          refine g_ld rfl rfl rfl ?_
          refine g_ld rfl rfl rfl ?_
          refine g_get rfl rfl ?_
          change Go _ _ _ _ _ _ [.ref 282, .ref 213] _ _
          refine g_ld rfl rfl rfl ?_
          refine g_ial rfl rfl (i_in (x := a4) rfl h.1) ?_
          change Go _ _ _ _ _ _ [.int (s.2.1 282 a4.toInt.toNat), .ref 213] _ _
          replace h := h.2
          refine g_call [.ref 213, .int (s.2.1 282 a4.toInt.toNat)] [] rfl rfl rfl (Tot.imp h (fun v2 s1 h => ?_))
          obtain ⟨x3, rfl, h⟩ := h
          change Go _ _ _ _ _ _ [.int x3] _ _
          refine g_brP rfl rfl ⟨fun hc => ?_, fun hc => ?_⟩
          · replace h := h.1 ((i_eq (x := x3) (y := 0) rfl (show (0 : Int32).toInt = 0 by decide)).mp hc)
            exact k_257_114 r54 r66 r75 h
          · replace h := h.2 (fun q => hc ((i_eq (x := x3) (y := 0) rfl (show (0 : Int32).toInt = 0 by decide)).mpr q))
            refine g_ld rfl rfl rfl ?_
            refine g_c [.int 100000, .ref 213] (xo_push (.int 100000)) rfl rfl ?_
            refine g_put rfl rfl rfl ?_
            replace h := h _ rfl
            refine g_ld rfl rfl rfl ?_
            refine g_ld rfl rfl rfl ?_
            refine g_get rfl rfl ?_
            change Go _ _ _ _ _ _ [.ref 282, .ref 213] _ _
            refine g_ld rfl rfl rfl ?_
            refine g_ial rfl rfl (i_in (x := a4) rfl h.1) ?_
            change Go _ _ _ _ _ _ [.int ((sf s1 64 100000).2.1 282 a4.toInt.toNat), .ref 213] _ _
            replace h := h.2
            refine g_ld rfl rfl rfl ?_
            refine g_get rfl rfl ?_
            change Go _ _ _ _ _ _ [.ref 283, .int ((sf s1 64 100000).2.1 282 a4.toInt.toNat), .ref 213] _ _
            refine g_ld rfl rfl rfl ?_
            refine g_ial rfl rfl (i_in (x := a4) rfl h.1) ?_
            change Go _ _ _ _ _ _ [.int ((sf s1 64 100000).2.1 283 a4.toInt.toNat), .int ((sf s1 64 100000).2.1 282 a4.toInt.toNat), .ref 213] _ _
            replace h := h.2
            refine g_ld rfl rfl rfl ?_
            refine g_call [.ref 213, .int ((sf s1 64 100000).2.1 282 a4.toInt.toNat), .int ((sf s1 64 100000).2.1 283 a4.toInt.toNat), .int a3] [] rfl rfl rfl (Tot.imp h (fun v6 s5 h => ?_))
            obtain ⟨rfl, h⟩ := h
            change Go _ _ _ _ _ _ [] _ _
            exact k_257_114 r54 r66 r75 h
def wl_257_75 (T : Nat → List Value → yS → (Option Value → yS → Prop) → Prop) (R54 : Int32 → Int32 → yS → Prop) (R66 : Int32 → Int32 → Int32 → yS → Prop) (a1 : Int32) (a2 : Int32) (a3 : Int32) (a4 : Int32) (s : yS) (P : Option Value → yS → Prop) : Prop :=
  ∃ (I : Int32 → Int32 → Int32 → Int32 → yS → Prop) (μ : Int32 → Int32 → Int32 → Int32 → yS → Nat), I a1 a2 a3 a4 s ∧ ∀ (a1 : Int32) (a2 : Int32) (a3 : Int32) (a4 : Int32) (s : yS), I a1 a2 a3 a4 s → w_257_75 T R54 R66 (fun a1' a2' a3' a4' s' => I a1' a2' a3' a4' s' ∧ μ a1' a2' a3' a4' s' < μ a1 a2 a3 a4 s) a1 a2 a3 a4 s P
theorem kl_257_75 {d : Nat} {R54 : Int32 → Int32 → yS → Prop} {R66 : Int32 → Int32 → Int32 → yS → Prop} {a1 : Int32} {a2 : Int32} {a3 : Int32} {a4 : Int32} {s : yS} {P : Option Value → yS → Prop} (r54 : ∀ a1 a2 s, R54 a1 a2 s → Go d 5 (some .int) xE_257 (xE_257.drop 54) [.ref 213, .int a1, .int a2, .null, .null, .null] [] s P) (r66 : ∀ a1 a2 a3 s, R66 a1 a2 a3 s → Go d 5 (some .int) xE_257 (xE_257.drop 66) [.ref 213, .int a1, .int a2, .int a3, .null, .null] [] s P) (h : wl_257_75 (Tot d) R54 R66 a1 a2 a3 a4 s P) : Go d 5 (some .int) xE_257 (xE_257.drop 75) [.ref 213, .int a1, .int a2, .int a3, .int a4, .null] [] s P := by
  obtain ⟨I, μ, h0, h1⟩ := h
  have key : ∀ (n : Nat) (a1 : Int32) (a2 : Int32) (a3 : Int32) (a4 : Int32) (s : yS), μ a1 a2 a3 a4 s = n → I a1 a2 a3 a4 s → Go d 5 (some .int) xE_257 (xE_257.drop 75) [.ref 213, .int a1, .int a2, .int a3, .int a4, .null] [] s P := by
    intro n
    induction n using Nat.strongRecOn with
    | ind n ih =>
      intro a1 a2 a3 a4 s e hI
      exact k_257_75 r54 r66 (fun a1' a2' a3' a4' s' q => ih _ (by rw [← e]; exact q.2) _ _ _ _ _ rfl q.1) (h1 a1 a2 a3 a4 s hI)
  exact key _ a1 a2 a3 a4 s rfl h0
def w_257_66 (T : Nat → List Value → yS → (Option Value → yS → Prop) → Prop) (R54 : Int32 → Int32 → yS → Prop) (R66 : Int32 → Int32 → Int32 → yS → Prop) (a1 : Int32) (a2 : Int32) (a3 : Int32) (s : yS) (P : Option Value → yS → Prop) : Prop :=
  ((s.1 112).toInt ≤ a3.toInt → w_257_118 T R54 a1 a2 a3  s P) ∧ (¬ ((s.1 112).toInt ≤ a3.toInt) → ((s.1 111).toInt = 0 → w_257_118 T R54 a1 a2 a3  s P) ∧ (¬ ((s.1 111).toInt = 0) → wl_257_75 T R54 R66 a1 a2 a3 0  s P))
set_option maxRecDepth 20000 in
theorem k_257_66 {d : Nat} {R54 : Int32 → Int32 → yS → Prop} {R66 : Int32 → Int32 → Int32 → yS → Prop} {a1 : Int32} {a2 : Int32} {a3 : Int32} {s : yS} {P : Option Value → yS → Prop} (r54 : ∀ a1 a2 s, R54 a1 a2 s → Go d 5 (some .int) xE_257 (xE_257.drop 54) [.ref 213, .int a1, .int a2, .null, .null, .null] [] s P) (r66 : ∀ a1 a2 a3 s, R66 a1 a2 a3 s → Go d 5 (some .int) xE_257 (xE_257.drop 66) [.ref 213, .int a1, .int a2, .int a3, .null, .null] [] s P) (h : w_257_66 (Tot d) R54 R66 a1 a2 a3 s P) : Go d 5 (some .int) xE_257 (xE_257.drop 66) [.ref 213, .int a1, .int a2, .int a3, .null, .null] [] s P := by
  unfold w_257_66 at h
  refine g_ld rfl rfl rfl ?_
  refine g_ld rfl rfl rfl ?_
  refine g_get rfl rfl ?_
  change Go _ _ _ _ _ _ [.int (s.1 112), .int a3] _ _
  refine g_brP rfl rfl ⟨fun hc => ?_, fun hc => ?_⟩
  · replace h := h.1 ((i_le (x := s.1 112) (y := a3) rfl rfl).mp hc)
    exact k_257_118 r54 h
  · replace h := h.2 (fun q => hc ((i_le (x := s.1 112) (y := a3) rfl rfl).mpr q))
    refine g_ld rfl rfl rfl ?_
    refine g_get rfl rfl ?_
    change Go _ _ _ _ _ _ [.int (s.1 111)] _ _
    refine g_brP rfl rfl ⟨fun hc => ?_, fun hc => ?_⟩
    · replace h := h.1 ((i_eq (x := s.1 111) (y := 0) rfl (show (0 : Int32).toInt = 0 by decide)).mp hc)
      exact k_257_118 r54 h
    · replace h := h.2 (fun q => hc ((i_eq (x := s.1 111) (y := 0) rfl (show (0 : Int32).toInt = 0 by decide)).mpr q))
      refine g_c [.int 0] (xo_push (.int 0)) rfl rfl ?_
      refine g_st [.ref 213, .int a1, .int a2, .int a3, .int 0, .null] rfl rfl rfl ?_
      exact kl_257_75 r54 r66 h
def wl_257_66 (T : Nat → List Value → yS → (Option Value → yS → Prop) → Prop) (R54 : Int32 → Int32 → yS → Prop) (a1 : Int32) (a2 : Int32) (a3 : Int32) (s : yS) (P : Option Value → yS → Prop) : Prop :=
  ∃ (I : Int32 → Int32 → Int32 → yS → Prop) (μ : Int32 → Int32 → Int32 → yS → Nat), I a1 a2 a3 s ∧ ∀ (a1 : Int32) (a2 : Int32) (a3 : Int32) (s : yS), I a1 a2 a3 s → w_257_66 T R54 (fun a1' a2' a3' s' => I a1' a2' a3' s' ∧ μ a1' a2' a3' s' < μ a1 a2 a3 s) a1 a2 a3 s P
theorem kl_257_66 {d : Nat} {R54 : Int32 → Int32 → yS → Prop} {a1 : Int32} {a2 : Int32} {a3 : Int32} {s : yS} {P : Option Value → yS → Prop} (r54 : ∀ a1 a2 s, R54 a1 a2 s → Go d 5 (some .int) xE_257 (xE_257.drop 54) [.ref 213, .int a1, .int a2, .null, .null, .null] [] s P) (h : wl_257_66 (Tot d) R54 a1 a2 a3 s P) : Go d 5 (some .int) xE_257 (xE_257.drop 66) [.ref 213, .int a1, .int a2, .int a3, .null, .null] [] s P := by
  obtain ⟨I, μ, h0, h1⟩ := h
  have key : ∀ (n : Nat) (a1 : Int32) (a2 : Int32) (a3 : Int32) (s : yS), μ a1 a2 a3 s = n → I a1 a2 a3 s → Go d 5 (some .int) xE_257 (xE_257.drop 66) [.ref 213, .int a1, .int a2, .int a3, .null, .null] [] s P := by
    intro n
    induction n using Nat.strongRecOn with
    | ind n ih =>
      intro a1 a2 a3 s e hI
      exact k_257_66 r54 (fun a1' a2' a3' s' q => ih _ (by rw [← e]; exact q.2) _ _ _ _ rfl q.1) (h1 a1 a2 a3 s hI)
  exact key _ a1 a2 a3 s rfl h0
def w_257_54 (T : Nat → List Value → yS → (Option Value → yS → Prop) → Prop) (R54 : Int32 → Int32 → yS → Prop) (a1 : Int32) (a2 : Int32) (s : yS) (P : Option Value → yS → Prop) : Prop :=
  (a2.toInt = (s.1 112).toInt → w_257_119 T  a1 a2  s P) ∧ (¬ (a2.toInt = (s.1 112).toInt) → ((s.1 111).toInt = 0 → w_257_119 T  a1 a2  s P) ∧ (¬ ((s.1 111).toInt = 0) → wl_257_66 T R54 a1 (s.1 112) 0  s P))
set_option maxRecDepth 20000 in
theorem k_257_54 {d : Nat} {R54 : Int32 → Int32 → yS → Prop} {a1 : Int32} {a2 : Int32} {s : yS} {P : Option Value → yS → Prop} (r54 : ∀ a1 a2 s, R54 a1 a2 s → Go d 5 (some .int) xE_257 (xE_257.drop 54) [.ref 213, .int a1, .int a2, .null, .null, .null] [] s P) (h : w_257_54 (Tot d) R54 a1 a2 s P) : Go d 5 (some .int) xE_257 (xE_257.drop 54) [.ref 213, .int a1, .int a2, .null, .null, .null] [] s P := by
  unfold w_257_54 at h
  refine g_ld rfl rfl rfl ?_
  refine g_ld rfl rfl rfl ?_
  refine g_get rfl rfl ?_
  change Go _ _ _ _ _ _ [.int (s.1 112), .int a2] _ _
  refine g_brP rfl rfl ⟨fun hc => ?_, fun hc => ?_⟩
  · replace h := h.1 ((i_eq (x := a2) (y := s.1 112) rfl rfl).mp hc)
    exact k_257_119  h
  · replace h := h.2 (fun q => hc ((i_eq (x := a2) (y := s.1 112) rfl rfl).mpr q))
    refine g_ld rfl rfl rfl ?_
    refine g_get rfl rfl ?_
    change Go _ _ _ _ _ _ [.int (s.1 111)] _ _
    refine g_brP rfl rfl ⟨fun hc => ?_, fun hc => ?_⟩
    · replace h := h.1 ((i_eq (x := s.1 111) (y := 0) rfl (show (0 : Int32).toInt = 0 by decide)).mp hc)
      exact k_257_119  h
    · replace h := h.2 (fun q => hc ((i_eq (x := s.1 111) (y := 0) rfl (show (0 : Int32).toInt = 0 by decide)).mpr q))
      refine g_ld rfl rfl rfl ?_
      refine g_get rfl rfl ?_
      change Go _ _ _ _ _ _ [.int (s.1 112)] _ _
      refine g_st [.ref 213, .int a1, .int (s.1 112), .null, .null, .null] rfl rfl rfl ?_
      refine g_c [.int 0] (xo_push (.int 0)) rfl rfl ?_
      refine g_st [.ref 213, .int a1, .int (s.1 112), .int 0, .null, .null] rfl rfl rfl ?_
      exact kl_257_66 r54 h
def wl_257_54 (T : Nat → List Value → yS → (Option Value → yS → Prop) → Prop)  (a1 : Int32) (a2 : Int32) (s : yS) (P : Option Value → yS → Prop) : Prop :=
  ∃ (I : Int32 → Int32 → yS → Prop) (μ : Int32 → Int32 → yS → Nat), I a1 a2 s ∧ ∀ (a1 : Int32) (a2 : Int32) (s : yS), I a1 a2 s → w_257_54 T (fun a1' a2' s' => I a1' a2' s' ∧ μ a1' a2' s' < μ a1 a2 s) a1 a2 s P
theorem kl_257_54 {d : Nat}  {a1 : Int32} {a2 : Int32} {s : yS} {P : Option Value → yS → Prop}  (h : wl_257_54 (Tot d)  a1 a2 s P) : Go d 5 (some .int) xE_257 (xE_257.drop 54) [.ref 213, .int a1, .int a2, .null, .null, .null] [] s P := by
  obtain ⟨I, μ, h0, h1⟩ := h
  have key : ∀ (n : Nat) (a1 : Int32) (a2 : Int32) (s : yS), μ a1 a2 s = n → I a1 a2 s → Go d 5 (some .int) xE_257 (xE_257.drop 54) [.ref 213, .int a1, .int a2, .null, .null, .null] [] s P := by
    intro n
    induction n using Nat.strongRecOn with
    | ind n ih =>
      intro a1 a2 s e hI
      exact k_257_54 (fun a1' a2' s' q => ih _ (by rw [← e]; exact q.2) _ _ _ rfl q.1) (h1 a1 a2 s hI)
  exact key _ a1 a2 s rfl h0
def w_257_0 (T : Nat → List Value → yS → (Option Value → yS → Prop) → Prop)   (s : yS) (P : Option Value → yS → Prop) : Prop :=
  ∀ s1, s1 = sf s 0 0 → (¬ ((s1.1 90).toInt = 0) → ((s1.1 110).toInt = 0 → ∀ s2, s2 = sf s1 110 1 → ∀ s3, s3 = sf s2 75 (s2.1 29) → ∀ s4, s4 = sf s3 112 0 → ∀ s5, s5 = sf s4 118 20000 → ∀ s6, s6 = sf s5 111 1 → ∀ s7, s7 = sf s6 64 100000 → ∀ s8, s8 = sf s7 70 0 → T 188 [.ref 213] s8 (fun v10 s9 => ∃ x11, v10 = some (.int x11) ∧ (T 206 [.ref 213, .int (-1), .int (-1), .int (-1)] s9 (fun v13 s12 => v13 = none ∧ ((0 ≤ (s12.1 29).toInt ∧ (s12.1 29).toInt < 2) ∧ (T 253 [.ref 213, .int (s12.2.1 259 (s12.1 29).toInt.toNat), .int x11] s12 (fun v15 s14 => v15 = none ∧ (wl_257_54 T  x11 (-1)  s14 P)))))))) ∧ (¬ ((s1.1 110).toInt = 0) → P (some (.int (s1.1 109))) s1)) ∧ ((s1.1 90).toInt = 0 → P (some (.int (-1))) s1)
set_option maxRecDepth 20000 in
theorem k_257_0 {d : Nat}   {s : yS} {P : Option Value → yS → Prop}  (h : w_257_0 (Tot d)   s P) : Go d 5 (some .int) xE_257 (xE_257.drop 0) [.ref 213, .null, .null, .null, .null, .null] [] s P := by
  unfold w_257_0 at h
  refine g_ld rfl rfl rfl ?_
  refine g_c [.int 0, .ref 213] (xo_push (.int 0)) rfl rfl ?_
  refine g_put rfl rfl rfl ?_
  replace h := h _ rfl
  refine g_ld rfl rfl rfl ?_
  refine g_get rfl rfl ?_
  change Go _ _ _ _ _ _ [.int ((sf s 0 0).1 90)] _ _
  refine g_brN rfl rfl ⟨fun hc => ?_, fun hc => ?_⟩
  · replace h := h.1 (fun q => hc ((i_eq (x := (sf s 0 0).1 90) (y := 0) rfl (show (0 : Int32).toInt = 0 by decide)).mpr q))
    refine g_ld rfl rfl rfl ?_
    refine g_get rfl rfl ?_
    change Go _ _ _ _ _ _ [.int ((sf s 0 0).1 110)] _ _
    refine g_brP rfl rfl ⟨fun hc => ?_, fun hc => ?_⟩
    · replace h := h.1 ((i_eq (x := (sf s 0 0).1 110) (y := 0) rfl (show (0 : Int32).toInt = 0 by decide)).mp hc)
      refine g_ld rfl rfl rfl ?_
      refine g_c [.int 1, .ref 213] (xo_push (.int 1)) rfl rfl ?_
      refine g_put rfl rfl rfl ?_
      replace h := h _ rfl
      refine g_ld rfl rfl rfl ?_
      refine g_ld rfl rfl rfl ?_
      refine g_get rfl rfl ?_
      change Go _ _ _ _ _ _ [.int ((sf (sf s 0 0) 110 1).1 29), .ref 213] _ _
      refine g_put rfl rfl rfl ?_
      replace h := h _ rfl
      refine g_ld rfl rfl rfl ?_
      refine g_c [.int 0, .ref 213] (xo_push (.int 0)) rfl rfl ?_
      refine g_put rfl rfl rfl ?_
      replace h := h _ rfl
      refine g_ld rfl rfl rfl ?_
      refine g_c [.int 20000, .ref 213] (xo_push (.int 20000)) rfl rfl ?_
      refine g_put rfl rfl rfl ?_
      replace h := h _ rfl
      refine g_ld rfl rfl rfl ?_
      refine g_c [.int 1, .ref 213] (xo_push (.int 1)) rfl rfl ?_
      refine g_put rfl rfl rfl ?_
      replace h := h _ rfl
      refine g_ld rfl rfl rfl ?_
      refine g_c [.int 100000, .ref 213] (xo_push (.int 100000)) rfl rfl ?_
      refine g_put rfl rfl rfl ?_
      replace h := h _ rfl
      refine g_ld rfl rfl rfl ?_
      refine g_c [.int 0, .ref 213] (xo_push (.int 0)) rfl rfl ?_
      refine g_put rfl rfl rfl ?_
      replace h := h _ rfl
      refine g_ld rfl rfl rfl ?_
      refine g_call [.ref 213] [] rfl rfl rfl (Tot.imp h (fun v10 s9 h => ?_))
      obtain ⟨x11, rfl, h⟩ := h
      change Go _ _ _ _ _ _ [.int x11] _ _
      refine g_st [.ref 213, .int x11, .null, .null, .null, .null] rfl rfl rfl ?_
      refine g_ld rfl rfl rfl ?_
      refine g_c [.int (-1), .ref 213] (xo_push (.int (-1))) rfl rfl ?_
      refine g_c [.int (-1), .int (-1), .ref 213] (xo_push (.int (-1))) rfl rfl ?_
      refine g_c [.int (-1), .int (-1), .int (-1), .ref 213] (xo_push (.int (-1))) rfl rfl ?_
      refine g_call [.ref 213, .int (-1), .int (-1), .int (-1)] [] rfl rfl rfl (Tot.imp h (fun v13 s12 h => ?_))
      obtain ⟨rfl, h⟩ := h
      change Go _ _ _ _ _ _ [] _ _
      refine g_ld rfl rfl rfl ?_
      refine g_ld rfl rfl rfl ?_
      refine g_get rfl rfl ?_
      change Go _ _ _ _ _ _ [.ref 259, .ref 213] _ _
      refine g_ld rfl rfl rfl ?_
      refine g_get rfl rfl ?_
      change Go _ _ _ _ _ _ [.int (s12.1 29), .ref 259, .ref 213] _ _
      refine g_ial rfl rfl (i_in (x := s12.1 29) rfl h.1) ?_
      change Go _ _ _ _ _ _ [.int (s12.2.1 259 (s12.1 29).toInt.toNat), .ref 213] _ _
      replace h := h.2
      refine g_ld rfl rfl rfl ?_
      refine g_call [.ref 213, .int (s12.2.1 259 (s12.1 29).toInt.toNat), .int x11] [] rfl rfl rfl (Tot.imp h (fun v15 s14 h => ?_))
      obtain ⟨rfl, h⟩ := h
      change Go _ _ _ _ _ _ [] _ _
      refine g_c [.int (-1)] (xo_push (.int (-1))) rfl rfl ?_
      refine g_st [.ref 213, .int x11, .int (-1), .null, .null, .null] rfl rfl rfl ?_
      exact kl_257_54  h
    · replace h := h.2 (fun q => hc ((i_eq (x := (sf s 0 0).1 110) (y := 0) rfl (show (0 : Int32).toInt = 0 by decide)).mpr q))
      refine g_ld rfl rfl rfl ?_
      refine g_get rfl rfl ?_
      change Go _ _ _ _ _ _ [.int ((sf s 0 0).1 109)] _ _
      exact g_retI rfl h
  · replace h := h.2 ((i_eq (x := (sf s 0 0).1 90) (y := 0) rfl (show (0 : Int32).toInt = 0 by decide)).mp hc)
    refine g_c [.int (-1)] (xo_push (.int (-1))) rfl rfl ?_
    exact g_retI rfl h
theorem t_257 {d : Nat}  {s : yS} {P : Option Value → yS → Prop} (h : w_257_0 (Tot d)  s P) : Tot (d + 1) 257 [.ref 213] s P := tot_of (E := xE_257) (ml := 5) (ret := some .int) rfl rfl rfl (k_257_0 h)
/-! howMany -/
def w_258_18 (T : Nat → List Value → yS → (Option Value → yS → Prop) → Prop) (R4 : Int32 → Int32 → Int32 → yS → Prop) (a1 : Int32) (a2 : Int32) (a3 : Int32) (t0 : Int32) (t1 : Int32) (s : yS) (P : Option Value → yS → Prop) : Prop :=
  (-2147483648 ≤ t0.toInt + t1.toInt ∧ t0.toInt + t1.toInt ≤ 2147483647) ∧ (∀ x1 : Int32, x1.toInt = t0.toInt + t1.toInt → (-2147483648 ≤ a3.toInt + 1 ∧ a3.toInt + 1 ≤ 2147483647) ∧ (∀ x2 : Int32, x2.toInt = a3.toInt + 1 → R4 a1 x1 x2  s))
set_option maxRecDepth 20000 in
theorem k_258_18 {d : Nat} {R4 : Int32 → Int32 → Int32 → yS → Prop} {a1 : Int32} {a2 : Int32} {a3 : Int32} {t0 : Int32} {t1 : Int32} {s : yS} {P : Option Value → yS → Prop} (r4 : ∀ a1 a2 a3 s, R4 a1 a2 a3 s → Go d 4 (some .int) xE_258 (xE_258.drop 4) [.ref 213, .int a1, .int a2, .int a3, .null, .null] [] s P) (h : w_258_18 (Tot d) R4 a1 a2 a3 t0 t1 s P) : Go d 4 (some .int) xE_258 (xE_258.drop 18) [.ref 213, .int a1, .int a2, .int a3, .null, .null] [.int t1, .int t0] s P := by
  unfold w_258_18 at h
  have ex1 := i_add (x := t0) (y := t1) rfl rfl h.1
  have cx1 := ck_add (x := t0) (y := t1) rfl rfl h.1
  replace h := h.2 _ ex1
  refine g_ca [.int (t0 + t1)] xo_iadd rfl rfl (fun _ => cx1) ?_
  refine g_st [.ref 213, .int a1, .int (t0 + t1), .int a3, .null, .null] rfl rfl rfl ?_
  have ex2 := i_add (x := a3) (y := 1) rfl (show (1 : Int32).toInt = 1 by decide) h.1
  have cx2 := ck_inc (x := a3) (n := 1) rfl h.1
  replace h := h.2 _ ex2
  refine g_inc [.ref 213, .int a1, .int (t0 + t1), .int (a3 + 1), .null, .null] rfl rfl rfl rfl cx2 ?_
  refine g_go rfl ?_
  exact r4 a1 (t0 + t1) (a3 + 1)  s h
def w_258_4 (T : Nat → List Value → yS → (Option Value → yS → Prop) → Prop) (R4 : Int32 → Int32 → Int32 → yS → Prop) (a1 : Int32) (a2 : Int32) (a3 : Int32) (s : yS) (P : Option Value → yS → Prop) : Prop :=
  ((s.1 112).toInt ≤ a3.toInt → P (some (.int a2)) s) ∧ (¬ ((s.1 112).toInt ≤ a3.toInt) → (0 ≤ a3.toInt ∧ a3.toInt < 160) ∧ ((¬ ((s.2.1 279 a3.toInt.toNat).toInt = a1.toInt) → w_258_18 T R4 a1 a2 a3 a2 0 s P) ∧ ((s.2.1 279 a3.toInt.toNat).toInt = a1.toInt → w_258_18 T R4 a1 a2 a3 a2 1 s P)))
set_option maxRecDepth 20000 in
theorem k_258_4 {d : Nat} {R4 : Int32 → Int32 → Int32 → yS → Prop} {a1 : Int32} {a2 : Int32} {a3 : Int32} {s : yS} {P : Option Value → yS → Prop} (r4 : ∀ a1 a2 a3 s, R4 a1 a2 a3 s → Go d 4 (some .int) xE_258 (xE_258.drop 4) [.ref 213, .int a1, .int a2, .int a3, .null, .null] [] s P) (h : w_258_4 (Tot d) R4 a1 a2 a3 s P) : Go d 4 (some .int) xE_258 (xE_258.drop 4) [.ref 213, .int a1, .int a2, .int a3, .null, .null] [] s P := by
  unfold w_258_4 at h
  refine g_ld rfl rfl rfl ?_
  refine g_ld rfl rfl rfl ?_
  refine g_get rfl rfl ?_
  change Go _ _ _ _ _ _ [.int (s.1 112), .int a3] _ _
  refine g_brP rfl rfl ⟨fun hc => ?_, fun hc => ?_⟩
  · replace h := h.1 ((i_le (x := s.1 112) (y := a3) rfl rfl).mp hc)
    refine g_ld rfl rfl rfl ?_
    exact g_retI rfl h
  · replace h := h.2 (fun q => hc ((i_le (x := s.1 112) (y := a3) rfl rfl).mpr q))
    refine g_ld rfl rfl rfl ?_
    refine g_ld rfl rfl rfl ?_
    refine g_get rfl rfl ?_
    change Go _ _ _ _ _ _ [.ref 279, .int a2] _ _
    refine g_ld rfl rfl rfl ?_
    refine g_ial rfl rfl (i_in (x := a3) rfl h.1) ?_
    change Go _ _ _ _ _ _ [.int (s.2.1 279 a3.toInt.toNat), .int a2] _ _
    replace h := h.2
    refine g_ld rfl rfl rfl ?_
    refine g_brN rfl rfl ⟨fun hc => ?_, fun hc => ?_⟩
    · replace h := h.1 (fun q => hc ((i_eq (x := s.2.1 279 a3.toInt.toNat) (y := a1) rfl rfl).mpr q))
      refine g_c [.int 0, .int a2] (xo_push (.int 0)) rfl rfl ?_
      exact k_258_18 r4 h
    · replace h := h.2 ((i_eq (x := s.2.1 279 a3.toInt.toNat) (y := a1) rfl rfl).mp hc)
      refine g_c [.int 1, .int a2] (xo_push (.int 1)) rfl rfl ?_
      refine g_go rfl ?_
      exact k_258_18 r4 h
def wl_258_4 (T : Nat → List Value → yS → (Option Value → yS → Prop) → Prop)  (a1 : Int32) (a2 : Int32) (a3 : Int32) (s : yS) (P : Option Value → yS → Prop) : Prop :=
  ∃ (I : Int32 → Int32 → Int32 → yS → Prop) (μ : Int32 → Int32 → Int32 → yS → Nat), I a1 a2 a3 s ∧ ∀ (a1 : Int32) (a2 : Int32) (a3 : Int32) (s : yS), I a1 a2 a3 s → w_258_4 T (fun a1' a2' a3' s' => I a1' a2' a3' s' ∧ μ a1' a2' a3' s' < μ a1 a2 a3 s) a1 a2 a3 s P
theorem kl_258_4 {d : Nat}  {a1 : Int32} {a2 : Int32} {a3 : Int32} {s : yS} {P : Option Value → yS → Prop}  (h : wl_258_4 (Tot d)  a1 a2 a3 s P) : Go d 4 (some .int) xE_258 (xE_258.drop 4) [.ref 213, .int a1, .int a2, .int a3, .null, .null] [] s P := by
  obtain ⟨I, μ, h0, h1⟩ := h
  have key : ∀ (n : Nat) (a1 : Int32) (a2 : Int32) (a3 : Int32) (s : yS), μ a1 a2 a3 s = n → I a1 a2 a3 s → Go d 4 (some .int) xE_258 (xE_258.drop 4) [.ref 213, .int a1, .int a2, .int a3, .null, .null] [] s P := by
    intro n
    induction n using Nat.strongRecOn with
    | ind n ih =>
      intro a1 a2 a3 s e hI
      exact k_258_4 (fun a1' a2' a3' s' q => ih _ (by rw [← e]; exact q.2) _ _ _ _ rfl q.1) (h1 a1 a2 a3 s hI)
  exact key _ a1 a2 a3 s rfl h0
def w_258_0 (T : Nat → List Value → yS → (Option Value → yS → Prop) → Prop)  (a1 : Int32) (s : yS) (P : Option Value → yS → Prop) : Prop :=
  wl_258_4 T  a1 0 0  s P
set_option maxRecDepth 20000 in
theorem k_258_0 {d : Nat}  {a1 : Int32} {s : yS} {P : Option Value → yS → Prop}  (h : w_258_0 (Tot d)  a1 s P) : Go d 4 (some .int) xE_258 (xE_258.drop 0) [.ref 213, .int a1, .null, .null, .null, .null] [] s P := by
  unfold w_258_0 at h
  refine g_c [.int 0] (xo_push (.int 0)) rfl rfl ?_
  refine g_st [.ref 213, .int a1, .int 0, .null, .null, .null] rfl rfl rfl ?_
  refine g_c [.int 0] (xo_push (.int 0)) rfl rfl ?_
  refine g_st [.ref 213, .int a1, .int 0, .int 0, .null, .null] rfl rfl rfl ?_
  exact kl_258_4  h
theorem t_258 {d : Nat} {a1 : Int32} {s : yS} {P : Option Value → yS → Prop} (h : w_258_0 (Tot d) a1 s P) : Tot (d + 1) 258 [.ref 213, .int a1] s P := tot_of (E := xE_258) (ml := 4) (ret := some .int) rfl rfl rfl (k_258_0 h)
/-! made -/
def w_259_19 (T : Nat → List Value → yS → (Option Value → yS → Prop) → Prop)  (a1 : Int32) (t0 : Int32) (s : yS) (P : Option Value → yS → Prop) : Prop :=
  P (some (.int t0)) s
set_option maxRecDepth 20000 in
theorem k_259_19 {d : Nat}  {a1 : Int32} {t0 : Int32} {s : yS} {P : Option Value → yS → Prop}  (h : w_259_19 (Tot d)  a1 t0 s P) : Go d 2 (some .int) xE_259 (xE_259.drop 19) [.ref 213, .int a1, .null, .null] [.int t0] s P := by
  unfold w_259_19 at h
  exact g_retI rfl h
def w_259_14 (T : Nat → List Value → yS → (Option Value → yS → Prop) → Prop)  (a1 : Int32) (s : yS) (P : Option Value → yS → Prop) : Prop :=
  w_259_19 T  a1 (-1) s P
set_option maxRecDepth 20000 in
theorem k_259_14 {d : Nat}  {a1 : Int32} {s : yS} {P : Option Value → yS → Prop}  (h : w_259_14 (Tot d)  a1 s P) : Go d 2 (some .int) xE_259 (xE_259.drop 14) [.ref 213, .int a1, .null, .null] [] s P := by
  unfold w_259_14 at h
  refine g_c [.int (-1)] (xo_push (.int (-1))) rfl rfl ?_
  refine g_go rfl ?_
  exact k_259_19  h
def w_259_0 (T : Nat → List Value → yS → (Option Value → yS → Prop) → Prop)  (a1 : Int32) (s : yS) (P : Option Value → yS → Prop) : Prop :=
  ∀ s1, s1 = sf s 0 0 → ((s1.1 90).toInt = 0 → w_259_14 T  a1  s1 P) ∧ (¬ ((s1.1 90).toInt = 0) → ((s1.1 109).toInt < 0 → w_259_14 T  a1  s1 P) ∧ (¬ ((s1.1 109).toInt < 0) → (a1.toInt < 0 → w_259_14 T  a1  s1 P) ∧ (¬ (a1.toInt < 0) → (a1.toInt ≤ 2 → T 258 [.ref 213, .int a1] s1 (fun v3 s2 => ∃ x4, v3 = some (.int x4) ∧ (w_259_19 T  a1 x4 s2 P))) ∧ (¬ (a1.toInt ≤ 2) → w_259_14 T  a1  s1 P))))
set_option maxRecDepth 20000 in
theorem k_259_0 {d : Nat}  {a1 : Int32} {s : yS} {P : Option Value → yS → Prop}  (h : w_259_0 (Tot d)  a1 s P) : Go d 2 (some .int) xE_259 (xE_259.drop 0) [.ref 213, .int a1, .null, .null] [] s P := by
  unfold w_259_0 at h
  refine g_ld rfl rfl rfl ?_
  refine g_c [.int 0, .ref 213] (xo_push (.int 0)) rfl rfl ?_
  refine g_put rfl rfl rfl ?_
  replace h := h _ rfl
  refine g_ld rfl rfl rfl ?_
  refine g_get rfl rfl ?_
  change Go _ _ _ _ _ _ [.int ((sf s 0 0).1 90)] _ _
  refine g_brP rfl rfl ⟨fun hc => ?_, fun hc => ?_⟩
  · replace h := h.1 ((i_eq (x := (sf s 0 0).1 90) (y := 0) rfl (show (0 : Int32).toInt = 0 by decide)).mp hc)
    exact k_259_14  h
  · replace h := h.2 (fun q => hc ((i_eq (x := (sf s 0 0).1 90) (y := 0) rfl (show (0 : Int32).toInt = 0 by decide)).mpr q))
    refine g_ld rfl rfl rfl ?_
    refine g_get rfl rfl ?_
    change Go _ _ _ _ _ _ [.int ((sf s 0 0).1 109)] _ _
    refine g_brP rfl rfl ⟨fun hc => ?_, fun hc => ?_⟩
    · replace h := h.1 ((i_lt (x := (sf s 0 0).1 109) (y := 0) rfl (show (0 : Int32).toInt = 0 by decide)).mp hc)
      exact k_259_14  h
    · replace h := h.2 (fun q => hc ((i_lt (x := (sf s 0 0).1 109) (y := 0) rfl (show (0 : Int32).toInt = 0 by decide)).mpr q))
      refine g_ld rfl rfl rfl ?_
      refine g_brP rfl rfl ⟨fun hc => ?_, fun hc => ?_⟩
      · replace h := h.1 ((i_lt (x := a1) (y := 0) rfl (show (0 : Int32).toInt = 0 by decide)).mp hc)
        exact k_259_14  h
      · replace h := h.2 (fun q => hc ((i_lt (x := a1) (y := 0) rfl (show (0 : Int32).toInt = 0 by decide)).mpr q))
        refine g_ld rfl rfl rfl ?_
        refine g_c [.int 2, .int a1] (xo_push (.int 2)) rfl rfl ?_
        refine g_brP rfl rfl ⟨fun hc => ?_, fun hc => ?_⟩
        · replace h := h.1 ((i_le (x := a1) (y := 2) rfl (show (2 : Int32).toInt = 2 by decide)).mp hc)
          refine g_ld rfl rfl rfl ?_
          refine g_ld rfl rfl rfl ?_
          refine g_call [.ref 213, .int a1] [] rfl rfl rfl (Tot.imp h (fun v3 s2 h => ?_))
          obtain ⟨x4, rfl, h⟩ := h
          change Go _ _ _ _ _ _ [.int x4] _ _
          exact k_259_19  h
        · replace h := h.2 (fun q => hc ((i_le (x := a1) (y := 2) rfl (show (2 : Int32).toInt = 2 by decide)).mpr q))
          exact k_259_14  h
theorem t_259 {d : Nat} {a1 : Int32} {s : yS} {P : Option Value → yS → Prop} (h : w_259_0 (Tot d) a1 s P) : Tot (d + 1) 259 [.ref 213, .int a1] s P := tot_of (E := xE_259) (ml := 2) (ret := some .int) rfl rfl rfl (k_259_0 h)
/-! isMade -/
def w_260_92 (T : Nat → List Value → yS → (Option Value → yS → Prop) → Prop)  (a1 : Int32) (a2 : Int32) (a3 : Int32) (t0 : Int32) (s : yS) (P : Option Value → yS → Prop) : Prop :=
  P (some (.int t0)) s
set_option maxRecDepth 20000 in
theorem k_260_92 {d : Nat}  {a1 : Int32} {a2 : Int32} {a3 : Int32} {t0 : Int32} {s : yS} {P : Option Value → yS → Prop}  (h : w_260_92 (Tot d)  a1 a2 a3 t0 s P) : Go d 4 (some .int) xE_260 (xE_260.drop 92) [.ref 213, .int a1, .int a2, .int a3, .null] [.int t0] s P := by
  unfold w_260_92 at h
  exact g_retI rfl h
def w_260_84 (T : Nat → List Value → yS → (Option Value → yS → Prop) → Prop) (R51 : Int32 → Int32 → Int32 → yS → Prop) (a1 : Int32) (a2 : Int32) (a3 : Int32) (t0 : Int32) (s : yS) (P : Option Value → yS → Prop) : Prop :=
  (-2147483648 ≤ a3.toInt + 1 ∧ a3.toInt + 1 ≤ 2147483647) ∧ (∀ x1 : Int32, x1.toInt = a3.toInt + 1 → R51 a1 t0 x1  s)
set_option maxRecDepth 20000 in
theorem k_260_84 {d : Nat} {R51 : Int32 → Int32 → Int32 → yS → Prop} {a1 : Int32} {a2 : Int32} {a3 : Int32} {t0 : Int32} {s : yS} {P : Option Value → yS → Prop} (r51 : ∀ a1 a2 a3 s, R51 a1 a2 a3 s → Go d 4 (some .int) xE_260 (xE_260.drop 51) [.ref 213, .int a1, .int a2, .int a3, .null] [] s P) (h : w_260_84 (Tot d) R51 a1 a2 a3 t0 s P) : Go d 4 (some .int) xE_260 (xE_260.drop 84) [.ref 213, .int a1, .int a2, .int a3, .null] [.int t0] s P := by
  unfold w_260_84 at h
  refine g_st [.ref 213, .int a1, .int t0, .int a3, .null] rfl rfl rfl ?_
  have ex1 := i_add (x := a3) (y := 1) rfl (show (1 : Int32).toInt = 1 by decide) h.1
  have cx1 := ck_inc (x := a3) (n := 1) rfl h.1
  replace h := h.2 _ ex1
  refine g_inc [.ref 213, .int a1, .int t0, .int (a3 + 1), .null] rfl rfl rfl rfl cx1 ?_
  refine g_go rfl ?_
  exact r51 a1 t0 (a3 + 1)  s h
def w_260_83 (T : Nat → List Value → yS → (Option Value → yS → Prop) → Prop) (R51 : Int32 → Int32 → Int32 → yS → Prop) (a1 : Int32) (a2 : Int32) (a3 : Int32) (s : yS) (P : Option Value → yS → Prop) : Prop :=
  w_260_84 T R51 a1 a2 a3 0 s P
set_option maxRecDepth 20000 in
theorem k_260_83 {d : Nat} {R51 : Int32 → Int32 → Int32 → yS → Prop} {a1 : Int32} {a2 : Int32} {a3 : Int32} {s : yS} {P : Option Value → yS → Prop} (r51 : ∀ a1 a2 a3 s, R51 a1 a2 a3 s → Go d 4 (some .int) xE_260 (xE_260.drop 51) [.ref 213, .int a1, .int a2, .int a3, .null] [] s P) (h : w_260_83 (Tot d) R51 a1 a2 a3 s P) : Go d 4 (some .int) xE_260 (xE_260.drop 83) [.ref 213, .int a1, .int a2, .int a3, .null] [] s P := by
  unfold w_260_83 at h
  refine g_c [.int 0] (xo_push (.int 0)) rfl rfl ?_
  exact k_260_84 r51 h
def w_260_81 (T : Nat → List Value → yS → (Option Value → yS → Prop) → Prop) (R51 : Int32 → Int32 → Int32 → yS → Prop) (a1 : Int32) (a2 : Int32) (a3 : Int32) (s : yS) (P : Option Value → yS → Prop) : Prop :=
  w_260_84 T R51 a1 a2 a3 1 s P
set_option maxRecDepth 20000 in
theorem k_260_81 {d : Nat} {R51 : Int32 → Int32 → Int32 → yS → Prop} {a1 : Int32} {a2 : Int32} {a3 : Int32} {s : yS} {P : Option Value → yS → Prop} (r51 : ∀ a1 a2 a3 s, R51 a1 a2 a3 s → Go d 4 (some .int) xE_260 (xE_260.drop 51) [.ref 213, .int a1, .int a2, .int a3, .null] [] s P) (h : w_260_81 (Tot d) R51 a1 a2 a3 s P) : Go d 4 (some .int) xE_260 (xE_260.drop 81) [.ref 213, .int a1, .int a2, .int a3, .null] [] s P := by
  unfold w_260_81 at h
  refine g_c [.int 1] (xo_push (.int 1)) rfl rfl ?_
  refine g_go rfl ?_
  exact k_260_84 r51 h
def w_260_51 (T : Nat → List Value → yS → (Option Value → yS → Prop) → Prop) (R51 : Int32 → Int32 → Int32 → yS → Prop) (a1 : Int32) (a2 : Int32) (a3 : Int32) (s : yS) (P : Option Value → yS → Prop) : Prop :=
  ((s.1 112).toInt ≤ a3.toInt → (a2.toInt = 0 → w_260_92 T  a1 a2 a3 0 s P) ∧ (¬ (a2.toInt = 0) → w_260_92 T  a1 a2 a3 1 s P)) ∧ (¬ ((s.1 112).toInt ≤ a3.toInt) → (¬ (a2.toInt = 0) → w_260_81 T R51 a1 a2 a3  s P) ∧ (a2.toInt = 0 → (0 ≤ a3.toInt ∧ a3.toInt < 160) ∧ ((¬ ((s.2.1 279 a3.toInt.toNat).toInt = 0) → w_260_83 T R51 a1 a2 a3  s P) ∧ ((s.2.1 279 a3.toInt.toNat).toInt = 0 → (0 ≤ a3.toInt ∧ a3.toInt < 160) ∧ ((0 ≤ a3.toInt ∧ a3.toInt < 160) ∧ ((0 ≤ a1.toInt ∧ a1.toInt < 12006) ∧ ((0 ≤ a1.toInt ∧ a1.toInt < 12006) ∧ (T 187 [.ref 213, .int (s.2.1 282 a3.toInt.toNat), .int (s.2.1 283 a3.toInt.toNat), .int (s.2.1 231 a1.toInt.toNat), .int (s.2.1 232 a1.toInt.toNat)] s (fun v2 s1 => ∃ x3, v2 = some (.int x3) ∧ ((x3.toInt = 0 → w_260_83 T R51 a1 a2 a3  s1 P) ∧ (¬ (x3.toInt = 0) → w_260_81 T R51 a1 a2 a3  s1 P)))))))))))
set_option maxRecDepth 20000 in
theorem k_260_51 {d : Nat} {R51 : Int32 → Int32 → Int32 → yS → Prop} {a1 : Int32} {a2 : Int32} {a3 : Int32} {s : yS} {P : Option Value → yS → Prop} (r51 : ∀ a1 a2 a3 s, R51 a1 a2 a3 s → Go d 4 (some .int) xE_260 (xE_260.drop 51) [.ref 213, .int a1, .int a2, .int a3, .null] [] s P) (h : w_260_51 (Tot d) R51 a1 a2 a3 s P) : Go d 4 (some .int) xE_260 (xE_260.drop 51) [.ref 213, .int a1, .int a2, .int a3, .null] [] s P := by
  unfold w_260_51 at h
  refine g_ld rfl rfl rfl ?_
  refine g_ld rfl rfl rfl ?_
  refine g_get rfl rfl ?_
  change Go _ _ _ _ _ _ [.int (s.1 112), .int a3] _ _
  refine g_brP rfl rfl ⟨fun hc => ?_, fun hc => ?_⟩
  · replace h := h.1 ((i_le (x := s.1 112) (y := a3) rfl rfl).mp hc)
    refine g_ld rfl rfl rfl ?_
    refine g_brP rfl rfl ⟨fun hc => ?_, fun hc => ?_⟩
    · replace h := h.1 ((i_eq (x := a2) (y := 0) rfl (show (0 : Int32).toInt = 0 by decide)).mp hc)
      refine g_c [.int 0] (xo_push (.int 0)) rfl rfl ?_
      exact k_260_92  h
    · replace h := h.2 (fun q => hc ((i_eq (x := a2) (y := 0) rfl (show (0 : Int32).toInt = 0 by decide)).mpr q))
      refine g_c [.int 1] (xo_push (.int 1)) rfl rfl ?_
      refine g_go rfl ?_
      exact k_260_92  h
  · replace h := h.2 (fun q => hc ((i_le (x := s.1 112) (y := a3) rfl rfl).mpr q))
    refine g_ld rfl rfl rfl ?_
    refine g_brN rfl rfl ⟨fun hc => ?_, fun hc => ?_⟩
    · replace h := h.1 (fun q => hc ((i_eq (x := a2) (y := 0) rfl (show (0 : Int32).toInt = 0 by decide)).mpr q))
      exact k_260_81 r51 h
    · replace h := h.2 ((i_eq (x := a2) (y := 0) rfl (show (0 : Int32).toInt = 0 by decide)).mp hc)
      refine g_ld rfl rfl rfl ?_
      refine g_get rfl rfl ?_
      change Go _ _ _ _ _ _ [.ref 279] _ _
      refine g_ld rfl rfl rfl ?_
      refine g_ial rfl rfl (i_in (x := a3) rfl h.1) ?_
      change Go _ _ _ _ _ _ [.int (s.2.1 279 a3.toInt.toNat)] _ _
      replace h := h.2
      refine g_brN rfl rfl ⟨fun hc => ?_, fun hc => ?_⟩
      · replace h := h.1 (fun q => hc ((i_eq (x := s.2.1 279 a3.toInt.toNat) (y := 0) rfl (show (0 : Int32).toInt = 0 by decide)).mpr q))
        exact k_260_83 r51 h
      · replace h := h.2 ((i_eq (x := s.2.1 279 a3.toInt.toNat) (y := 0) rfl (show (0 : Int32).toInt = 0 by decide)).mp hc)
        refine g_ld rfl rfl rfl ?_
        refine g_ld rfl rfl rfl ?_
        refine g_get rfl rfl ?_
        change Go _ _ _ _ _ _ [.ref 282, .ref 213] _ _
        refine g_ld rfl rfl rfl ?_
        refine g_ial rfl rfl (i_in (x := a3) rfl h.1) ?_
        change Go _ _ _ _ _ _ [.int (s.2.1 282 a3.toInt.toNat), .ref 213] _ _
        replace h := h.2
        refine g_ld rfl rfl rfl ?_
        refine g_get rfl rfl ?_
        change Go _ _ _ _ _ _ [.ref 283, .int (s.2.1 282 a3.toInt.toNat), .ref 213] _ _
        refine g_ld rfl rfl rfl ?_
        refine g_ial rfl rfl (i_in (x := a3) rfl h.1) ?_
        change Go _ _ _ _ _ _ [.int (s.2.1 283 a3.toInt.toNat), .int (s.2.1 282 a3.toInt.toNat), .ref 213] _ _
        replace h := h.2
        refine g_ld rfl rfl rfl ?_
        refine g_get rfl rfl ?_
        change Go _ _ _ _ _ _ [.ref 231, .int (s.2.1 283 a3.toInt.toNat), .int (s.2.1 282 a3.toInt.toNat), .ref 213] _ _
        refine g_ld rfl rfl rfl ?_
        refine g_ial rfl rfl (i_in (x := a1) rfl h.1) ?_
        change Go _ _ _ _ _ _ [.int (s.2.1 231 a1.toInt.toNat), .int (s.2.1 283 a3.toInt.toNat), .int (s.2.1 282 a3.toInt.toNat), .ref 213] _ _
        replace h := h.2
        refine g_ld rfl rfl rfl ?_
        refine g_get rfl rfl ?_
        change Go _ _ _ _ _ _ [.ref 232, .int (s.2.1 231 a1.toInt.toNat), .int (s.2.1 283 a3.toInt.toNat), .int (s.2.1 282 a3.toInt.toNat), .ref 213] _ _
        refine g_ld rfl rfl rfl ?_
        refine g_ial rfl rfl (i_in (x := a1) rfl h.1) ?_
        change Go _ _ _ _ _ _ [.int (s.2.1 232 a1.toInt.toNat), .int (s.2.1 231 a1.toInt.toNat), .int (s.2.1 283 a3.toInt.toNat), .int (s.2.1 282 a3.toInt.toNat), .ref 213] _ _
        replace h := h.2
        refine g_call [.ref 213, .int (s.2.1 282 a3.toInt.toNat), .int (s.2.1 283 a3.toInt.toNat), .int (s.2.1 231 a1.toInt.toNat), .int (s.2.1 232 a1.toInt.toNat)] [] rfl rfl rfl (Tot.imp h (fun v2 s1 h => ?_))
        obtain ⟨x3, rfl, h⟩ := h
        change Go _ _ _ _ _ _ [.int x3] _ _
        refine g_brP rfl rfl ⟨fun hc => ?_, fun hc => ?_⟩
        · replace h := h.1 ((i_eq (x := x3) (y := 0) rfl (show (0 : Int32).toInt = 0 by decide)).mp hc)
          exact k_260_83 r51 h
        · replace h := h.2 (fun q => hc ((i_eq (x := x3) (y := 0) rfl (show (0 : Int32).toInt = 0 by decide)).mpr q))
          exact k_260_81 r51 h
def wl_260_51 (T : Nat → List Value → yS → (Option Value → yS → Prop) → Prop)  (a1 : Int32) (a2 : Int32) (a3 : Int32) (s : yS) (P : Option Value → yS → Prop) : Prop :=
  ∃ (I : Int32 → Int32 → Int32 → yS → Prop) (μ : Int32 → Int32 → Int32 → yS → Nat), I a1 a2 a3 s ∧ ∀ (a1 : Int32) (a2 : Int32) (a3 : Int32) (s : yS), I a1 a2 a3 s → w_260_51 T (fun a1' a2' a3' s' => I a1' a2' a3' s' ∧ μ a1' a2' a3' s' < μ a1 a2 a3 s) a1 a2 a3 s P
theorem kl_260_51 {d : Nat}  {a1 : Int32} {a2 : Int32} {a3 : Int32} {s : yS} {P : Option Value → yS → Prop}  (h : wl_260_51 (Tot d)  a1 a2 a3 s P) : Go d 4 (some .int) xE_260 (xE_260.drop 51) [.ref 213, .int a1, .int a2, .int a3, .null] [] s P := by
  obtain ⟨I, μ, h0, h1⟩ := h
  have key : ∀ (n : Nat) (a1 : Int32) (a2 : Int32) (a3 : Int32) (s : yS), μ a1 a2 a3 s = n → I a1 a2 a3 s → Go d 4 (some .int) xE_260 (xE_260.drop 51) [.ref 213, .int a1, .int a2, .int a3, .null] [] s P := by
    intro n
    induction n using Nat.strongRecOn with
    | ind n ih =>
      intro a1 a2 a3 s e hI
      exact k_260_51 (fun a1' a2' a3' s' q => ih _ (by rw [← e]; exact q.2) _ _ _ _ rfl q.1) (h1 a1 a2 a3 s hI)
  exact key _ a1 a2 a3 s rfl h0
def w_260_40 (T : Nat → List Value → yS → (Option Value → yS → Prop) → Prop)  (a1 : Int32) (s : yS) (P : Option Value → yS → Prop) : Prop :=
  P (some (.int (-2))) s
set_option maxRecDepth 20000 in
theorem k_260_40 {d : Nat}  {a1 : Int32} {s : yS} {P : Option Value → yS → Prop}  (h : w_260_40 (Tot d)  a1 s P) : Go d 4 (some .int) xE_260 (xE_260.drop 40) [.ref 213, .int a1, .null, .null, .null] [] s P := by
  unfold w_260_40 at h
  refine g_c [.int (-2)] (xo_push (.int (-2))) rfl rfl ?_
  exact g_retI rfl h
def w_260_31 (T : Nat → List Value → yS → (Option Value → yS → Prop) → Prop)  (a1 : Int32) (s : yS) (P : Option Value → yS → Prop) : Prop :=
  P (some (.int (-1))) s
set_option maxRecDepth 20000 in
theorem k_260_31 {d : Nat}  {a1 : Int32} {s : yS} {P : Option Value → yS → Prop}  (h : w_260_31 (Tot d)  a1 s P) : Go d 4 (some .int) xE_260 (xE_260.drop 31) [.ref 213, .int a1, .null, .null, .null] [] s P := by
  unfold w_260_31 at h
  refine g_c [.int (-1)] (xo_push (.int (-1))) rfl rfl ?_
  exact g_retI rfl h
def w_260_22 (T : Nat → List Value → yS → (Option Value → yS → Prop) → Prop)  (a1 : Int32) (s : yS) (P : Option Value → yS → Prop) : Prop :=
  ((s.1 90).toInt = 0 → w_260_31 T  a1  s P) ∧ (¬ ((s.1 90).toInt = 0) → 0 ≤ (s.1 8).toInt ∧ (∀ x1 : Int32, x1.toInt = (s.1 8).toInt % 16 → (¬ (x1.toInt = 1) → (0 < (s.1 8).toInt → w_260_40 T  a1  s P) ∧ (¬ (0 < (s.1 8).toInt) → T 234 [.ref 213, .int a1] s (fun v3 s2 => ∃ x4, v3 = some (.int x4) ∧ ((¬ (x4.toInt = 0) → (0 ≤ (s2.1 109).toInt → wl_260_51 T  a1 0 0  s2 P) ∧ (¬ (0 ≤ (s2.1 109).toInt) → P (some (.int (-3))) s2)) ∧ (x4.toInt = 0 → w_260_40 T  a1  s2 P))))) ∧ (x1.toInt = 1 → w_260_31 T  a1  s P)))
set_option maxRecDepth 20000 in
theorem k_260_22 {d : Nat}  {a1 : Int32} {s : yS} {P : Option Value → yS → Prop}  (h : w_260_22 (Tot d)  a1 s P) : Go d 4 (some .int) xE_260 (xE_260.drop 22) [.ref 213, .int a1, .null, .null, .null] [] s P := by
  unfold w_260_22 at h
  refine g_ld rfl rfl rfl ?_
  refine g_get rfl rfl ?_
  change Go _ _ _ _ _ _ [.int (s.1 90)] _ _
  refine g_brP rfl rfl ⟨fun hc => ?_, fun hc => ?_⟩
  · replace h := h.1 ((i_eq (x := s.1 90) (y := 0) rfl (show (0 : Int32).toInt = 0 by decide)).mp hc)
    exact k_260_31  h
  · replace h := h.2 (fun q => hc ((i_eq (x := s.1 90) (y := 0) rfl (show (0 : Int32).toInt = 0 by decide)).mpr q))
    refine g_ld rfl rfl rfl ?_
    refine g_get rfl rfl ?_
    change Go _ _ _ _ _ _ [.int (s.1 8)] _ _
    refine g_c [.int 15, .int (s.1 8)] (xo_push (.int 15)) rfl rfl ?_
    have ex1 := i_and15 (x := s.1 8) rfl h.1
    have cx1 := ck_and (x := s.1 8) (y := 15) rfl h.1
    replace h := h.2 _ ex1
    refine g_ca [.int ((s.1 8) &&& 15)] xo_iand rfl rfl (fun _ => cx1) ?_
    refine g_c [.int 1, .int ((s.1 8) &&& 15)] (xo_push (.int 1)) rfl rfl ?_
    refine g_brN rfl rfl ⟨fun hc => ?_, fun hc => ?_⟩
    · replace h := h.1 (fun q => hc ((i_eq (x := ((s.1 8) &&& 15)) (y := 1) rfl (show (1 : Int32).toInt = 1 by decide)).mpr q))
      refine g_ld rfl rfl rfl ?_
      refine g_get rfl rfl ?_
      change Go _ _ _ _ _ _ [.int (s.1 8)] _ _
      refine g_brP rfl rfl ⟨fun hc => ?_, fun hc => ?_⟩
      · replace h := h.1 ((i_lt (x := 0) (y := s.1 8) (show (0 : Int32).toInt = 0 by decide) rfl).mp hc)
        exact k_260_40  h
      · replace h := h.2 (fun q => hc ((i_lt (x := 0) (y := s.1 8) (show (0 : Int32).toInt = 0 by decide) rfl).mpr q))
        refine g_ld rfl rfl rfl ?_
        refine g_ld rfl rfl rfl ?_
        refine g_call [.ref 213, .int a1] [] rfl rfl rfl (Tot.imp h (fun v3 s2 h => ?_))
        obtain ⟨x4, rfl, h⟩ := h
        change Go _ _ _ _ _ _ [.int x4] _ _
        refine g_brN rfl rfl ⟨fun hc => ?_, fun hc => ?_⟩
        · replace h := h.1 (fun q => hc ((i_eq (x := x4) (y := 0) rfl (show (0 : Int32).toInt = 0 by decide)).mpr q))
          refine g_ld rfl rfl rfl ?_
          refine g_get rfl rfl ?_
          change Go _ _ _ _ _ _ [.int (s2.1 109)] _ _
          refine g_brP rfl rfl ⟨fun hc => ?_, fun hc => ?_⟩
          · replace h := h.1 ((i_le (x := 0) (y := s2.1 109) (show (0 : Int32).toInt = 0 by decide) rfl).mp hc)
            refine g_c [.int 0] (xo_push (.int 0)) rfl rfl ?_
            refine g_st [.ref 213, .int a1, .int 0, .null, .null] rfl rfl rfl ?_
            refine g_c [.int 0] (xo_push (.int 0)) rfl rfl ?_
            refine g_st [.ref 213, .int a1, .int 0, .int 0, .null] rfl rfl rfl ?_
            exact kl_260_51  h
          · replace h := h.2 (fun q => hc ((i_le (x := 0) (y := s2.1 109) (show (0 : Int32).toInt = 0 by decide) rfl).mpr q))
            refine g_c [.int (-3)] (xo_push (.int (-3))) rfl rfl ?_
            exact g_retI rfl h
        · replace h := h.2 ((i_eq (x := x4) (y := 0) rfl (show (0 : Int32).toInt = 0 by decide)).mp hc)
          exact k_260_40  h
    · replace h := h.2 ((i_eq (x := ((s.1 8) &&& 15)) (y := 1) rfl (show (1 : Int32).toInt = 1 by decide)).mp hc)
      exact k_260_31  h
def w_260_0 (T : Nat → List Value → yS → (Option Value → yS → Prop) → Prop)   (s : yS) (P : Option Value → yS → Prop) : Prop :=
  ∀ s1, s1 = sf s 0 0 → T 235 [.ref 213] s1 (fun v3 s2 => v3 = none ∧ (T 233 [.ref 213] s2 (fun v5 s4 => ∃ x6, v5 = some (.int x6) ∧ ((¬ ((s4.1 8).toInt = 0) → w_260_22 T  x6  s4 P) ∧ ((s4.1 8).toInt = 0 → (0 ≤ (s4.1 7).toInt ∧ (s4.1 7).toInt < 12006) ∧ (((s4.2.1 215 (s4.1 7).toInt.toNat).toInt = 0 → w_260_22 T  x6  s4 P) ∧ (¬ ((s4.2.1 215 (s4.1 7).toInt.toNat).toInt = 0) → T 163 [.ref 213, .int 1, .int (s4.1 7)] s4 (fun v8 s7 => v8 = none ∧ (w_260_22 T  x6  s7 P)))))))))
set_option maxRecDepth 20000 in
theorem k_260_0 {d : Nat}   {s : yS} {P : Option Value → yS → Prop}  (h : w_260_0 (Tot d)   s P) : Go d 4 (some .int) xE_260 (xE_260.drop 0) [.ref 213, .null, .null, .null, .null] [] s P := by
  unfold w_260_0 at h
  refine g_ld rfl rfl rfl ?_
  refine g_c [.int 0, .ref 213] (xo_push (.int 0)) rfl rfl ?_
  refine g_put rfl rfl rfl ?_
  replace h := h _ rfl
  refine g_ld rfl rfl rfl ?_
  refine g_call [.ref 213] [] rfl rfl rfl (Tot.imp h (fun v3 s2 h => ?_))
  obtain ⟨rfl, h⟩ := h
  change Go _ _ _ _ _ _ [] _ _
  refine g_ld rfl rfl rfl ?_
  refine g_call [.ref 213] [] rfl rfl rfl (Tot.imp h (fun v5 s4 h => ?_))
  obtain ⟨x6, rfl, h⟩ := h
  change Go _ _ _ _ _ _ [.int x6] _ _
  refine g_st [.ref 213, .int x6, .null, .null, .null] rfl rfl rfl ?_
  refine g_ld rfl rfl rfl ?_
  refine g_get rfl rfl ?_
  change Go _ _ _ _ _ _ [.int (s4.1 8)] _ _
  refine g_brN rfl rfl ⟨fun hc => ?_, fun hc => ?_⟩
  · replace h := h.1 (fun q => hc ((i_eq (x := s4.1 8) (y := 0) rfl (show (0 : Int32).toInt = 0 by decide)).mpr q))
    exact k_260_22  h
  · replace h := h.2 ((i_eq (x := s4.1 8) (y := 0) rfl (show (0 : Int32).toInt = 0 by decide)).mp hc)
    refine g_ld rfl rfl rfl ?_
    refine g_get rfl rfl ?_
    change Go _ _ _ _ _ _ [.ref 215] _ _
    refine g_ld rfl rfl rfl ?_
    refine g_get rfl rfl ?_
    change Go _ _ _ _ _ _ [.int (s4.1 7), .ref 215] _ _
    refine g_ial rfl rfl (i_in (x := s4.1 7) rfl h.1) ?_
    change Go _ _ _ _ _ _ [.int (s4.2.1 215 (s4.1 7).toInt.toNat)] _ _
    replace h := h.2
    refine g_brP rfl rfl ⟨fun hc => ?_, fun hc => ?_⟩
    · replace h := h.1 ((i_eq (x := s4.2.1 215 (s4.1 7).toInt.toNat) (y := 0) rfl (show (0 : Int32).toInt = 0 by decide)).mp hc)
      exact k_260_22  h
    · replace h := h.2 (fun q => hc ((i_eq (x := s4.2.1 215 (s4.1 7).toInt.toNat) (y := 0) rfl (show (0 : Int32).toInt = 0 by decide)).mpr q))
      refine g_ld rfl rfl rfl ?_
      refine g_c [.int 1, .ref 213] (xo_push (.int 1)) rfl rfl ?_
      refine g_ld rfl rfl rfl ?_
      refine g_get rfl rfl ?_
      change Go _ _ _ _ _ _ [.int (s4.1 7), .int 1, .ref 213] _ _
      refine g_call [.ref 213, .int 1, .int (s4.1 7)] [] rfl rfl rfl (Tot.imp h (fun v8 s7 h => ?_))
      obtain ⟨rfl, h⟩ := h
      change Go _ _ _ _ _ _ [] _ _
      exact k_260_22  h
theorem t_260 {d : Nat}  {s : yS} {P : Option Value → yS → Prop} (h : w_260_0 (Tot d)  s P) : Tot (d + 1) 260 [.ref 213] s P := tot_of (E := xE_260) (ml := 4) (ret := some .int) rfl rfl rfl (k_260_0 h)
/-! say -/
def w_261_16 (T : Nat → List Value → yS → (Option Value → yS → Prop) → Prop)  (a1 : Int32) (s : yS) (P : Option Value → yS → Prop) : Prop :=
  P none s
set_option maxRecDepth 20000 in
theorem k_261_16 {d : Nat}  {a1 : Int32} {s : yS} {P : Option Value → yS → Prop}  (h : w_261_16 (Tot d)  a1 s P) : Go d 2 (none) xE_261 (xE_261.drop 16) [.ref 213, .int a1, .null, .null] [] s P := by
  unfold w_261_16 at h
  exact g_ret0 rfl h
def w_261_0 (T : Nat → List Value → yS → (Option Value → yS → Prop) → Prop)  (a1 : Int32) (s : yS) (P : Option Value → yS → Prop) : Prop :=
  (2000 ≤ (s.1 120).toInt → w_261_16 T  a1  s P) ∧ (¬ (2000 ≤ (s.1 120).toInt) → (0 ≤ (s.1 120).toInt ∧ (s.1 120).toInt < 2000) ∧ (∀ s1, s1 = sa s 284 (s.1 120).toInt.toNat a1 → (-2147483648 ≤ (s1.1 120).toInt + 1 ∧ (s1.1 120).toInt + 1 ≤ 2147483647) ∧ (∀ x2 : Int32, x2.toInt = (s1.1 120).toInt + 1 → ∀ s3, s3 = sf s1 120 x2 → w_261_16 T  a1  s3 P)))
set_option maxRecDepth 20000 in
theorem k_261_0 {d : Nat}  {a1 : Int32} {s : yS} {P : Option Value → yS → Prop}  (h : w_261_0 (Tot d)  a1 s P) : Go d 2 (none) xE_261 (xE_261.drop 0) [.ref 213, .int a1, .null, .null] [] s P := by
  unfold w_261_0 at h
  refine g_ld rfl rfl rfl ?_
  refine g_get rfl rfl ?_
  change Go _ _ _ _ _ _ [.int (s.1 120)] _ _
  refine g_c [.int 2000, .int (s.1 120)] (xo_push (.int 2000)) rfl rfl ?_
  refine g_brP rfl rfl ⟨fun hc => ?_, fun hc => ?_⟩
  · replace h := h.1 ((i_le (x := 2000) (y := s.1 120) (show (2000 : Int32).toInt = 2000 by decide) rfl).mp hc)
    exact k_261_16  h
  · replace h := h.2 (fun q => hc ((i_le (x := 2000) (y := s.1 120) (show (2000 : Int32).toInt = 2000 by decide) rfl).mpr q))
    refine g_ld rfl rfl rfl ?_
    refine g_get rfl rfl ?_
    change Go _ _ _ _ _ _ [.ref 284] _ _
    refine g_ld rfl rfl rfl ?_
    refine g_get rfl rfl ?_
    change Go _ _ _ _ _ _ [.int (s.1 120), .ref 284] _ _
    refine g_ld rfl rfl rfl ?_
    refine g_ias rfl rfl (i_in (x := s.1 120) rfl h.1) ?_
    replace h := h.2
    replace h := h _ rfl
    refine g_ld rfl rfl rfl ?_
    refine g_c [.ref 213, .ref 213] xo_dup rfl rfl ?_
    refine g_get rfl rfl ?_
    change Go _ _ _ _ _ _ [.int ((sa s 284 (s.1 120).toInt.toNat a1).1 120), .ref 213] _ _
    refine g_c [.int 1, .int ((sa s 284 (s.1 120).toInt.toNat a1).1 120), .ref 213] (xo_push (.int 1)) rfl rfl ?_
    have ex2 := i_add (x := (sa s 284 (s.1 120).toInt.toNat a1).1 120) (y := 1) rfl (show (1 : Int32).toInt = 1 by decide) h.1
    have cx2 := ck_add (x := (sa s 284 (s.1 120).toInt.toNat a1).1 120) (y := 1) rfl (show (1 : Int32).toInt = 1 by decide) h.1
    replace h := h.2 _ ex2
    refine g_ca [.int (((sa s 284 (s.1 120).toInt.toNat a1).1 120) + 1), .ref 213] xo_iadd rfl rfl (fun _ => cx2) ?_
    refine g_put rfl rfl rfl ?_
    replace h := h _ rfl
    exact k_261_16  h
theorem t_261 {d : Nat} {a1 : Int32} {s : yS} {P : Option Value → yS → Prop} (h : w_261_0 (Tot d) a1 s P) : Tot (d + 1) 261 [.ref 213, .int a1] s P := tot_of (E := xE_261) (ml := 2) (ret := none) rfl rfl rfl (k_261_0 h)
/-! signOf -/
def w_262_23 (T : Nat → List Value → yS → (Option Value → yS → Prop) → Prop)  (a0 : Int32) (t0 : Int32) (s : yS) (P : Option Value → yS → Prop) : Prop :=
  P (some (.int t0)) s
set_option maxRecDepth 20000 in
theorem k_262_23 {d : Nat}  {a0 : Int32} {t0 : Int32} {s : yS} {P : Option Value → yS → Prop}  (h : w_262_23 (Tot d)  a0 t0 s P) : Go d 1 (some .int) xE_262 (xE_262.drop 23) [.int a0, .null] [.int t0] s P := by
  unfold w_262_23 at h
  exact g_retI rfl h
def w_262_0 (T : Nat → List Value → yS → (Option Value → yS → Prop) → Prop)  (a0 : Int32) (s : yS) (P : Option Value → yS → Prop) : Prop :=
  (27 ≤ a0.toInt → (53 ≤ a0.toInt → (-2147483648 ≤ 48 + a0.toInt ∧ 48 + a0.toInt ≤ 2147483647) ∧ (∀ x1 : Int32, x1.toInt = 48 + a0.toInt → (-2147483648 ≤ x1.toInt - 53 ∧ x1.toInt - 53 ≤ 2147483647) ∧ (∀ x2 : Int32, x2.toInt = x1.toInt - 53 → w_262_23 T  a0 x2 s P))) ∧ (¬ (53 ≤ a0.toInt) → (-2147483648 ≤ 65 + a0.toInt ∧ 65 + a0.toInt ≤ 2147483647) ∧ (∀ x3 : Int32, x3.toInt = 65 + a0.toInt → (-2147483648 ≤ x3.toInt - 27 ∧ x3.toInt - 27 ≤ 2147483647) ∧ (∀ x4 : Int32, x4.toInt = x3.toInt - 27 → w_262_23 T  a0 x4 s P)))) ∧ (¬ (27 ≤ a0.toInt) → (-2147483648 ≤ 97 + a0.toInt ∧ 97 + a0.toInt ≤ 2147483647) ∧ (∀ x5 : Int32, x5.toInt = 97 + a0.toInt → (-2147483648 ≤ x5.toInt - 1 ∧ x5.toInt - 1 ≤ 2147483647) ∧ (∀ x6 : Int32, x6.toInt = x5.toInt - 1 → w_262_23 T  a0 x6 s P)))
set_option maxRecDepth 20000 in
theorem k_262_0 {d : Nat}  {a0 : Int32} {s : yS} {P : Option Value → yS → Prop}  (h : w_262_0 (Tot d)  a0 s P) : Go d 1 (some .int) xE_262 (xE_262.drop 0) [.int a0, .null] [] s P := by
  unfold w_262_0 at h
  refine g_ld rfl rfl rfl ?_
  refine g_c [.int 27, .int a0] (xo_push (.int 27)) rfl rfl ?_
  refine g_brP rfl rfl ⟨fun hc => ?_, fun hc => ?_⟩
  · replace h := h.1 ((i_le (x := 27) (y := a0) (show (27 : Int32).toInt = 27 by decide) rfl).mp hc)
    refine g_ld rfl rfl rfl ?_
    refine g_c [.int 53, .int a0] (xo_push (.int 53)) rfl rfl ?_
    refine g_brP rfl rfl ⟨fun hc => ?_, fun hc => ?_⟩
    · replace h := h.1 ((i_le (x := 53) (y := a0) (show (53 : Int32).toInt = 53 by decide) rfl).mp hc)
      refine g_c [.int 48] (xo_push (.int 48)) rfl rfl ?_
      refine g_ld rfl rfl rfl ?_
      have ex1 := i_add (x := 48) (y := a0) (show (48 : Int32).toInt = 48 by decide) rfl h.1
      have cx1 := ck_add (x := 48) (y := a0) (show (48 : Int32).toInt = 48 by decide) rfl h.1
      replace h := h.2 _ ex1
      refine g_ca [.int (48 + a0)] xo_iadd rfl rfl (fun _ => cx1) ?_
      refine g_c [.int 53, .int (48 + a0)] (xo_push (.int 53)) rfl rfl ?_
      have ex2 := i_sub (x := (48 + a0)) (y := 53) rfl (show (53 : Int32).toInt = 53 by decide) h.1
      have cx2 := ck_sub (x := (48 + a0)) (y := 53) rfl (show (53 : Int32).toInt = 53 by decide) h.1
      replace h := h.2 _ ex2
      refine g_ca [.int ((48 + a0) - 53)] xo_isub rfl rfl (fun _ => cx2) ?_
      exact k_262_23  h
    · replace h := h.2 (fun q => hc ((i_le (x := 53) (y := a0) (show (53 : Int32).toInt = 53 by decide) rfl).mpr q))
      refine g_c [.int 65] (xo_push (.int 65)) rfl rfl ?_
      refine g_ld rfl rfl rfl ?_
      have ex3 := i_add (x := 65) (y := a0) (show (65 : Int32).toInt = 65 by decide) rfl h.1
      have cx3 := ck_add (x := 65) (y := a0) (show (65 : Int32).toInt = 65 by decide) rfl h.1
      replace h := h.2 _ ex3
      refine g_ca [.int (65 + a0)] xo_iadd rfl rfl (fun _ => cx3) ?_
      refine g_c [.int 27, .int (65 + a0)] (xo_push (.int 27)) rfl rfl ?_
      have ex4 := i_sub (x := (65 + a0)) (y := 27) rfl (show (27 : Int32).toInt = 27 by decide) h.1
      have cx4 := ck_sub (x := (65 + a0)) (y := 27) rfl (show (27 : Int32).toInt = 27 by decide) h.1
      replace h := h.2 _ ex4
      refine g_ca [.int ((65 + a0) - 27)] xo_isub rfl rfl (fun _ => cx4) ?_
      refine g_go rfl ?_
      exact k_262_23  h
  · replace h := h.2 (fun q => hc ((i_le (x := 27) (y := a0) (show (27 : Int32).toInt = 27 by decide) rfl).mpr q))
    refine g_c [.int 97] (xo_push (.int 97)) rfl rfl ?_
    refine g_ld rfl rfl rfl ?_
    have ex5 := i_add (x := 97) (y := a0) (show (97 : Int32).toInt = 97 by decide) rfl h.1
    have cx5 := ck_add (x := 97) (y := a0) (show (97 : Int32).toInt = 97 by decide) rfl h.1
    replace h := h.2 _ ex5
    refine g_ca [.int (97 + a0)] xo_iadd rfl rfl (fun _ => cx5) ?_
    refine g_c [.int 1, .int (97 + a0)] (xo_push (.int 1)) rfl rfl ?_
    have ex6 := i_sub (x := (97 + a0)) (y := 1) rfl (show (1 : Int32).toInt = 1 by decide) h.1
    have cx6 := ck_sub (x := (97 + a0)) (y := 1) rfl (show (1 : Int32).toInt = 1 by decide) h.1
    replace h := h.2 _ ex6
    refine g_ca [.int ((97 + a0) - 1)] xo_isub rfl rfl (fun _ => cx6) ?_
    refine g_go rfl ?_
    exact k_262_23  h
theorem t_262 {d : Nat} {a0 : Int32} {s : yS} {P : Option Value → yS → Prop} (h : w_262_0 (Tot d) a0 s P) : Tot (d + 1) 262 [.int a0] s P := tot_of (E := xE_262) (ml := 1) (ret := some .int) rfl rfl rfl (k_262_0 h)
/-! sayPart -/
def w_263_39 (T : Nat → List Value → yS → (Option Value → yS → Prop) → Prop)  (a1 : Int64) (a3 : Int64) (a5 : Int64) (s : yS) (P : Option Value → yS → Prop) : Prop :=
  P none s
set_option maxRecDepth 20000 in
theorem k_263_39 {d : Nat}  {a1 : Int64} {a3 : Int64} {a5 : Int64} {s : yS} {P : Option Value → yS → Prop}  (h : w_263_39 (Tot d)  a1 a3 a5 s P) : Go d 7 (none) xE_263 (xE_263.drop 39) [.ref 213, .long a1, .null, .long a3, .null, .long a5, .null, .null, .null, .null] [] s P := by
  unfold w_263_39 at h
  exact g_ret0 rfl h
def w_263_15 (T : Nat → List Value → yS → (Option Value → yS → Prop) → Prop) (R15 : Int64 → Int64 → Int64 → yS → Prop) (a1 : Int64) (a3 : Int64) (a5 : Int64) (s : yS) (P : Option Value → yS → Prop) : Prop :=
  ((lg_cmp a3 0).toInt ≤ 0 → w_263_39 T  a1 a3 a5  s P) ∧ (¬ ((lg_cmp a3 0).toInt ≤ 0) → ((lg_cmp a1 0).toInt ≤ 0 → w_263_39 T  a1 a3 a5  s P) ∧ (¬ ((lg_cmp a1 0).toInt ≤ 0) → ¬ a3 = 0 ∧ (T 262 [.int (Int64.toInt32 (a5 / a3))] s (fun v2 s1 => ∃ x3, v2 = some (.int x3) ∧ (T 261 [.ref 213, .int x3] s1 (fun v5 s4 => v5 = none ∧ (¬ a3 = 0 ∧ (R15 a1 (a3 / 64) (a5 - a5 / a3 * a3)  s4))))))))
set_option maxRecDepth 20000 in
theorem k_263_15 {d : Nat} {R15 : Int64 → Int64 → Int64 → yS → Prop} {a1 : Int64} {a3 : Int64} {a5 : Int64} {s : yS} {P : Option Value → yS → Prop} (r15 : ∀ a1 a3 a5 s, R15 a1 a3 a5 s → Go d 7 (none) xE_263 (xE_263.drop 15) [.ref 213, .long a1, .null, .long a3, .null, .long a5, .null, .null, .null, .null] [] s P) (h : w_263_15 (Tot d) R15 a1 a3 a5 s P) : Go d 7 (none) xE_263 (xE_263.drop 15) [.ref 213, .long a1, .null, .long a3, .null, .long a5, .null, .null, .null, .null] [] s P := by
  unfold w_263_15 at h
  refine g_ld rfl rfl rfl ?_
  refine g_c [.long 0, .long a3] (xo_push (.long 0)) rfl rfl ?_
  refine g_c [.int (lg_cmp a3 0)] xo_lcmp rfl rfl ?_
  refine g_brP rfl rfl ⟨fun hc => ?_, fun hc => ?_⟩
  · replace h := h.1 ((i_le (x := lg_cmp a3 0) (y := 0) rfl (show (0 : Int32).toInt = 0 by decide)).mp hc)
    exact k_263_39  h
  · replace h := h.2 (fun q => hc ((i_le (x := lg_cmp a3 0) (y := 0) rfl (show (0 : Int32).toInt = 0 by decide)).mpr q))
    refine g_ld rfl rfl rfl ?_
    refine g_c [.long 0, .long a1] (xo_push (.long 0)) rfl rfl ?_
    refine g_c [.int (lg_cmp a1 0)] xo_lcmp rfl rfl ?_
    refine g_brP rfl rfl ⟨fun hc => ?_, fun hc => ?_⟩
    · replace h := h.1 ((i_le (x := lg_cmp a1 0) (y := 0) rfl (show (0 : Int32).toInt = 0 by decide)).mp hc)
      exact k_263_39  h
    · replace h := h.2 (fun q => hc ((i_le (x := lg_cmp a1 0) (y := 0) rfl (show (0 : Int32).toInt = 0 by decide)).mpr q))
      refine g_ld rfl rfl rfl ?_
      refine g_ld rfl rfl rfl ?_
      refine g_ld rfl rfl rfl ?_
      refine g_c [.long (a5 / a3), .ref 213] xo_ldiv rfl (o_ldiv h.1) ?_
      replace h := h.2
      refine g_c [.int (Int64.toInt32 (a5 / a3)), .ref 213] xo_l2i rfl rfl ?_
      refine g_call [.int (Int64.toInt32 (a5 / a3))] [.ref 213] rfl rfl rfl (Tot.imp h (fun v2 s1 h => ?_))
      obtain ⟨x3, rfl, h⟩ := h
      change Go _ _ _ _ _ _ [.int x3, .ref 213] _ _
      refine g_call [.ref 213, .int x3] [] rfl rfl rfl (Tot.imp h (fun v5 s4 h => ?_))
      obtain ⟨rfl, h⟩ := h
      change Go _ _ _ _ _ _ [] _ _
      refine g_ld rfl rfl rfl ?_
      refine g_ld rfl rfl rfl ?_
      refine g_c [.long (a5 - a5 / a3 * a3)] xo_lrem rfl (o_lrem h.1) ?_
      replace h := h.2
      refine g_stL [.ref 213, .long a1, .null, .long a3, .null, .long (a5 - a5 / a3 * a3), .null, .null, .null, .null] rfl rfl rfl ?_
      refine g_ld rfl rfl rfl ?_
      refine g_c [.long 64, .long a3] (xo_push (.long 64)) rfl rfl ?_
      refine g_c [.long (a3 / 64)] xo_ldiv rfl (o_ldiv (by decide)) ?_
      refine g_stL [.ref 213, .long a1, .null, .long (a3 / 64), .null, .long (a5 - a5 / a3 * a3), .null, .null, .null, .null] rfl rfl rfl ?_
      refine g_go rfl ?_
      exact r15 a1 (a3 / 64) (a5 - a5 / a3 * a3)  s4 h
def wl_263_15 (T : Nat → List Value → yS → (Option Value → yS → Prop) → Prop)  (a1 : Int64) (a3 : Int64) (a5 : Int64) (s : yS) (P : Option Value → yS → Prop) : Prop :=
  ∃ (I : Int64 → Int64 → Int64 → yS → Prop) (μ : Int64 → Int64 → Int64 → yS → Nat), I a1 a3 a5 s ∧ ∀ (a1 : Int64) (a3 : Int64) (a5 : Int64) (s : yS), I a1 a3 a5 s → w_263_15 T (fun a1' a3' a5' s' => I a1' a3' a5' s' ∧ μ a1' a3' a5' s' < μ a1 a3 a5 s) a1 a3 a5 s P
theorem kl_263_15 {d : Nat}  {a1 : Int64} {a3 : Int64} {a5 : Int64} {s : yS} {P : Option Value → yS → Prop}  (h : wl_263_15 (Tot d)  a1 a3 a5 s P) : Go d 7 (none) xE_263 (xE_263.drop 15) [.ref 213, .long a1, .null, .long a3, .null, .long a5, .null, .null, .null, .null] [] s P := by
  obtain ⟨I, μ, h0, h1⟩ := h
  have key : ∀ (n : Nat) (a1 : Int64) (a3 : Int64) (a5 : Int64) (s : yS), μ a1 a3 a5 s = n → I a1 a3 a5 s → Go d 7 (none) xE_263 (xE_263.drop 15) [.ref 213, .long a1, .null, .long a3, .null, .long a5, .null, .null, .null, .null] [] s P := by
    intro n
    induction n using Nat.strongRecOn with
    | ind n ih =>
      intro a1 a3 a5 s e hI
      exact k_263_15 (fun a1' a3' a5' s' q => ih _ (by rw [← e]; exact q.2) _ _ _ _ rfl q.1) (h1 a1 a3 a5 s hI)
  exact key _ a1 a3 a5 s rfl h0
def w_263_2 (T : Nat → List Value → yS → (Option Value → yS → Prop) → Prop) (R2 : Int64 → Int64 → yS → Prop) (a1 : Int64) (a3 : Int64) (s : yS) (P : Option Value → yS → Prop) : Prop :=
  (0 < (lg_cmp a3 (a1 / 64)).toInt → wl_263_15 T  a1 a3 a1  s P) ∧ (¬ (0 < (lg_cmp a3 (a1 / 64)).toInt) → R2 a1 (a3 * 64)  s)
set_option maxRecDepth 20000 in
theorem k_263_2 {d : Nat} {R2 : Int64 → Int64 → yS → Prop} {a1 : Int64} {a3 : Int64} {s : yS} {P : Option Value → yS → Prop} (r2 : ∀ a1 a3 s, R2 a1 a3 s → Go d 7 (none) xE_263 (xE_263.drop 2) [.ref 213, .long a1, .null, .long a3, .null, .null, .null, .null, .null, .null] [] s P) (h : w_263_2 (Tot d) R2 a1 a3 s P) : Go d 7 (none) xE_263 (xE_263.drop 2) [.ref 213, .long a1, .null, .long a3, .null, .null, .null, .null, .null, .null] [] s P := by
  unfold w_263_2 at h
  refine g_ld rfl rfl rfl ?_
  refine g_ld rfl rfl rfl ?_
  refine g_c [.long 64, .long a1, .long a3] (xo_push (.long 64)) rfl rfl ?_
  refine g_c [.long (a1 / 64), .long a3] xo_ldiv rfl (o_ldiv (by decide)) ?_
  refine g_c [.int (lg_cmp a3 (a1 / 64))] xo_lcmp rfl rfl ?_
  refine g_brP rfl rfl ⟨fun hc => ?_, fun hc => ?_⟩
  · replace h := h.1 ((i_lt (x := 0) (y := lg_cmp a3 (a1 / 64)) (show (0 : Int32).toInt = 0 by decide) rfl).mp hc)
    refine g_ld rfl rfl rfl ?_
    refine g_stL [.ref 213, .long a1, .null, .long a3, .null, .long a1, .null, .null, .null, .null] rfl rfl rfl ?_
    exact kl_263_15  h
  · replace h := h.2 (fun q => hc ((i_lt (x := 0) (y := lg_cmp a3 (a1 / 64)) (show (0 : Int32).toInt = 0 by decide) rfl).mpr q))
    refine g_ld rfl rfl rfl ?_
    refine g_c [.long 64, .long a3] (xo_push (.long 64)) rfl rfl ?_
    refine g_c [.long (a3 * 64)] xo_lmul rfl rfl ?_
    refine g_stL [.ref 213, .long a1, .null, .long (a3 * 64), .null, .null, .null, .null, .null, .null] rfl rfl rfl ?_
    refine g_go rfl ?_
    exact r2 a1 (a3 * 64)  s h
def wl_263_2 (T : Nat → List Value → yS → (Option Value → yS → Prop) → Prop)  (a1 : Int64) (a3 : Int64) (s : yS) (P : Option Value → yS → Prop) : Prop :=
  ∃ (I : Int64 → Int64 → yS → Prop) (μ : Int64 → Int64 → yS → Nat), I a1 a3 s ∧ ∀ (a1 : Int64) (a3 : Int64) (s : yS), I a1 a3 s → w_263_2 T (fun a1' a3' s' => I a1' a3' s' ∧ μ a1' a3' s' < μ a1 a3 s) a1 a3 s P
theorem kl_263_2 {d : Nat}  {a1 : Int64} {a3 : Int64} {s : yS} {P : Option Value → yS → Prop}  (h : wl_263_2 (Tot d)  a1 a3 s P) : Go d 7 (none) xE_263 (xE_263.drop 2) [.ref 213, .long a1, .null, .long a3, .null, .null, .null, .null, .null, .null] [] s P := by
  obtain ⟨I, μ, h0, h1⟩ := h
  have key : ∀ (n : Nat) (a1 : Int64) (a3 : Int64) (s : yS), μ a1 a3 s = n → I a1 a3 s → Go d 7 (none) xE_263 (xE_263.drop 2) [.ref 213, .long a1, .null, .long a3, .null, .null, .null, .null, .null, .null] [] s P := by
    intro n
    induction n using Nat.strongRecOn with
    | ind n ih =>
      intro a1 a3 s e hI
      exact k_263_2 (fun a1' a3' s' q => ih _ (by rw [← e]; exact q.2) _ _ _ rfl q.1) (h1 a1 a3 s hI)
  exact key _ a1 a3 s rfl h0
def w_263_0 (T : Nat → List Value → yS → (Option Value → yS → Prop) → Prop)  (a1 : Int64) (s : yS) (P : Option Value → yS → Prop) : Prop :=
  wl_263_2 T  a1 1  s P
set_option maxRecDepth 20000 in
theorem k_263_0 {d : Nat}  {a1 : Int64} {s : yS} {P : Option Value → yS → Prop}  (h : w_263_0 (Tot d)  a1 s P) : Go d 7 (none) xE_263 (xE_263.drop 0) [.ref 213, .long a1, .null, .null, .null, .null, .null, .null, .null, .null] [] s P := by
  unfold w_263_0 at h
  refine g_c [.long 1] (xo_push (.long 1)) rfl rfl ?_
  refine g_stL [.ref 213, .long a1, .null, .long 1, .null, .null, .null, .null, .null, .null] rfl rfl rfl ?_
  exact kl_263_2  h
theorem t_263 {d : Nat} {a1 : Int64} {s : yS} {P : Option Value → yS → Prop} (h : w_263_0 (Tot d) a1 s P) : Tot (d + 1) 263 [.ref 213, .long a1] s P := tot_of (E := xE_263) (ml := 7) (ret := none) rfl rfl rfl (k_263_0 h)
/-! sayWord -/
def w_264_0 (T : Nat → List Value → yS → (Option Value → yS → Prop) → Prop)  (a1 : Int32) (s : yS) (P : Option Value → yS → Prop) : Prop :=
  (-2147483648 ≤ 2100 * (s.1 29).toInt ∧ 2100 * (s.1 29).toInt ≤ 2147483647) ∧ (∀ x1 : Int32, x1.toInt = 2100 * (s.1 29).toInt → (-2147483648 ≤ x1.toInt + a1.toInt ∧ x1.toInt + a1.toInt ≤ 2147483647) ∧ (∀ x2 : Int32, x2.toInt = x1.toInt + a1.toInt → (0 ≤ x2.toInt ∧ x2.toInt < 6300) ∧ (T 263 [.ref 213, .long (s.2.2 218 x2.toInt.toNat)] s (fun v4 s3 => v4 = none ∧ ((-2147483648 ≤ 2100 * (s3.1 29).toInt ∧ 2100 * (s3.1 29).toInt ≤ 2147483647) ∧ (∀ x5 : Int32, x5.toInt = 2100 * (s3.1 29).toInt → (-2147483648 ≤ x5.toInt + a1.toInt ∧ x5.toInt + a1.toInt ≤ 2147483647) ∧ (∀ x6 : Int32, x6.toInt = x5.toInt + a1.toInt → (0 ≤ x6.toInt ∧ x6.toInt < 6300) ∧ (T 263 [.ref 213, .long (s3.2.2 219 x6.toInt.toNat)] s3 (fun v8 s7 => v8 = none ∧ (P none s7))))))))))
set_option maxRecDepth 20000 in
theorem k_264_0 {d : Nat}  {a1 : Int32} {s : yS} {P : Option Value → yS → Prop}  (h : w_264_0 (Tot d)  a1 s P) : Go d 2 (none) xE_264 (xE_264.drop 0) [.ref 213, .int a1, .null, .null] [] s P := by
  unfold w_264_0 at h
  refine g_ld rfl rfl rfl ?_
  refine g_ld rfl rfl rfl ?_
  refine g_get rfl rfl ?_
  change Go _ _ _ _ _ _ [.ref 218, .ref 213] _ _
  refine g_c [.int 2100, .ref 218, .ref 213] (xo_push (.int 2100)) rfl rfl ?_
  refine g_ld rfl rfl rfl ?_
  refine g_get rfl rfl ?_
  change Go _ _ _ _ _ _ [.int (s.1 29), .int 2100, .ref 218, .ref 213] _ _
  have ex1 := i_mul (x := 2100) (y := s.1 29) (show (2100 : Int32).toInt = 2100 by decide) rfl h.1
  have cx1 := ck_mul (x := 2100) (y := s.1 29) (show (2100 : Int32).toInt = 2100 by decide) rfl h.1
  replace h := h.2 _ ex1
  refine g_ca [.int (2100 * (s.1 29)), .ref 218, .ref 213] xo_imul rfl rfl (fun _ => cx1) ?_
  refine g_ld rfl rfl rfl ?_
  have ex2 := i_add (x := (2100 * (s.1 29))) (y := a1) rfl rfl h.1
  have cx2 := ck_add (x := (2100 * (s.1 29))) (y := a1) rfl rfl h.1
  replace h := h.2 _ ex2
  refine g_ca [.int ((2100 * (s.1 29)) + a1), .ref 218, .ref 213] xo_iadd rfl rfl (fun _ => cx2) ?_
  refine g_lal rfl rfl (i_in (x := ((2100 * (s.1 29)) + a1)) rfl h.1) ?_
  change Go _ _ _ _ _ _ [.long (s.2.2 218 ((2100 * (s.1 29)) + a1).toInt.toNat), .ref 213] _ _
  replace h := h.2
  refine g_call [.ref 213, .long (s.2.2 218 ((2100 * (s.1 29)) + a1).toInt.toNat)] [] rfl rfl rfl (Tot.imp h (fun v4 s3 h => ?_))
  obtain ⟨rfl, h⟩ := h
  change Go _ _ _ _ _ _ [] _ _
  refine g_ld rfl rfl rfl ?_
  refine g_ld rfl rfl rfl ?_
  refine g_get rfl rfl ?_
  change Go _ _ _ _ _ _ [.ref 219, .ref 213] _ _
  refine g_c [.int 2100, .ref 219, .ref 213] (xo_push (.int 2100)) rfl rfl ?_
  refine g_ld rfl rfl rfl ?_
  refine g_get rfl rfl ?_
  change Go _ _ _ _ _ _ [.int (s3.1 29), .int 2100, .ref 219, .ref 213] _ _
  have ex5 := i_mul (x := 2100) (y := s3.1 29) (show (2100 : Int32).toInt = 2100 by decide) rfl h.1
  have cx5 := ck_mul (x := 2100) (y := s3.1 29) (show (2100 : Int32).toInt = 2100 by decide) rfl h.1
  replace h := h.2 _ ex5
  refine g_ca [.int (2100 * (s3.1 29)), .ref 219, .ref 213] xo_imul rfl rfl (fun _ => cx5) ?_
  refine g_ld rfl rfl rfl ?_
  have ex6 := i_add (x := (2100 * (s3.1 29))) (y := a1) rfl rfl h.1
  have cx6 := ck_add (x := (2100 * (s3.1 29))) (y := a1) rfl rfl h.1
  replace h := h.2 _ ex6
  refine g_ca [.int ((2100 * (s3.1 29)) + a1), .ref 219, .ref 213] xo_iadd rfl rfl (fun _ => cx6) ?_
  refine g_lal rfl rfl (i_in (x := ((2100 * (s3.1 29)) + a1)) rfl h.1) ?_
  change Go _ _ _ _ _ _ [.long (s3.2.2 219 ((2100 * (s3.1 29)) + a1).toInt.toNat), .ref 213] _ _
  replace h := h.2
  refine g_call [.ref 213, .long (s3.2.2 219 ((2100 * (s3.1 29)) + a1).toInt.toNat)] [] rfl rfl rfl (Tot.imp h (fun v8 s7 h => ?_))
  obtain ⟨rfl, h⟩ := h
  change Go _ _ _ _ _ _ [] _ _
  exact g_ret0 rfl h
theorem t_264 {d : Nat} {a1 : Int32} {s : yS} {P : Option Value → yS → Prop} (h : w_264_0 (Tot d) a1 s P) : Tot (d + 1) 264 [.ref 213, .int a1] s P := tot_of (E := xE_264) (ml := 2) (ret := none) rfl rfl rfl (k_264_0 h)
/-! sayType -/
def w_265_54 (T : Nat → List Value → yS → (Option Value → yS → Prop) → Prop)  (a1 : Int32) (a2 : Int32) (a3 : Int32) (a4 : Int32) (a5 : Int32) (s : yS) (P : Option Value → yS → Prop) : Prop :=
  P (some (.int a4)) s
set_option maxRecDepth 20000 in
theorem k_265_54 {d : Nat}  {a1 : Int32} {a2 : Int32} {a3 : Int32} {a4 : Int32} {a5 : Int32} {s : yS} {P : Option Value → yS → Prop}  (h : w_265_54 (Tot d)  a1 a2 a3 a4 a5 s P) : Go d 6 (some .int) xE_265 (xE_265.drop 54) [.ref 213, .int a1, .int a2, .int a3, .int a4, .int a5, .null, .null] [] s P := by
  unfold w_265_54 at h
  refine g_ld rfl rfl rfl ?_
  exact g_retI rfl h
def w_265_42 (T : Nat → List Value → yS → (Option Value → yS → Prop) → Prop) (R33 : Int32 → Int32 → Int32 → Int32 → Int32 → yS → Prop) (a1 : Int32) (a2 : Int32) (a3 : Int32) (a4 : Int32) (a5 : Int32) (t1 : Int32) (s : yS) (P : Option Value → yS → Prop) : Prop :=
  T 261 [.ref 213, .int t1] s (fun v2 s1 => v2 = none ∧ (T 265 [.ref 213, .int a4] s1 (fun v4 s3 => ∃ x5, v4 = some (.int x5) ∧ ((-2147483648 ≤ a5.toInt + 1 ∧ a5.toInt + 1 ≤ 2147483647) ∧ (∀ x6 : Int32, x6.toInt = a5.toInt + 1 → R33 a1 a2 a3 x5 x6  s3)))))
set_option maxRecDepth 20000 in
theorem k_265_42 {d : Nat} {R33 : Int32 → Int32 → Int32 → Int32 → Int32 → yS → Prop} {a1 : Int32} {a2 : Int32} {a3 : Int32} {a4 : Int32} {a5 : Int32} {t1 : Int32} {s : yS} {P : Option Value → yS → Prop} (r33 : ∀ a1 a2 a3 a4 a5 s, R33 a1 a2 a3 a4 a5 s → Go d 6 (some .int) xE_265 (xE_265.drop 33) [.ref 213, .int a1, .int a2, .int a3, .int a4, .int a5, .null, .null] [] s P) (h : w_265_42 (Tot d) R33 a1 a2 a3 a4 a5 t1 s P) : Go d 6 (some .int) xE_265 (xE_265.drop 42) [.ref 213, .int a1, .int a2, .int a3, .int a4, .int a5, .null, .null] [.int t1, .ref 213] s P := by
  unfold w_265_42 at h
  refine g_call [.ref 213, .int t1] [] rfl rfl rfl (Tot.imp h (fun v2 s1 h => ?_))
  obtain ⟨rfl, h⟩ := h
  change Go _ _ _ _ _ _ [] _ _
  refine g_ld rfl rfl rfl ?_
  refine g_ld rfl rfl rfl ?_
  refine g_call [.ref 213, .int a4] [] rfl rfl rfl (Tot.imp h (fun v4 s3 h => ?_))
  obtain ⟨x5, rfl, h⟩ := h
  change Go _ _ _ _ _ _ [.int x5] _ _
  refine g_st [.ref 213, .int a1, .int a2, .int a3, .int x5, .int a5, .null, .null] rfl rfl rfl ?_
  have ex6 := i_add (x := a5) (y := 1) rfl (show (1 : Int32).toInt = 1 by decide) h.1
  have cx6 := ck_inc (x := a5) (n := 1) rfl h.1
  replace h := h.2 _ ex6
  refine g_inc [.ref 213, .int a1, .int a2, .int a3, .int x5, .int (a5 + 1), .null, .null] rfl rfl rfl rfl cx6 ?_
  refine g_go rfl ?_
  exact r33 a1 a2 a3 x5 (a5 + 1)  s3 h
def w_265_33 (T : Nat → List Value → yS → (Option Value → yS → Prop) → Prop) (R33 : Int32 → Int32 → Int32 → Int32 → Int32 → yS → Prop) (a1 : Int32) (a2 : Int32) (a3 : Int32) (a4 : Int32) (a5 : Int32) (s : yS) (P : Option Value → yS → Prop) : Prop :=
  (a3.toInt ≤ a5.toInt → (a3.toInt ≤ 0 → w_265_54 T  a1 a2 a3 a4 a5  s P) ∧ (¬ (a3.toInt ≤ 0) → T 261 [.ref 213, .int 93] s (fun v2 s1 => v2 = none ∧ (w_265_54 T  a1 a2 a3 a4 a5  s1 P)))) ∧ (¬ (a3.toInt ≤ a5.toInt) → (¬ (a5.toInt = 0) → w_265_42 T R33 a1 a2 a3 a4 a5 44 s P) ∧ (a5.toInt = 0 → w_265_42 T R33 a1 a2 a3 a4 a5 91 s P))
set_option maxRecDepth 20000 in
theorem k_265_33 {d : Nat} {R33 : Int32 → Int32 → Int32 → Int32 → Int32 → yS → Prop} {a1 : Int32} {a2 : Int32} {a3 : Int32} {a4 : Int32} {a5 : Int32} {s : yS} {P : Option Value → yS → Prop} (r33 : ∀ a1 a2 a3 a4 a5 s, R33 a1 a2 a3 a4 a5 s → Go d 6 (some .int) xE_265 (xE_265.drop 33) [.ref 213, .int a1, .int a2, .int a3, .int a4, .int a5, .null, .null] [] s P) (h : w_265_33 (Tot d) R33 a1 a2 a3 a4 a5 s P) : Go d 6 (some .int) xE_265 (xE_265.drop 33) [.ref 213, .int a1, .int a2, .int a3, .int a4, .int a5, .null, .null] [] s P := by
  unfold w_265_33 at h
  refine g_ld rfl rfl rfl ?_
  refine g_ld rfl rfl rfl ?_
  refine g_brP rfl rfl ⟨fun hc => ?_, fun hc => ?_⟩
  · replace h := h.1 ((i_le (x := a3) (y := a5) rfl rfl).mp hc)
    refine g_ld rfl rfl rfl ?_
    refine g_brP rfl rfl ⟨fun hc => ?_, fun hc => ?_⟩
    · replace h := h.1 ((i_le (x := a3) (y := 0) rfl (show (0 : Int32).toInt = 0 by decide)).mp hc)
      exact k_265_54  h
    · replace h := h.2 (fun q => hc ((i_le (x := a3) (y := 0) rfl (show (0 : Int32).toInt = 0 by decide)).mpr q))
      refine g_ld rfl rfl rfl ?_
      refine g_c [.int 93, .ref 213] (xo_push (.int 93)) rfl rfl ?_
      refine g_call [.ref 213, .int 93] [] rfl rfl rfl (Tot.imp h (fun v2 s1 h => ?_))
      obtain ⟨rfl, h⟩ := h
      change Go _ _ _ _ _ _ [] _ _
      exact k_265_54  h
  · replace h := h.2 (fun q => hc ((i_le (x := a3) (y := a5) rfl rfl).mpr q))
    refine g_ld rfl rfl rfl ?_
    refine g_ld rfl rfl rfl ?_
    refine g_brN rfl rfl ⟨fun hc => ?_, fun hc => ?_⟩
    · replace h := h.1 (fun q => hc ((i_eq (x := a5) (y := 0) rfl (show (0 : Int32).toInt = 0 by decide)).mpr q))
      refine g_c [.int 44, .ref 213] (xo_push (.int 44)) rfl rfl ?_
      exact k_265_42 r33 h
    · replace h := h.2 ((i_eq (x := a5) (y := 0) rfl (show (0 : Int32).toInt = 0 by decide)).mp hc)
      refine g_c [.int 91, .ref 213] (xo_push (.int 91)) rfl rfl ?_
      refine g_go rfl ?_
      exact k_265_42 r33 h
def wl_265_33 (T : Nat → List Value → yS → (Option Value → yS → Prop) → Prop)  (a1 : Int32) (a2 : Int32) (a3 : Int32) (a4 : Int32) (a5 : Int32) (s : yS) (P : Option Value → yS → Prop) : Prop :=
  ∃ (I : Int32 → Int32 → Int32 → Int32 → Int32 → yS → Prop) (μ : Int32 → Int32 → Int32 → Int32 → Int32 → yS → Nat), I a1 a2 a3 a4 a5 s ∧ ∀ (a1 : Int32) (a2 : Int32) (a3 : Int32) (a4 : Int32) (a5 : Int32) (s : yS), I a1 a2 a3 a4 a5 s → w_265_33 T (fun a1' a2' a3' a4' a5' s' => I a1' a2' a3' a4' a5' s' ∧ μ a1' a2' a3' a4' a5' s' < μ a1 a2 a3 a4 a5 s) a1 a2 a3 a4 a5 s P
theorem kl_265_33 {d : Nat}  {a1 : Int32} {a2 : Int32} {a3 : Int32} {a4 : Int32} {a5 : Int32} {s : yS} {P : Option Value → yS → Prop}  (h : wl_265_33 (Tot d)  a1 a2 a3 a4 a5 s P) : Go d 6 (some .int) xE_265 (xE_265.drop 33) [.ref 213, .int a1, .int a2, .int a3, .int a4, .int a5, .null, .null] [] s P := by
  obtain ⟨I, μ, h0, h1⟩ := h
  have key : ∀ (n : Nat) (a1 : Int32) (a2 : Int32) (a3 : Int32) (a4 : Int32) (a5 : Int32) (s : yS), μ a1 a2 a3 a4 a5 s = n → I a1 a2 a3 a4 a5 s → Go d 6 (some .int) xE_265 (xE_265.drop 33) [.ref 213, .int a1, .int a2, .int a3, .int a4, .int a5, .null, .null] [] s P := by
    intro n
    induction n using Nat.strongRecOn with
    | ind n ih =>
      intro a1 a2 a3 a4 a5 s e hI
      exact k_265_33 (fun a1' a2' a3' a4' a5' s' q => ih _ (by rw [← e]; exact q.2) _ _ _ _ _ _ rfl q.1) (h1 a1 a2 a3 a4 a5 s hI)
  exact key _ a1 a2 a3 a4 a5 s rfl h0
def w_265_0 (T : Nat → List Value → yS → (Option Value → yS → Prop) → Prop)  (a1 : Int32) (s : yS) (P : Option Value → yS → Prop) : Prop :=
  (0 ≤ a1.toInt ∧ a1.toInt < 60) ∧ (T 185 [.int (s.2.1 285 a1.toInt.toNat)] s (fun v2 s1 => ∃ x3, v2 = some (.int x3) ∧ ((0 ≤ a1.toInt ∧ a1.toInt < 60) ∧ (0 ≤ (s1.2.1 285 a1.toInt.toNat).toInt ∧ (∀ x4 : Int32, x4.toInt = (s1.2.1 285 a1.toInt.toNat).toInt % 8 → (-2147483648 ≤ 24 * (s1.1 29).toInt ∧ 24 * (s1.1 29).toInt ≤ 2147483647) ∧ (∀ x5 : Int32, x5.toInt = 24 * (s1.1 29).toInt → (-2147483648 ≤ x5.toInt + x3.toInt ∧ x5.toInt + x3.toInt ≤ 2147483647) ∧ (∀ x6 : Int32, x6.toInt = x5.toInt + x3.toInt → (0 ≤ x6.toInt ∧ x6.toInt < 48) ∧ ((0 ≤ (s1.2.1 234 x6.toInt.toNat).toInt ∧ (s1.2.1 234 x6.toInt.toNat).toInt < 12006) ∧ (T 264 [.ref 213, .int (s1.2.1 217 (s1.2.1 234 x6.toInt.toNat).toInt.toNat)] s1 (fun v8 s7 => v8 = none ∧ ((-2147483648 ≤ a1.toInt + 1 ∧ a1.toInt + 1 ≤ 2147483647) ∧ (∀ x9 : Int32, x9.toInt = a1.toInt + 1 → wl_265_33 T  a1 x3 x4 x9 0  s7 P))))))))))))
set_option maxRecDepth 20000 in
theorem k_265_0 {d : Nat}  {a1 : Int32} {s : yS} {P : Option Value → yS → Prop}  (h : w_265_0 (Tot d)  a1 s P) : Go d 6 (some .int) xE_265 (xE_265.drop 0) [.ref 213, .int a1, .null, .null, .null, .null, .null, .null] [] s P := by
  unfold w_265_0 at h
  refine g_ld rfl rfl rfl ?_
  refine g_get rfl rfl ?_
  change Go _ _ _ _ _ _ [.ref 285] _ _
  refine g_ld rfl rfl rfl ?_
  refine g_ial rfl rfl (i_in (x := a1) rfl h.1) ?_
  change Go _ _ _ _ _ _ [.int (s.2.1 285 a1.toInt.toNat)] _ _
  replace h := h.2
  refine g_call [.int (s.2.1 285 a1.toInt.toNat)] [] rfl rfl rfl (Tot.imp h (fun v2 s1 h => ?_))
  obtain ⟨x3, rfl, h⟩ := h
  change Go _ _ _ _ _ _ [.int x3] _ _
  refine g_st [.ref 213, .int a1, .int x3, .null, .null, .null, .null, .null] rfl rfl rfl ?_
  refine g_ld rfl rfl rfl ?_
  refine g_get rfl rfl ?_
  change Go _ _ _ _ _ _ [.ref 285] _ _
  refine g_ld rfl rfl rfl ?_
  refine g_ial rfl rfl (i_in (x := a1) rfl h.1) ?_
  change Go _ _ _ _ _ _ [.int (s1.2.1 285 a1.toInt.toNat)] _ _
  replace h := h.2
  refine g_c [.int 7, .int (s1.2.1 285 a1.toInt.toNat)] (xo_push (.int 7)) rfl rfl ?_
  have ex4 := i_and7 (x := s1.2.1 285 a1.toInt.toNat) rfl h.1
  have cx4 := ck_and (x := s1.2.1 285 a1.toInt.toNat) (y := 7) rfl h.1
  replace h := h.2 _ ex4
  refine g_ca [.int ((s1.2.1 285 a1.toInt.toNat) &&& 7)] xo_iand rfl rfl (fun _ => cx4) ?_
  refine g_st [.ref 213, .int a1, .int x3, .int ((s1.2.1 285 a1.toInt.toNat) &&& 7), .null, .null, .null, .null] rfl rfl rfl ?_
  refine g_ld rfl rfl rfl ?_
  refine g_ld rfl rfl rfl ?_
  refine g_get rfl rfl ?_
  change Go _ _ _ _ _ _ [.ref 217, .ref 213] _ _
  refine g_ld rfl rfl rfl ?_
  refine g_get rfl rfl ?_
  change Go _ _ _ _ _ _ [.ref 234, .ref 217, .ref 213] _ _
  refine g_c [.int 24, .ref 234, .ref 217, .ref 213] (xo_push (.int 24)) rfl rfl ?_
  refine g_ld rfl rfl rfl ?_
  refine g_get rfl rfl ?_
  change Go _ _ _ _ _ _ [.int (s1.1 29), .int 24, .ref 234, .ref 217, .ref 213] _ _
  have ex5 := i_mul (x := 24) (y := s1.1 29) (show (24 : Int32).toInt = 24 by decide) rfl h.1
  have cx5 := ck_mul (x := 24) (y := s1.1 29) (show (24 : Int32).toInt = 24 by decide) rfl h.1
  replace h := h.2 _ ex5
  refine g_ca [.int (24 * (s1.1 29)), .ref 234, .ref 217, .ref 213] xo_imul rfl rfl (fun _ => cx5) ?_
  refine g_ld rfl rfl rfl ?_
  have ex6 := i_add (x := (24 * (s1.1 29))) (y := x3) rfl rfl h.1
  have cx6 := ck_add (x := (24 * (s1.1 29))) (y := x3) rfl rfl h.1
  replace h := h.2 _ ex6
  refine g_ca [.int ((24 * (s1.1 29)) + x3), .ref 234, .ref 217, .ref 213] xo_iadd rfl rfl (fun _ => cx6) ?_
  refine g_ial rfl rfl (i_in (x := ((24 * (s1.1 29)) + x3)) rfl h.1) ?_
  change Go _ _ _ _ _ _ [.int (s1.2.1 234 ((24 * (s1.1 29)) + x3).toInt.toNat), .ref 217, .ref 213] _ _
  replace h := h.2
  refine g_ial rfl rfl (i_in (x := s1.2.1 234 ((24 * (s1.1 29)) + x3).toInt.toNat) rfl h.1) ?_
  change Go _ _ _ _ _ _ [.int (s1.2.1 217 (s1.2.1 234 ((24 * (s1.1 29)) + x3).toInt.toNat).toInt.toNat), .ref 213] _ _
  replace h := h.2
  refine g_call [.ref 213, .int (s1.2.1 217 (s1.2.1 234 ((24 * (s1.1 29)) + x3).toInt.toNat).toInt.toNat)] [] rfl rfl rfl (Tot.imp h (fun v8 s7 h => ?_))
  obtain ⟨rfl, h⟩ := h
  change Go _ _ _ _ _ _ [] _ _
  refine g_ld rfl rfl rfl ?_
  refine g_c [.int 1, .int a1] (xo_push (.int 1)) rfl rfl ?_
  have ex9 := i_add (x := a1) (y := 1) rfl (show (1 : Int32).toInt = 1 by decide) h.1
  have cx9 := ck_add (x := a1) (y := 1) rfl (show (1 : Int32).toInt = 1 by decide) h.1
  replace h := h.2 _ ex9
  refine g_ca [.int (a1 + 1)] xo_iadd rfl rfl (fun _ => cx9) ?_
  refine g_st [.ref 213, .int a1, .int x3, .int ((s1.2.1 285 a1.toInt.toNat) &&& 7), .int (a1 + 1), .null, .null, .null] rfl rfl rfl ?_
  refine g_c [.int 0] (xo_push (.int 0)) rfl rfl ?_
  refine g_st [.ref 213, .int a1, .int x3, .int ((s1.2.1 285 a1.toInt.toNat) &&& 7), .int (a1 + 1), .int 0, .null, .null] rfl rfl rfl ?_
  exact kl_265_33  h
theorem t_265 {d : Nat} {a1 : Int32} {s : yS} {P : Option Value → yS → Prop} (h : w_265_0 (Tot d) a1 s P) : Tot (d + 1) 265 [.ref 213, .int a1] s P := tot_of (E := xE_265) (ml := 6) (ret := some .int) rfl rfl rfl (k_265_0 h)
/-! beginValue -/
def w_266_2 (T : Nat → List Value → yS → (Option Value → yS → Prop) → Prop) (R2 : Int32 → Int32 → yS → Prop) (a1 : Int32) (a2 : Int32) (s : yS) (P : Option Value → yS → Prop) : Prop :=
  (0 ≤ a1.toInt ∧ a1.toInt < 5100) ∧ (((s.2.1 276 a1.toInt.toNat).toInt ≤ a2.toInt → T 265 [.ref 213, .int 0] s (fun v2 s1 => ∃ x3, v2 = some (.int x3) ∧ (T 261 [.ref 213, .int 123] s1 (fun v5 s4 => v5 = none ∧ ((0 ≤ (s4.1 124).toInt ∧ (s4.1 124).toInt < 1100) ∧ (∀ s6, s6 = sa s4 286 (s4.1 124).toInt.toNat a1 → (0 ≤ (s6.1 124).toInt ∧ (s6.1 124).toInt < 1100) ∧ (∀ s7, s7 = sa s6 287 (s6.1 124).toInt.toNat 0 → (-2147483648 ≤ (s7.1 124).toInt + 1 ∧ (s7.1 124).toInt + 1 ≤ 2147483647) ∧ (∀ x8 : Int32, x8.toInt = (s7.1 124).toInt + 1 → ∀ s9, s9 = sf s7 124 x8 → P none s9)))))))) ∧ (¬ ((s.2.1 276 a1.toInt.toNat).toInt ≤ a2.toInt) → (0 ≤ a1.toInt ∧ a1.toInt < 5100) ∧ ((-2147483648 ≤ (s.2.1 275 a1.toInt.toNat).toInt + a2.toInt ∧ (s.2.1 275 a1.toInt.toNat).toInt + a2.toInt ≤ 2147483647) ∧ (∀ x10 : Int32, x10.toInt = (s.2.1 275 a1.toInt.toNat).toInt + a2.toInt → (0 ≤ x10.toInt ∧ x10.toInt < 200000) ∧ ((0 ≤ a2.toInt ∧ a2.toInt < 60) ∧ (∀ s11, s11 = sa s 285 a2.toInt.toNat (s.2.1 264 x10.toInt.toNat) → (-2147483648 ≤ a2.toInt + 1 ∧ a2.toInt + 1 ≤ 2147483647) ∧ (∀ x12 : Int32, x12.toInt = a2.toInt + 1 → R2 a1 x12  s11)))))))
set_option maxRecDepth 20000 in
theorem k_266_2 {d : Nat} {R2 : Int32 → Int32 → yS → Prop} {a1 : Int32} {a2 : Int32} {s : yS} {P : Option Value → yS → Prop} (r2 : ∀ a1 a2 s, R2 a1 a2 s → Go d 3 (none) xE_266 (xE_266.drop 2) [.ref 213, .int a1, .int a2, .null, .null] [] s P) (h : w_266_2 (Tot d) R2 a1 a2 s P) : Go d 3 (none) xE_266 (xE_266.drop 2) [.ref 213, .int a1, .int a2, .null, .null] [] s P := by
  unfold w_266_2 at h
  refine g_ld rfl rfl rfl ?_
  refine g_ld rfl rfl rfl ?_
  refine g_get rfl rfl ?_
  change Go _ _ _ _ _ _ [.ref 276, .int a2] _ _
  refine g_ld rfl rfl rfl ?_
  refine g_ial rfl rfl (i_in (x := a1) rfl h.1) ?_
  change Go _ _ _ _ _ _ [.int (s.2.1 276 a1.toInt.toNat), .int a2] _ _
  replace h := h.2
  refine g_brP rfl rfl ⟨fun hc => ?_, fun hc => ?_⟩
  · replace h := h.1 ((i_le (x := s.2.1 276 a1.toInt.toNat) (y := a2) rfl rfl).mp hc)
    refine g_ld rfl rfl rfl ?_
    refine g_c [.int 0, .ref 213] (xo_push (.int 0)) rfl rfl ?_
    refine g_call [.ref 213, .int 0] [] rfl rfl rfl (Tot.imp h (fun v2 s1 h => ?_))
    obtain ⟨x3, rfl, h⟩ := h
    change Go _ _ _ _ _ _ [.int x3] _ _
    refine g_st [.ref 213, .int a1, .int x3, .null, .null] rfl rfl rfl ?_
    refine g_ld rfl rfl rfl ?_
    refine g_c [.int 123, .ref 213] (xo_push (.int 123)) rfl rfl ?_
    refine g_call [.ref 213, .int 123] [] rfl rfl rfl (Tot.imp h (fun v5 s4 h => ?_))
    obtain ⟨rfl, h⟩ := h
    change Go _ _ _ _ _ _ [] _ _
    refine g_ld rfl rfl rfl ?_
    refine g_get rfl rfl ?_
    change Go _ _ _ _ _ _ [.ref 286] _ _
    refine g_ld rfl rfl rfl ?_
    refine g_get rfl rfl ?_
    change Go _ _ _ _ _ _ [.int (s4.1 124), .ref 286] _ _
    refine g_ld rfl rfl rfl ?_
    refine g_ias rfl rfl (i_in (x := s4.1 124) rfl h.1) ?_
    replace h := h.2
    replace h := h _ rfl
    refine g_ld rfl rfl rfl ?_
    refine g_get rfl rfl ?_
    change Go _ _ _ _ _ _ [.ref 287] _ _
    refine g_ld rfl rfl rfl ?_
    refine g_get rfl rfl ?_
    change Go _ _ _ _ _ _ [.int ((sa s4 286 (s4.1 124).toInt.toNat a1).1 124), .ref 287] _ _
    refine g_c [.int 0, .int ((sa s4 286 (s4.1 124).toInt.toNat a1).1 124), .ref 287] (xo_push (.int 0)) rfl rfl ?_
    refine g_ias rfl rfl (i_in (x := (sa s4 286 (s4.1 124).toInt.toNat a1).1 124) rfl h.1) ?_
    replace h := h.2
    replace h := h _ rfl
    refine g_ld rfl rfl rfl ?_
    refine g_c [.ref 213, .ref 213] xo_dup rfl rfl ?_
    refine g_get rfl rfl ?_
    change Go _ _ _ _ _ _ [.int ((sa (sa s4 286 (s4.1 124).toInt.toNat a1) 287 ((sa s4 286 (s4.1 124).toInt.toNat a1).1 124).toInt.toNat 0).1 124), .ref 213] _ _
    refine g_c [.int 1, .int ((sa (sa s4 286 (s4.1 124).toInt.toNat a1) 287 ((sa s4 286 (s4.1 124).toInt.toNat a1).1 124).toInt.toNat 0).1 124), .ref 213] (xo_push (.int 1)) rfl rfl ?_
    have ex8 := i_add (x := (sa (sa s4 286 (s4.1 124).toInt.toNat a1) 287 ((sa s4 286 (s4.1 124).toInt.toNat a1).1 124).toInt.toNat 0).1 124) (y := 1) rfl (show (1 : Int32).toInt = 1 by decide) h.1
    have cx8 := ck_add (x := (sa (sa s4 286 (s4.1 124).toInt.toNat a1) 287 ((sa s4 286 (s4.1 124).toInt.toNat a1).1 124).toInt.toNat 0).1 124) (y := 1) rfl (show (1 : Int32).toInt = 1 by decide) h.1
    replace h := h.2 _ ex8
    refine g_ca [.int (((sa (sa s4 286 (s4.1 124).toInt.toNat a1) 287 ((sa s4 286 (s4.1 124).toInt.toNat a1).1 124).toInt.toNat 0).1 124) + 1), .ref 213] xo_iadd rfl rfl (fun _ => cx8) ?_
    refine g_put rfl rfl rfl ?_
    replace h := h _ rfl
    exact g_ret0 rfl h
  · replace h := h.2 (fun q => hc ((i_le (x := s.2.1 276 a1.toInt.toNat) (y := a2) rfl rfl).mpr q))
    refine g_ld rfl rfl rfl ?_
    refine g_get rfl rfl ?_
    change Go _ _ _ _ _ _ [.ref 285] _ _
    refine g_ld rfl rfl rfl ?_
    refine g_ld rfl rfl rfl ?_
    refine g_get rfl rfl ?_
    change Go _ _ _ _ _ _ [.ref 264, .int a2, .ref 285] _ _
    refine g_ld rfl rfl rfl ?_
    refine g_get rfl rfl ?_
    change Go _ _ _ _ _ _ [.ref 275, .ref 264, .int a2, .ref 285] _ _
    refine g_ld rfl rfl rfl ?_
    refine g_ial rfl rfl (i_in (x := a1) rfl h.1) ?_
    change Go _ _ _ _ _ _ [.int (s.2.1 275 a1.toInt.toNat), .ref 264, .int a2, .ref 285] _ _
    replace h := h.2
    refine g_ld rfl rfl rfl ?_
    have ex10 := i_add (x := s.2.1 275 a1.toInt.toNat) (y := a2) rfl rfl h.1
    have cx10 := ck_add (x := s.2.1 275 a1.toInt.toNat) (y := a2) rfl rfl h.1
    replace h := h.2 _ ex10
    refine g_ca [.int ((s.2.1 275 a1.toInt.toNat) + a2), .ref 264, .int a2, .ref 285] xo_iadd rfl rfl (fun _ => cx10) ?_
    refine g_ial rfl rfl (i_in (x := ((s.2.1 275 a1.toInt.toNat) + a2)) rfl h.1) ?_
    change Go _ _ _ _ _ _ [.int (s.2.1 264 ((s.2.1 275 a1.toInt.toNat) + a2).toInt.toNat), .int a2, .ref 285] _ _
    replace h := h.2
    refine g_ias rfl rfl (i_in (x := a2) rfl h.1) ?_
    replace h := h.2
    replace h := h _ rfl
    have ex12 := i_add (x := a2) (y := 1) rfl (show (1 : Int32).toInt = 1 by decide) h.1
    have cx12 := ck_inc (x := a2) (n := 1) rfl h.1
    replace h := h.2 _ ex12
    refine g_inc [.ref 213, .int a1, .int (a2 + 1), .null, .null] rfl rfl rfl rfl cx12 ?_
    refine g_go rfl ?_
    exact r2 a1 (a2 + 1)  (sa s 285 a2.toInt.toNat (s.2.1 264 ((s.2.1 275 a1.toInt.toNat) + a2).toInt.toNat)) h
def wl_266_2 (T : Nat → List Value → yS → (Option Value → yS → Prop) → Prop)  (a1 : Int32) (a2 : Int32) (s : yS) (P : Option Value → yS → Prop) : Prop :=
  ∃ (I : Int32 → Int32 → yS → Prop) (μ : Int32 → Int32 → yS → Nat), I a1 a2 s ∧ ∀ (a1 : Int32) (a2 : Int32) (s : yS), I a1 a2 s → w_266_2 T (fun a1' a2' s' => I a1' a2' s' ∧ μ a1' a2' s' < μ a1 a2 s) a1 a2 s P
theorem kl_266_2 {d : Nat}  {a1 : Int32} {a2 : Int32} {s : yS} {P : Option Value → yS → Prop}  (h : wl_266_2 (Tot d)  a1 a2 s P) : Go d 3 (none) xE_266 (xE_266.drop 2) [.ref 213, .int a1, .int a2, .null, .null] [] s P := by
  obtain ⟨I, μ, h0, h1⟩ := h
  have key : ∀ (n : Nat) (a1 : Int32) (a2 : Int32) (s : yS), μ a1 a2 s = n → I a1 a2 s → Go d 3 (none) xE_266 (xE_266.drop 2) [.ref 213, .int a1, .int a2, .null, .null] [] s P := by
    intro n
    induction n using Nat.strongRecOn with
    | ind n ih =>
      intro a1 a2 s e hI
      exact k_266_2 (fun a1' a2' s' q => ih _ (by rw [← e]; exact q.2) _ _ _ rfl q.1) (h1 a1 a2 s hI)
  exact key _ a1 a2 s rfl h0
def w_266_0 (T : Nat → List Value → yS → (Option Value → yS → Prop) → Prop)  (a1 : Int32) (s : yS) (P : Option Value → yS → Prop) : Prop :=
  wl_266_2 T  a1 0  s P
set_option maxRecDepth 20000 in
theorem k_266_0 {d : Nat}  {a1 : Int32} {s : yS} {P : Option Value → yS → Prop}  (h : w_266_0 (Tot d)  a1 s P) : Go d 3 (none) xE_266 (xE_266.drop 0) [.ref 213, .int a1, .null, .null, .null] [] s P := by
  unfold w_266_0 at h
  refine g_c [.int 0] (xo_push (.int 0)) rfl rfl ?_
  refine g_st [.ref 213, .int a1, .int 0, .null, .null] rfl rfl rfl ?_
  exact kl_266_2  h
theorem t_266 {d : Nat} {a1 : Int32} {s : yS} {P : Option Value → yS → Prop} (h : w_266_0 (Tot d) a1 s P) : Tot (d + 1) 266 [.ref 213, .int a1] s P := tot_of (E := xE_266) (ml := 3) (ret := none) rfl rfl rfl (k_266_0 h)
/-! sayValue -/
def w_267_83 (T : Nat → List Value → yS → (Option Value → yS → Prop) → Prop) (R6 : Int32 → yS → Prop) (a1 : Int32) (a2 : Int32) (a3 : Int32) (s : yS) (P : Option Value → yS → Prop) : Prop :=
  R6 a1  s
set_option maxRecDepth 20000 in
theorem k_267_83 {d : Nat} {R6 : Int32 → yS → Prop} {a1 : Int32} {a2 : Int32} {a3 : Int32} {s : yS} {P : Option Value → yS → Prop} (r6 : ∀ a1 s, R6 a1 s → Go d 4 (none) xE_267 (xE_267.drop 6) [.ref 213, .int a1, .null, .null, .null, .null] [] s P) (h : w_267_83 (Tot d) R6 a1 a2 a3 s P) : Go d 4 (none) xE_267 (xE_267.drop 83) [.ref 213, .int a1, .int a2, .int a3, .null, .null] [] s P := by
  unfold w_267_83 at h
  refine g_go rfl ?_
  refine g_fg 2 ?_
  refine g_fg 3 ?_
  exact r6 a1  s h
def w_267_74 (T : Nat → List Value → yS → (Option Value → yS → Prop) → Prop) (R6 : Int32 → yS → Prop) (a1 : Int32) (a2 : Int32) (a3 : Int32) (s : yS) (P : Option Value → yS → Prop) : Prop :=
  T 261 [.ref 213, .int 125] s (fun v2 s1 => v2 = none ∧ ((-2147483648 ≤ (s1.1 124).toInt - 1 ∧ (s1.1 124).toInt - 1 ≤ 2147483647) ∧ (∀ x3 : Int32, x3.toInt = (s1.1 124).toInt - 1 → ∀ s4, s4 = sf s1 124 x3 → w_267_83 T R6 a1 a2 a3  s4 P)))
set_option maxRecDepth 20000 in
theorem k_267_74 {d : Nat} {R6 : Int32 → yS → Prop} {a1 : Int32} {a2 : Int32} {a3 : Int32} {s : yS} {P : Option Value → yS → Prop} (r6 : ∀ a1 s, R6 a1 s → Go d 4 (none) xE_267 (xE_267.drop 6) [.ref 213, .int a1, .null, .null, .null, .null] [] s P) (h : w_267_74 (Tot d) R6 a1 a2 a3 s P) : Go d 4 (none) xE_267 (xE_267.drop 74) [.ref 213, .int a1, .int a2, .int a3, .null, .null] [] s P := by
  unfold w_267_74 at h
  refine g_ld rfl rfl rfl ?_
  refine g_c [.int 125, .ref 213] (xo_push (.int 125)) rfl rfl ?_
  refine g_call [.ref 213, .int 125] [] rfl rfl rfl (Tot.imp h (fun v2 s1 h => ?_))
  obtain ⟨rfl, h⟩ := h
  change Go _ _ _ _ _ _ [] _ _
  refine g_ld rfl rfl rfl ?_
  refine g_c [.ref 213, .ref 213] xo_dup rfl rfl ?_
  refine g_get rfl rfl ?_
  change Go _ _ _ _ _ _ [.int (s1.1 124), .ref 213] _ _
  refine g_c [.int 1, .int (s1.1 124), .ref 213] (xo_push (.int 1)) rfl rfl ?_
  have ex3 := i_sub (x := s1.1 124) (y := 1) rfl (show (1 : Int32).toInt = 1 by decide) h.1
  have cx3 := ck_sub (x := s1.1 124) (y := 1) rfl (show (1 : Int32).toInt = 1 by decide) h.1
  replace h := h.2 _ ex3
  refine g_ca [.int ((s1.1 124) - 1), .ref 213] xo_isub rfl rfl (fun _ => cx3) ?_
  refine g_put rfl rfl rfl ?_
  replace h := h _ rfl
  exact k_267_83 r6 h
def w_267_52 (T : Nat → List Value → yS → (Option Value → yS → Prop) → Prop) (R6 : Int32 → yS → Prop) (a1 : Int32) (a2 : Int32) (a3 : Int32) (s : yS) (P : Option Value → yS → Prop) : Prop :=
  (-2147483648 ≤ (s.1 124).toInt - 1 ∧ (s.1 124).toInt - 1 ≤ 2147483647) ∧ (∀ x1 : Int32, x1.toInt = (s.1 124).toInt - 1 → (0 ≤ x1.toInt ∧ x1.toInt < 1100) ∧ ((-2147483648 ≤ (s.2.1 287 x1.toInt.toNat).toInt + 1 ∧ (s.2.1 287 x1.toInt.toNat).toInt + 1 ≤ 2147483647) ∧ (∀ x2 : Int32, x2.toInt = (s.2.1 287 x1.toInt.toNat).toInt + 1 → (0 ≤ x1.toInt ∧ x1.toInt < 1100) ∧ (∀ s3, s3 = sa s 287 x1.toInt.toNat x2 → (-2147483648 ≤ 6 * a2.toInt ∧ 6 * a2.toInt ≤ 2147483647) ∧ (∀ x4 : Int32, x4.toInt = 6 * a2.toInt → (-2147483648 ≤ x4.toInt + a3.toInt ∧ x4.toInt + a3.toInt ≤ 2147483647) ∧ (∀ x5 : Int32, x5.toInt = x4.toInt + a3.toInt → (0 ≤ x5.toInt ∧ x5.toInt < 30600) ∧ (T 266 [.ref 213, .int (s3.2.1 277 x5.toInt.toNat)] s3 (fun v7 s6 => v7 = none ∧ (w_267_83 T R6 a1 a2 a3  s6 P)))))))))
set_option maxRecDepth 20000 in
theorem k_267_52 {d : Nat} {R6 : Int32 → yS → Prop} {a1 : Int32} {a2 : Int32} {a3 : Int32} {s : yS} {P : Option Value → yS → Prop} (r6 : ∀ a1 s, R6 a1 s → Go d 4 (none) xE_267 (xE_267.drop 6) [.ref 213, .int a1, .null, .null, .null, .null] [] s P) (h : w_267_52 (Tot d) R6 a1 a2 a3 s P) : Go d 4 (none) xE_267 (xE_267.drop 52) [.ref 213, .int a1, .int a2, .int a3, .null, .null] [] s P := by
  unfold w_267_52 at h
  refine g_ld rfl rfl rfl ?_
  refine g_get rfl rfl ?_
  change Go _ _ _ _ _ _ [.ref 287] _ _
  refine g_ld rfl rfl rfl ?_
  refine g_get rfl rfl ?_
  change Go _ _ _ _ _ _ [.int (s.1 124), .ref 287] _ _
  refine g_c [.int 1, .int (s.1 124), .ref 287] (xo_push (.int 1)) rfl rfl ?_
  have ex1 := i_sub (x := s.1 124) (y := 1) rfl (show (1 : Int32).toInt = 1 by decide) h.1
  have cx1 := ck_sub (x := s.1 124) (y := 1) rfl (show (1 : Int32).toInt = 1 by decide) h.1
  replace h := h.2 _ ex1
  refine g_ca [.int ((s.1 124) - 1), .ref 287] xo_isub rfl rfl (fun _ => cx1) ?_
  refine g_c [.int ((s.1 124) - 1), .ref 287, .int ((s.1 124) - 1), .ref 287] xo_dup2 rfl rfl ?_
  refine g_ial rfl rfl (i_in (x := ((s.1 124) - 1)) rfl h.1) ?_
  change Go _ _ _ _ _ _ [.int (s.2.1 287 ((s.1 124) - 1).toInt.toNat), .int ((s.1 124) - 1), .ref 287] _ _
  replace h := h.2
  refine g_c [.int 1, .int (s.2.1 287 ((s.1 124) - 1).toInt.toNat), .int ((s.1 124) - 1), .ref 287] (xo_push (.int 1)) rfl rfl ?_
  have ex2 := i_add (x := s.2.1 287 ((s.1 124) - 1).toInt.toNat) (y := 1) rfl (show (1 : Int32).toInt = 1 by decide) h.1
  have cx2 := ck_add (x := s.2.1 287 ((s.1 124) - 1).toInt.toNat) (y := 1) rfl (show (1 : Int32).toInt = 1 by decide) h.1
  replace h := h.2 _ ex2
  refine g_ca [.int ((s.2.1 287 ((s.1 124) - 1).toInt.toNat) + 1), .int ((s.1 124) - 1), .ref 287] xo_iadd rfl rfl (fun _ => cx2) ?_
  refine g_ias rfl rfl (i_in (x := ((s.1 124) - 1)) rfl h.1) ?_
  replace h := h.2
  replace h := h _ rfl
  refine g_ld rfl rfl rfl ?_
  refine g_ld rfl rfl rfl ?_
  refine g_get rfl rfl ?_
  change Go _ _ _ _ _ _ [.ref 277, .ref 213] _ _
  refine g_c [.int 6, .ref 277, .ref 213] (xo_push (.int 6)) rfl rfl ?_
  refine g_ld rfl rfl rfl ?_
  have ex4 := i_mul (x := 6) (y := a2) (show (6 : Int32).toInt = 6 by decide) rfl h.1
  have cx4 := ck_mul (x := 6) (y := a2) (show (6 : Int32).toInt = 6 by decide) rfl h.1
  replace h := h.2 _ ex4
  refine g_ca [.int (6 * a2), .ref 277, .ref 213] xo_imul rfl rfl (fun _ => cx4) ?_
  refine g_ld rfl rfl rfl ?_
  have ex5 := i_add (x := (6 * a2)) (y := a3) rfl rfl h.1
  have cx5 := ck_add (x := (6 * a2)) (y := a3) rfl rfl h.1
  replace h := h.2 _ ex5
  refine g_ca [.int ((6 * a2) + a3), .ref 277, .ref 213] xo_iadd rfl rfl (fun _ => cx5) ?_
  refine g_ial rfl rfl (i_in (x := ((6 * a2) + a3)) rfl h.1) ?_
  change Go _ _ _ _ _ _ [.int ((sa s 287 ((s.1 124) - 1).toInt.toNat ((s.2.1 287 ((s.1 124) - 1).toInt.toNat) + 1)).2.1 277 ((6 * a2) + a3).toInt.toNat), .ref 213] _ _
  replace h := h.2
  refine g_call [.ref 213, .int ((sa s 287 ((s.1 124) - 1).toInt.toNat ((s.2.1 287 ((s.1 124) - 1).toInt.toNat) + 1)).2.1 277 ((6 * a2) + a3).toInt.toNat)] [] rfl rfl rfl (Tot.imp h (fun v7 s6 h => ?_))
  obtain ⟨rfl, h⟩ := h
  change Go _ _ _ _ _ _ [] _ _
  refine g_go rfl ?_
  exact k_267_83 r6 h
def w_267_6 (T : Nat → List Value → yS → (Option Value → yS → Prop) → Prop) (R6 : Int32 → yS → Prop) (a1 : Int32) (s : yS) (P : Option Value → yS → Prop) : Prop :=
  ((s.1 124).toInt ≤ 0 → P none s) ∧ (¬ ((s.1 124).toInt ≤ 0) → (-2147483648 ≤ (s.1 124).toInt - 1 ∧ (s.1 124).toInt - 1 ≤ 2147483647) ∧ (∀ x1 : Int32, x1.toInt = (s.1 124).toInt - 1 → (0 ≤ x1.toInt ∧ x1.toInt < 1100) ∧ ((-2147483648 ≤ (s.1 124).toInt - 1 ∧ (s.1 124).toInt - 1 ≤ 2147483647) ∧ (∀ x2 : Int32, x2.toInt = (s.1 124).toInt - 1 → (0 ≤ x2.toInt ∧ x2.toInt < 1100) ∧ ((-2147483648 ≤ 24 * (s.1 29).toInt ∧ 24 * (s.1 29).toInt ≤ 2147483647) ∧ (∀ x3 : Int32, x3.toInt = 24 * (s.1 29).toInt → (0 ≤ (s.2.1 286 x1.toInt.toNat).toInt ∧ (s.2.1 286 x1.toInt.toNat).toInt < 5100) ∧ ((0 ≤ (s.2.1 275 (s.2.1 286 x1.toInt.toNat).toInt.toNat).toInt ∧ (s.2.1 275 (s.2.1 286 x1.toInt.toNat).toInt.toNat).toInt < 200000) ∧ (T 185 [.int (s.2.1 264 (s.2.1 275 (s.2.1 286 x1.toInt.toNat).toInt.toNat).toInt.toNat)] s (fun v5 s4 => ∃ x6, v5 = some (.int x6) ∧ ((-2147483648 ≤ x3.toInt + x6.toInt ∧ x3.toInt + x6.toInt ≤ 2147483647) ∧ (∀ x7 : Int32, x7.toInt = x3.toInt + x6.toInt → (0 ≤ x7.toInt ∧ x7.toInt < 48) ∧ (((s4.2.1 239 x7.toInt.toNat).toInt ≤ (s.2.1 287 x2.toInt.toNat).toInt → w_267_74 T R6 a1 (s.2.1 286 x1.toInt.toNat) (s.2.1 287 x2.toInt.toNat)  s4 P) ∧ (¬ ((s4.2.1 239 x7.toInt.toNat).toInt ≤ (s.2.1 287 x2.toInt.toNat).toInt) → (2000 ≤ (s4.1 120).toInt → w_267_74 T R6 a1 (s.2.1 286 x1.toInt.toNat) (s.2.1 287 x2.toInt.toNat)  s4 P) ∧ (¬ (2000 ≤ (s4.1 120).toInt) → ((s.2.1 287 x2.toInt.toNat).toInt ≤ 0 → w_267_52 T R6 a1 (s.2.1 286 x1.toInt.toNat) (s.2.1 287 x2.toInt.toNat)  s4 P) ∧ (¬ ((s.2.1 287 x2.toInt.toNat).toInt ≤ 0) → T 261 [.ref 213, .int 44] s4 (fun v9 s8 => v9 = none ∧ (w_267_52 T R6 a1 (s.2.1 286 x1.toInt.toNat) (s.2.1 287 x2.toInt.toNat)  s8 P)))))))))))))))))
set_option maxRecDepth 20000 in
theorem k_267_6 {d : Nat} {R6 : Int32 → yS → Prop} {a1 : Int32} {s : yS} {P : Option Value → yS → Prop} (r6 : ∀ a1 s, R6 a1 s → Go d 4 (none) xE_267 (xE_267.drop 6) [.ref 213, .int a1, .null, .null, .null, .null] [] s P) (h : w_267_6 (Tot d) R6 a1 s P) : Go d 4 (none) xE_267 (xE_267.drop 6) [.ref 213, .int a1, .null, .null, .null, .null] [] s P := by
  unfold w_267_6 at h
  refine g_ld rfl rfl rfl ?_
  refine g_get rfl rfl ?_
  change Go _ _ _ _ _ _ [.int (s.1 124)] _ _
  refine g_brP rfl rfl ⟨fun hc => ?_, fun hc => ?_⟩
  · replace h := h.1 ((i_le (x := s.1 124) (y := 0) rfl (show (0 : Int32).toInt = 0 by decide)).mp hc)
    exact g_ret0 rfl h
  · replace h := h.2 (fun q => hc ((i_le (x := s.1 124) (y := 0) rfl (show (0 : Int32).toInt = 0 by decide)).mpr q))
    refine g_ld rfl rfl rfl ?_
    refine g_get rfl rfl ?_
    change Go _ _ _ _ _ _ [.ref 286] _ _
    refine g_ld rfl rfl rfl ?_
    refine g_get rfl rfl ?_
    change Go _ _ _ _ _ _ [.int (s.1 124), .ref 286] _ _
    refine g_c [.int 1, .int (s.1 124), .ref 286] (xo_push (.int 1)) rfl rfl ?_
    have ex1 := i_sub (x := s.1 124) (y := 1) rfl (show (1 : Int32).toInt = 1 by decide) h.1
    have cx1 := ck_sub (x := s.1 124) (y := 1) rfl (show (1 : Int32).toInt = 1 by decide) h.1
    replace h := h.2 _ ex1
    refine g_ca [.int ((s.1 124) - 1), .ref 286] xo_isub rfl rfl (fun _ => cx1) ?_
    refine g_ial rfl rfl (i_in (x := ((s.1 124) - 1)) rfl h.1) ?_
    change Go _ _ _ _ _ _ [.int (s.2.1 286 ((s.1 124) - 1).toInt.toNat)] _ _
    replace h := h.2
    refine g_st [.ref 213, .int a1, .int (s.2.1 286 ((s.1 124) - 1).toInt.toNat), .null, .null, .null] rfl rfl rfl ?_
    refine g_ld rfl rfl rfl ?_
    refine g_get rfl rfl ?_
    change Go _ _ _ _ _ _ [.ref 287] _ _
    refine g_ld rfl rfl rfl ?_
    refine g_get rfl rfl ?_
    change Go _ _ _ _ _ _ [.int (s.1 124), .ref 287] _ _
    refine g_c [.int 1, .int (s.1 124), .ref 287] (xo_push (.int 1)) rfl rfl ?_
    have ex2 := i_sub (x := s.1 124) (y := 1) rfl (show (1 : Int32).toInt = 1 by decide) h.1
    have cx2 := ck_sub (x := s.1 124) (y := 1) rfl (show (1 : Int32).toInt = 1 by decide) h.1
    replace h := h.2 _ ex2
    refine g_ca [.int ((s.1 124) - 1), .ref 287] xo_isub rfl rfl (fun _ => cx2) ?_
    refine g_ial rfl rfl (i_in (x := ((s.1 124) - 1)) rfl h.1) ?_
    change Go _ _ _ _ _ _ [.int (s.2.1 287 ((s.1 124) - 1).toInt.toNat)] _ _
    replace h := h.2
    refine g_st [.ref 213, .int a1, .int (s.2.1 286 ((s.1 124) - 1).toInt.toNat), .int (s.2.1 287 ((s.1 124) - 1).toInt.toNat), .null, .null] rfl rfl rfl ?_
    refine g_ld rfl rfl rfl ?_
    refine g_ld rfl rfl rfl ?_
    refine g_get rfl rfl ?_
    change Go _ _ _ _ _ _ [.ref 239, .int (s.2.1 287 ((s.1 124) - 1).toInt.toNat)] _ _
    refine g_c [.int 24, .ref 239, .int (s.2.1 287 ((s.1 124) - 1).toInt.toNat)] (xo_push (.int 24)) rfl rfl ?_
    refine g_ld rfl rfl rfl ?_
    refine g_get rfl rfl ?_
    change Go _ _ _ _ _ _ [.int (s.1 29), .int 24, .ref 239, .int (s.2.1 287 ((s.1 124) - 1).toInt.toNat)] _ _
    have ex3 := i_mul (x := 24) (y := s.1 29) (show (24 : Int32).toInt = 24 by decide) rfl h.1
    have cx3 := ck_mul (x := 24) (y := s.1 29) (show (24 : Int32).toInt = 24 by decide) rfl h.1
    replace h := h.2 _ ex3
    refine g_ca [.int (24 * (s.1 29)), .ref 239, .int (s.2.1 287 ((s.1 124) - 1).toInt.toNat)] xo_imul rfl rfl (fun _ => cx3) ?_
    refine g_ld rfl rfl rfl ?_
    refine g_get rfl rfl ?_
    change Go _ _ _ _ _ _ [.ref 264, .int (24 * (s.1 29)), .ref 239, .int (s.2.1 287 ((s.1 124) - 1).toInt.toNat)] _ _
    refine g_ld rfl rfl rfl ?_
    refine g_get rfl rfl ?_
    change Go _ _ _ _ _ _ [.ref 275, .ref 264, .int (24 * (s.1 29)), .ref 239, .int (s.2.1 287 ((s.1 124) - 1).toInt.toNat)] _ _
    refine g_ld rfl rfl rfl ?_
    refine g_ial rfl rfl (i_in (x := s.2.1 286 ((s.1 124) - 1).toInt.toNat) rfl h.1) ?_
    change Go _ _ _ _ _ _ [.int (s.2.1 275 (s.2.1 286 ((s.1 124) - 1).toInt.toNat).toInt.toNat), .ref 264, .int (24 * (s.1 29)), .ref 239, .int (s.2.1 287 ((s.1 124) - 1).toInt.toNat)] _ _
    replace h := h.2
    refine g_ial rfl rfl (i_in (x := s.2.1 275 (s.2.1 286 ((s.1 124) - 1).toInt.toNat).toInt.toNat) rfl h.1) ?_
    change Go _ _ _ _ _ _ [.int (s.2.1 264 (s.2.1 275 (s.2.1 286 ((s.1 124) - 1).toInt.toNat).toInt.toNat).toInt.toNat), .int (24 * (s.1 29)), .ref 239, .int (s.2.1 287 ((s.1 124) - 1).toInt.toNat)] _ _
    replace h := h.2
    refine g_call [.int (s.2.1 264 (s.2.1 275 (s.2.1 286 ((s.1 124) - 1).toInt.toNat).toInt.toNat).toInt.toNat)] [.int (24 * (s.1 29)), .ref 239, .int (s.2.1 287 ((s.1 124) - 1).toInt.toNat)] rfl rfl rfl (Tot.imp h (fun v5 s4 h => ?_))
    obtain ⟨x6, rfl, h⟩ := h
    change Go _ _ _ _ _ _ [.int x6, .int (24 * (s.1 29)), .ref 239, .int (s.2.1 287 ((s.1 124) - 1).toInt.toNat)] _ _
    have ex7 := i_add (x := (24 * (s.1 29))) (y := x6) rfl rfl h.1
    have cx7 := ck_add (x := (24 * (s.1 29))) (y := x6) rfl rfl h.1
    replace h := h.2 _ ex7
    refine g_ca [.int ((24 * (s.1 29)) + x6), .ref 239, .int (s.2.1 287 ((s.1 124) - 1).toInt.toNat)] xo_iadd rfl rfl (fun _ => cx7) ?_
    refine g_ial rfl rfl (i_in (x := ((24 * (s.1 29)) + x6)) rfl h.1) ?_
    change Go _ _ _ _ _ _ [.int (s4.2.1 239 ((24 * (s.1 29)) + x6).toInt.toNat), .int (s.2.1 287 ((s.1 124) - 1).toInt.toNat)] _ _
    replace h := h.2
    refine g_brP rfl rfl ⟨fun hc => ?_, fun hc => ?_⟩
    · replace h := h.1 ((i_le (x := s4.2.1 239 ((24 * (s.1 29)) + x6).toInt.toNat) (y := s.2.1 287 ((s.1 124) - 1).toInt.toNat) rfl rfl).mp hc)
      exact k_267_74 r6 h
    · replace h := h.2 (fun q => hc ((i_le (x := s4.2.1 239 ((24 * (s.1 29)) + x6).toInt.toNat) (y := s.2.1 287 ((s.1 124) - 1).toInt.toNat) rfl rfl).mpr q))
      refine g_ld rfl rfl rfl ?_
      refine g_get rfl rfl ?_
      change Go _ _ _ _ _ _ [.int (s4.1 120)] _ _
      refine g_c [.int 2000, .int (s4.1 120)] (xo_push (.int 2000)) rfl rfl ?_
      refine g_brP rfl rfl ⟨fun hc => ?_, fun hc => ?_⟩
      · replace h := h.1 ((i_le (x := 2000) (y := s4.1 120) (show (2000 : Int32).toInt = 2000 by decide) rfl).mp hc)
        exact k_267_74 r6 h
      · replace h := h.2 (fun q => hc ((i_le (x := 2000) (y := s4.1 120) (show (2000 : Int32).toInt = 2000 by decide) rfl).mpr q))
        refine g_ld rfl rfl rfl ?_
        refine g_brP rfl rfl ⟨fun hc => ?_, fun hc => ?_⟩
        · replace h := h.1 ((i_le (x := s.2.1 287 ((s.1 124) - 1).toInt.toNat) (y := 0) rfl (show (0 : Int32).toInt = 0 by decide)).mp hc)
          exact k_267_52 r6 h
        · replace h := h.2 (fun q => hc ((i_le (x := s.2.1 287 ((s.1 124) - 1).toInt.toNat) (y := 0) rfl (show (0 : Int32).toInt = 0 by decide)).mpr q))
          refine g_ld rfl rfl rfl ?_
          refine g_c [.int 44, .ref 213] (xo_push (.int 44)) rfl rfl ?_
          refine g_call [.ref 213, .int 44] [] rfl rfl rfl (Tot.imp h (fun v9 s8 h => ?_))
          obtain ⟨rfl, h⟩ := h
          change Go _ _ _ _ _ _ [] _ _
          exact k_267_52 r6 h
def wl_267_6 (T : Nat → List Value → yS → (Option Value → yS → Prop) → Prop)  (a1 : Int32) (s : yS) (P : Option Value → yS → Prop) : Prop :=
  ∃ (I : Int32 → yS → Prop) (μ : Int32 → yS → Nat), I a1 s ∧ ∀ (a1 : Int32) (s : yS), I a1 s → w_267_6 T (fun a1' s' => I a1' s' ∧ μ a1' s' < μ a1 s) a1 s P
theorem kl_267_6 {d : Nat}  {a1 : Int32} {s : yS} {P : Option Value → yS → Prop}  (h : wl_267_6 (Tot d)  a1 s P) : Go d 4 (none) xE_267 (xE_267.drop 6) [.ref 213, .int a1, .null, .null, .null, .null] [] s P := by
  obtain ⟨I, μ, h0, h1⟩ := h
  have key : ∀ (n : Nat) (a1 : Int32) (s : yS), μ a1 s = n → I a1 s → Go d 4 (none) xE_267 (xE_267.drop 6) [.ref 213, .int a1, .null, .null, .null, .null] [] s P := by
    intro n
    induction n using Nat.strongRecOn with
    | ind n ih =>
      intro a1 s e hI
      exact k_267_6 (fun a1' s' q => ih _ (by rw [← e]; exact q.2) _ _  rfl q.1) (h1 a1 s hI)
  exact key _ a1 s rfl h0
def w_267_0 (T : Nat → List Value → yS → (Option Value → yS → Prop) → Prop)  (a1 : Int32) (s : yS) (P : Option Value → yS → Prop) : Prop :=
  ∀ s1, s1 = sf s 124 0 → T 266 [.ref 213, .int a1] s1 (fun v3 s2 => v3 = none ∧ (wl_267_6 T  a1  s2 P))
set_option maxRecDepth 20000 in
theorem k_267_0 {d : Nat}  {a1 : Int32} {s : yS} {P : Option Value → yS → Prop}  (h : w_267_0 (Tot d)  a1 s P) : Go d 4 (none) xE_267 (xE_267.drop 0) [.ref 213, .int a1, .null, .null, .null, .null] [] s P := by
  unfold w_267_0 at h
  refine g_ld rfl rfl rfl ?_
  refine g_c [.int 0, .ref 213] (xo_push (.int 0)) rfl rfl ?_
  refine g_put rfl rfl rfl ?_
  replace h := h _ rfl
  refine g_ld rfl rfl rfl ?_
  refine g_ld rfl rfl rfl ?_
  refine g_call [.ref 213, .int a1] [] rfl rfl rfl (Tot.imp h (fun v3 s2 h => ?_))
  obtain ⟨rfl, h⟩ := h
  change Go _ _ _ _ _ _ [] _ _
  exact kl_267_6  h
theorem t_267 {d : Nat} {a1 : Int32} {s : yS} {P : Option Value → yS → Prop} (h : w_267_0 (Tot d) a1 s P) : Tot (d + 1) 267 [.ref 213, .int a1] s P := tot_of (E := xE_267) (ml := 4) (ret := none) rfl rfl rfl (k_267_0 h)
