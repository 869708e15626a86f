/-! print -/
def w_268_34 (T : Nat → List Value → yS → (Option Value → yS → Prop) → Prop) (R34 : Int32 → Int32 → yS → Prop) (a1 : Int32) (a2 : Int32) (s : yS) (P : Option Value → yS → Prop) : Prop :=
  (0 ≤ (s.1 29).toInt ∧ (s.1 29).toInt < 2) ∧ (((s.2.1 274 (s.1 29).toInt.toNat).toInt ≤ a2.toInt → T 265 [.ref 213, .int 0] s (fun v2 s1 => ∃ x3, v2 = some (.int x3) ∧ (P (some (.int (s1.1 120))) s1))) ∧ (¬ ((s.2.1 274 (s.1 29).toInt.toNat).toInt ≤ a2.toInt) → (-2147483648 ≤ 60 * (s.1 29).toInt ∧ 60 * (s.1 29).toInt ≤ 2147483647) ∧ (∀ x4 : Int32, x4.toInt = 60 * (s.1 29).toInt → (-2147483648 ≤ x4.toInt + a2.toInt ∧ x4.toInt + a2.toInt ≤ 2147483647) ∧ (∀ x5 : Int32, x5.toInt = x4.toInt + a2.toInt → (0 ≤ x5.toInt ∧ x5.toInt < 120) ∧ ((0 ≤ a2.toInt ∧ a2.toInt < 60) ∧ (∀ s6, s6 = sa s 285 a2.toInt.toNat (s.2.1 273 x5.toInt.toNat) → (-2147483648 ≤ a2.toInt + 1 ∧ a2.toInt + 1 ≤ 2147483647) ∧ (∀ x7 : Int32, x7.toInt = a2.toInt + 1 → R34 a1 x7  s6)))))))
set_option maxRecDepth 20000 in
theorem k_268_34 {d : Nat} {R34 : Int32 → Int32 → yS → Prop} {a1 : Int32} {a2 : Int32} {s : yS} {P : Option Value → yS → Prop} (r34 : ∀ a1 a2 s, R34 a1 a2 s → Go d 3 (some .int) xE_268 (xE_268.drop 34) [.ref 213, .int a1, .int a2, .null, .null] [] s P) (h : w_268_34 (Tot d) R34 a1 a2 s P) : Go d 3 (some .int) xE_268 (xE_268.drop 34) [.ref 213, .int a1, .int a2, .null, .null] [] s P := by
  unfold w_268_34 at h
  refine g_ld rfl rfl rfl ?_
  refine g_ld rfl rfl rfl ?_
  refine g_get rfl rfl ?_
  change Go _ _ _ _ _ _ [.ref 274, .int a2] _ _
  refine g_ld rfl rfl rfl ?_
  refine g_get rfl rfl ?_
  change Go _ _ _ _ _ _ [.int (s.1 29), .ref 274, .int a2] _ _
  refine g_ial rfl rfl (i_in (x := s.1 29) rfl h.1) ?_
  change Go _ _ _ _ _ _ [.int (s.2.1 274 (s.1 29).toInt.toNat), .int a2] _ _
  replace h := h.2
  refine g_brP rfl rfl ⟨fun hc => ?_, fun hc => ?_⟩
  · replace h := h.1 ((i_le (x := s.2.1 274 (s.1 29).toInt.toNat) (y := a2) rfl rfl).mp hc)
    refine g_ld rfl rfl rfl ?_
    refine g_c [.int 0, .ref 213] (xo_push (.int 0)) rfl rfl ?_
    refine g_call [.ref 213, .int 0] [] rfl rfl rfl (Tot.imp h (fun v2 s1 h => ?_))
    obtain ⟨x3, rfl, h⟩ := h
    change Go _ _ _ _ _ _ [.int x3] _ _
    refine g_st [.ref 213, .int a1, .int x3, .null, .null] rfl rfl rfl ?_
    refine g_ld rfl rfl rfl ?_
    refine g_get rfl rfl ?_
    change Go _ _ _ _ _ _ [.int (s1.1 120)] _ _
    exact g_retI rfl h
  · replace h := h.2 (fun q => hc ((i_le (x := s.2.1 274 (s.1 29).toInt.toNat) (y := a2) rfl rfl).mpr q))
    refine g_ld rfl rfl rfl ?_
    refine g_get rfl rfl ?_
    change Go _ _ _ _ _ _ [.ref 285] _ _
    refine g_ld rfl rfl rfl ?_
    refine g_ld rfl rfl rfl ?_
    refine g_get rfl rfl ?_
    change Go _ _ _ _ _ _ [.ref 273, .int a2, .ref 285] _ _
    refine g_c [.int 60, .ref 273, .int a2, .ref 285] (xo_push (.int 60)) rfl rfl ?_
    refine g_ld rfl rfl rfl ?_
    refine g_get rfl rfl ?_
    change Go _ _ _ _ _ _ [.int (s.1 29), .int 60, .ref 273, .int a2, .ref 285] _ _
    have ex4 := i_mul (x := 60) (y := s.1 29) (show (60 : Int32).toInt = 60 by decide) rfl h.1
    have cx4 := ck_mul (x := 60) (y := s.1 29) (show (60 : Int32).toInt = 60 by decide) rfl h.1
    replace h := h.2 _ ex4
    refine g_ca [.int (60 * (s.1 29)), .ref 273, .int a2, .ref 285] xo_imul rfl rfl (fun _ => cx4) ?_
    refine g_ld rfl rfl rfl ?_
    have ex5 := i_add (x := (60 * (s.1 29))) (y := a2) rfl rfl h.1
    have cx5 := ck_add (x := (60 * (s.1 29))) (y := a2) rfl rfl h.1
    replace h := h.2 _ ex5
    refine g_ca [.int ((60 * (s.1 29)) + a2), .ref 273, .int a2, .ref 285] xo_iadd rfl rfl (fun _ => cx5) ?_
    refine g_ial rfl rfl (i_in (x := ((60 * (s.1 29)) + a2)) rfl h.1) ?_
    change Go _ _ _ _ _ _ [.int (s.2.1 273 ((60 * (s.1 29)) + a2).toInt.toNat), .int a2, .ref 285] _ _
    replace h := h.2
    refine g_ias rfl rfl (i_in (x := a2) rfl h.1) ?_
    replace h := h.2
    replace h := h _ rfl
    have ex7 := i_add (x := a2) (y := 1) rfl (show (1 : Int32).toInt = 1 by decide) h.1
    have cx7 := ck_inc (x := a2) (n := 1) rfl h.1
    replace h := h.2 _ ex7
    refine g_inc [.ref 213, .int a1, .int (a2 + 1), .null, .null] rfl rfl rfl rfl cx7 ?_
    refine g_go rfl ?_
    exact r34 a1 (a2 + 1)  (sa s 285 a2.toInt.toNat (s.2.1 273 ((60 * (s.1 29)) + a2).toInt.toNat)) h
def wl_268_34 (T : Nat → List Value → yS → (Option Value → yS → Prop) → Prop)  (a1 : Int32) (a2 : Int32) (s : yS) (P : Option Value → yS → Prop) : Prop :=
  ∃ (I : Int32 → Int32 → yS → Prop) (μ : Int32 → Int32 → yS → Nat), I a1 a2 s ∧ ∀ (a1 : Int32) (a2 : Int32) (s : yS), I a1 a2 s → w_268_34 T (fun a1' a2' s' => I a1' a2' s' ∧ μ a1' a2' s' < μ a1 a2 s) a1 a2 s P
theorem kl_268_34 {d : Nat}  {a1 : Int32} {a2 : Int32} {s : yS} {P : Option Value → yS → Prop}  (h : wl_268_34 (Tot d)  a1 a2 s P) : Go d 3 (some .int) xE_268 (xE_268.drop 34) [.ref 213, .int a1, .int a2, .null, .null] [] s P := by
  obtain ⟨I, μ, h0, h1⟩ := h
  have key : ∀ (n : Nat) (a1 : Int32) (a2 : Int32) (s : yS), μ a1 a2 s = n → I a1 a2 s → Go d 3 (some .int) xE_268 (xE_268.drop 34) [.ref 213, .int a1, .int a2, .null, .null] [] s P := by
    intro n
    induction n using Nat.strongRecOn with
    | ind n ih =>
      intro a1 a2 s e hI
      exact k_268_34 (fun a1' a2' s' q => ih _ (by rw [← e]; exact q.2) _ _ _ rfl q.1) (h1 a1 a2 s hI)
  exact key _ a1 a2 s rfl h0
def w_268_19 (T : Nat → List Value → yS → (Option Value → yS → Prop) → Prop)  (a1 : Int32) (s : yS) (P : Option Value → yS → Prop) : Prop :=
  ∀ s1, s1 = sf s 120 0 → (¬ (a1.toInt = 1) → wl_268_34 T  a1 0  s1 P) ∧ (a1.toInt = 1 → T 267 [.ref 213, .int (s1.1 103)] s1 (fun v3 s2 => v3 = none ∧ (P (some (.int (s2.1 120))) s2)))
set_option maxRecDepth 20000 in
theorem k_268_19 {d : Nat}  {a1 : Int32} {s : yS} {P : Option Value → yS → Prop}  (h : w_268_19 (Tot d)  a1 s P) : Go d 3 (some .int) xE_268 (xE_268.drop 19) [.ref 213, .int a1, .null, .null, .null] [] s P := by
  unfold w_268_19 at h
  refine g_ld rfl rfl rfl ?_
  refine g_c [.int 0, .ref 213] (xo_push (.int 0)) rfl rfl ?_
  refine g_put rfl rfl rfl ?_
  replace h := h _ rfl
  refine g_ld rfl rfl rfl ?_
  refine g_c [.int 1, .int a1] (xo_push (.int 1)) rfl rfl ?_
  refine g_brN rfl rfl ⟨fun hc => ?_, fun hc => ?_⟩
  · replace h := h.1 (fun q => hc ((i_eq (x := a1) (y := 1) rfl (show (1 : Int32).toInt = 1 by decide)).mpr q))
    refine g_c [.int 0] (xo_push (.int 0)) rfl rfl ?_
    refine g_st [.ref 213, .int a1, .int 0, .null, .null] rfl rfl rfl ?_
    exact kl_268_34  h
  · replace h := h.2 ((i_eq (x := a1) (y := 1) rfl (show (1 : Int32).toInt = 1 by decide)).mp hc)
    refine g_ld rfl rfl rfl ?_
    refine g_ld rfl rfl rfl ?_
    refine g_get rfl rfl ?_
    change Go _ _ _ _ _ _ [.int ((sf s 120 0).1 103), .ref 213] _ _
    refine g_call [.ref 213, .int ((sf s 120 0).1 103)] [] rfl rfl rfl (Tot.imp h (fun v3 s2 h => ?_))
    obtain ⟨rfl, h⟩ := h
    change Go _ _ _ _ _ _ [] _ _
    refine g_ld rfl rfl rfl ?_
    refine g_get rfl rfl ?_
    change Go _ _ _ _ _ _ [.int (s2.1 120)] _ _
    exact g_retI rfl h
def w_268_17 (T : Nat → List Value → yS → (Option Value → yS → Prop) → Prop)  (a1 : Int32) (s : yS) (P : Option Value → yS → Prop) : Prop :=
  P (some (.int (-1))) s
set_option maxRecDepth 20000 in
theorem k_268_17 {d : Nat}  {a1 : Int32} {s : yS} {P : Option Value → yS → Prop}  (h : w_268_17 (Tot d)  a1 s P) : Go d 3 (some .int) xE_268 (xE_268.drop 17) [.ref 213, .int a1, .null, .null, .null] [] s P := by
  unfold w_268_17 at h
  refine g_c [.int (-1)] (xo_push (.int (-1))) rfl rfl ?_
  exact g_retI rfl h
def w_268_0 (T : Nat → List Value → yS → (Option Value → yS → Prop) → Prop)  (a1 : Int32) (s : yS) (P : Option Value → yS → Prop) : Prop :=
  ∀ s1, s1 = sf s 0 0 → ((s1.1 90).toInt = 0 → w_268_17 T  a1  s1 P) ∧ (¬ ((s1.1 90).toInt = 0) → (a1.toInt < 0 → w_268_17 T  a1  s1 P) ∧ (¬ (a1.toInt < 0) → (1 < a1.toInt → w_268_17 T  a1  s1 P) ∧ (¬ (1 < a1.toInt) → (¬ (a1.toInt = 1) → w_268_19 T  a1  s1 P) ∧ (a1.toInt = 1 → ((s1.1 91).toInt = 0 → w_268_19 T  a1  s1 P) ∧ (¬ ((s1.1 91).toInt = 0) → w_268_17 T  a1  s1 P)))))
set_option maxRecDepth 20000 in
theorem k_268_0 {d : Nat}  {a1 : Int32} {s : yS} {P : Option Value → yS → Prop}  (h : w_268_0 (Tot d)  a1 s P) : Go d 3 (some .int) xE_268 (xE_268.drop 0) [.ref 213, .int a1, .null, .null, .null] [] s P := by
  unfold w_268_0 at h
  refine g_ld rfl rfl rfl ?_
  refine g_c [.int 0, .ref 213] (xo_push (.int 0)) rfl rfl ?_
  refine g_put rfl rfl rfl ?_
  replace h := h _ rfl
  refine g_ld rfl rfl rfl ?_
  refine g_get rfl rfl ?_
  change Go _ _ _ _ _ _ [.int ((sf s 0 0).1 90)] _ _
  refine g_brP rfl rfl ⟨fun hc => ?_, fun hc => ?_⟩
  · replace h := h.1 ((i_eq (x := (sf s 0 0).1 90) (y := 0) rfl (show (0 : Int32).toInt = 0 by decide)).mp hc)
    exact k_268_17  h
  · replace h := h.2 (fun q => hc ((i_eq (x := (sf s 0 0).1 90) (y := 0) rfl (show (0 : Int32).toInt = 0 by decide)).mpr q))
    refine g_ld rfl rfl rfl ?_
    refine g_brP rfl rfl ⟨fun hc => ?_, fun hc => ?_⟩
    · replace h := h.1 ((i_lt (x := a1) (y := 0) rfl (show (0 : Int32).toInt = 0 by decide)).mp hc)
      exact k_268_17  h
    · replace h := h.2 (fun q => hc ((i_lt (x := a1) (y := 0) rfl (show (0 : Int32).toInt = 0 by decide)).mpr q))
      refine g_ld rfl rfl rfl ?_
      refine g_c [.int 1, .int a1] (xo_push (.int 1)) rfl rfl ?_
      refine g_brP rfl rfl ⟨fun hc => ?_, fun hc => ?_⟩
      · replace h := h.1 ((i_lt (x := 1) (y := a1) (show (1 : Int32).toInt = 1 by decide) rfl).mp hc)
        exact k_268_17  h
      · replace h := h.2 (fun q => hc ((i_lt (x := 1) (y := a1) (show (1 : Int32).toInt = 1 by decide) rfl).mpr q))
        refine g_ld rfl rfl rfl ?_
        refine g_c [.int 1, .int a1] (xo_push (.int 1)) rfl rfl ?_
        refine g_brN rfl rfl ⟨fun hc => ?_, fun hc => ?_⟩
        · replace h := h.1 (fun q => hc ((i_eq (x := a1) (y := 1) rfl (show (1 : Int32).toInt = 1 by decide)).mpr q))
          exact k_268_19  h
        · replace h := h.2 ((i_eq (x := a1) (y := 1) rfl (show (1 : Int32).toInt = 1 by decide)).mp hc)
          refine g_ld rfl rfl rfl ?_
          refine g_get rfl rfl ?_
          change Go _ _ _ _ _ _ [.int ((sf s 0 0).1 91)] _ _
          refine g_brP rfl rfl ⟨fun hc => ?_, fun hc => ?_⟩
          · replace h := h.1 ((i_eq (x := (sf s 0 0).1 91) (y := 0) rfl (show (0 : Int32).toInt = 0 by decide)).mp hc)
            exact k_268_19  h
          · replace h := h.2 (fun q => hc ((i_eq (x := (sf s 0 0).1 91) (y := 0) rfl (show (0 : Int32).toInt = 0 by decide)).mpr q))
            exact k_268_17  h
theorem t_268 {d : Nat} {a1 : Int32} {s : yS} {P : Option Value → yS → Prop} (h : w_268_0 (Tot d) a1 s P) : Tot (d + 1) 268 [.ref 213, .int a1] s P := tot_of (E := xE_268) (ml := 3) (ret := some .int) rfl rfl rfl (k_268_0 h)
/-! out -/
def w_269_15 (T : Nat → List Value → yS → (Option Value → yS → Prop) → Prop)  (a1 : Int32) (t0 : Int32) (s : yS) (P : Option Value → yS → Prop) : Prop :=
  P (some (.int t0)) s
set_option maxRecDepth 20000 in
theorem k_269_15 {d : Nat}  {a1 : Int32} {t0 : Int32} {s : yS} {P : Option Value → yS → Prop}  (h : w_269_15 (Tot d)  a1 t0 s P) : Go d 2 (some .int) xE_269 (xE_269.drop 15) [.ref 213, .int a1, .null, .null] [.int t0] s P := by
  unfold w_269_15 at h
  exact g_retI rfl h
def w_269_9 (T : Nat → List Value → yS → (Option Value → yS → Prop) → Prop)  (a1 : Int32) (s : yS) (P : Option Value → yS → Prop) : Prop :=
  w_269_15 T  a1 (-1) s P
set_option maxRecDepth 20000 in
theorem k_269_9 {d : Nat}  {a1 : Int32} {s : yS} {P : Option Value → yS → Prop}  (h : w_269_9 (Tot d)  a1 s P) : Go d 2 (some .int) xE_269 (xE_269.drop 9) [.ref 213, .int a1, .null, .null] [] s P := by
  unfold w_269_9 at h
  refine g_c [.int (-1)] (xo_push (.int (-1))) rfl rfl ?_
  refine g_go rfl ?_
  exact k_269_15  h
def w_269_0 (T : Nat → List Value → yS → (Option Value → yS → Prop) → Prop)  (a1 : Int32) (s : yS) (P : Option Value → yS → Prop) : Prop :=
  ∀ s1, s1 = sf s 0 0 → (a1.toInt < 0 → w_269_9 T  a1  s1 P) ∧ (¬ (a1.toInt < 0) → (a1.toInt < (s1.1 120).toInt → (0 ≤ a1.toInt ∧ a1.toInt < 2000) ∧ (w_269_15 T  a1 (s1.2.1 284 a1.toInt.toNat) s1 P)) ∧ (¬ (a1.toInt < (s1.1 120).toInt) → w_269_9 T  a1  s1 P))
set_option maxRecDepth 20000 in
theorem k_269_0 {d : Nat}  {a1 : Int32} {s : yS} {P : Option Value → yS → Prop}  (h : w_269_0 (Tot d)  a1 s P) : Go d 2 (some .int) xE_269 (xE_269.drop 0) [.ref 213, .int a1, .null, .null] [] s P := by
  unfold w_269_0 at h
  refine g_ld rfl rfl rfl ?_
  refine g_c [.int 0, .ref 213] (xo_push (.int 0)) rfl rfl ?_
  refine g_put rfl rfl rfl ?_
  replace h := h _ rfl
  refine g_ld rfl rfl rfl ?_
  refine g_brP rfl rfl ⟨fun hc => ?_, fun hc => ?_⟩
  · replace h := h.1 ((i_lt (x := a1) (y := 0) rfl (show (0 : Int32).toInt = 0 by decide)).mp hc)
    exact k_269_9  h
  · replace h := h.2 (fun q => hc ((i_lt (x := a1) (y := 0) rfl (show (0 : Int32).toInt = 0 by decide)).mpr q))
    refine g_ld rfl rfl rfl ?_
    refine g_ld rfl rfl rfl ?_
    refine g_get rfl rfl ?_
    change Go _ _ _ _ _ _ [.int ((sf s 0 0).1 120), .int a1] _ _
    refine g_brP rfl rfl ⟨fun hc => ?_, fun hc => ?_⟩
    · replace h := h.1 ((i_lt (x := a1) (y := (sf s 0 0).1 120) rfl rfl).mp hc)
      refine g_ld rfl rfl rfl ?_
      refine g_get rfl rfl ?_
      change Go _ _ _ _ _ _ [.ref 284] _ _
      refine g_ld rfl rfl rfl ?_
      refine g_ial rfl rfl (i_in (x := a1) rfl h.1) ?_
      change Go _ _ _ _ _ _ [.int ((sf s 0 0).2.1 284 a1.toInt.toNat)] _ _
      replace h := h.2
      exact k_269_15  h
    · replace h := h.2 (fun q => hc ((i_lt (x := a1) (y := (sf s 0 0).1 120) rfl rfl).mpr q))
      exact k_269_9  h
theorem t_269 {d : Nat} {a1 : Int32} {s : yS} {P : Option Value → yS → Prop} (h : w_269_0 (Tot d) a1 s P) : Tot (d + 1) 269 [.ref 213, .int a1] s P := tot_of (E := xE_269) (ml := 2) (ret := some .int) rfl rfl rfl (k_269_0 h)
/-! count -/
def w_270_32 (T : Nat → List Value → yS → (Option Value → yS → Prop) → Prop)  (a1 : Int32) (t0 : Int32) (s : yS) (P : Option Value → yS → Prop) : Prop :=
  P (some (.int t0)) s
set_option maxRecDepth 20000 in
theorem k_270_32 {d : Nat}  {a1 : Int32} {t0 : Int32} {s : yS} {P : Option Value → yS → Prop}  (h : w_270_32 (Tot d)  a1 t0 s P) : Go d 2 (some .int) xE_270 (xE_270.drop 32) [.ref 213, .int a1, .null, .null] [.int t0] s P := by
  unfold w_270_32 at h
  exact g_retI rfl h
def w_270_0 (T : Nat → List Value → yS → (Option Value → yS → Prop) → Prop)  (a1 : Int32) (s : yS) (P : Option Value → yS → Prop) : Prop :=
  ∀ s1, s1 = sf s 0 0 → (Int32.toInt a1 < 0 ∨ 5 < Int32.toInt a1 → P (some (.int (-1))) s1) ∧ (Int32.toInt a1 = 0 → (0 ≤ (s1.1 29).toInt ∧ (s1.1 29).toInt < 2) ∧ (P (some (.int (s1.2.1 233 (s1.1 29).toInt.toNat))) s1)) ∧ (Int32.toInt a1 = 1 → (0 ≤ (s1.1 29).toInt ∧ (s1.1 29).toInt < 2) ∧ (P (some (.int (s1.2.1 252 (s1.1 29).toInt.toNat))) s1)) ∧ (Int32.toInt a1 = 2 → P (some (.int (s1.1 94))) s1) ∧ (Int32.toInt a1 = 3 → P (some (.int (s1.1 95))) s1) ∧ (Int32.toInt a1 = 4 → P (some (.int (s1.1 2))) s1) ∧ (Int32.toInt a1 = 5 → ((s1.1 90).toInt = 0 → w_270_32 T  a1 0 s1 P) ∧ (¬ ((s1.1 90).toInt = 0) → w_270_32 T  a1 1 s1 P))
set_option maxRecDepth 20000 in
theorem k_270_0 {d : Nat}  {a1 : Int32} {s : yS} {P : Option Value → yS → Prop}  (h : w_270_0 (Tot d)  a1 s P) : Go d 2 (some .int) xE_270 (xE_270.drop 0) [.ref 213, .int a1, .null, .null] [] s P := by
  unfold w_270_0 at h
  refine g_ld rfl rfl rfl ?_
  refine g_c [.int 0, .ref 213] (xo_push (.int 0)) rfl rfl ?_
  refine g_put rfl rfl rfl ?_
  replace h := h _ rfl
  refine g_ld rfl rfl rfl ?_
  by_cases hx : Int32.toInt a1 < 0 ∨ 5 < Int32.toInt a1
  · refine g_sw ?_
    refine ⟨33, by rw [if_pos hx]; rfl, ?_⟩
    replace h := h.1 hx
    refine g_c [.int (-1)] (xo_push (.int (-1))) rfl rfl ?_
    exact g_retI rfl h
  · have hy : Int32.toInt a1 = 0 ∨ Int32.toInt a1 = 1 ∨ Int32.toInt a1 = 2 ∨ Int32.toInt a1 = 3 ∨ Int32.toInt a1 = 4 ∨ Int32.toInt a1 = 5 := by omega
    rcases hy with hy | hy | hy | hy | hy | hy
    · refine g_sw ?_
      refine ⟨5, by rw [if_neg hx, hy]; rfl, ?_⟩
      replace h := h.2.1 hy
      refine g_ld rfl rfl rfl ?_
      refine g_get rfl rfl ?_
      change Go _ _ _ _ _ _ [.ref 233] _ _
      refine g_ld rfl rfl rfl ?_
      refine g_get rfl rfl ?_
      change Go _ _ _ _ _ _ [.int ((sf s 0 0).1 29), .ref 233] _ _
      refine g_ial rfl rfl (i_in (x := (sf s 0 0).1 29) rfl h.1) ?_
      change Go _ _ _ _ _ _ [.int ((sf s 0 0).2.1 233 ((sf s 0 0).1 29).toInt.toNat)] _ _
      replace h := h.2
      exact g_retI rfl h
    · refine g_sw ?_
      refine ⟨11, by rw [if_neg hx, hy]; rfl, ?_⟩
      replace h := h.2.2.1 hy
      refine g_ld rfl rfl rfl ?_
      refine g_get rfl rfl ?_
      change Go _ _ _ _ _ _ [.ref 252] _ _
      refine g_ld rfl rfl rfl ?_
      refine g_get rfl rfl ?_
      change Go _ _ _ _ _ _ [.int ((sf s 0 0).1 29), .ref 252] _ _
      refine g_ial rfl rfl (i_in (x := (sf s 0 0).1 29) rfl h.1) ?_
      change Go _ _ _ _ _ _ [.int ((sf s 0 0).2.1 252 ((sf s 0 0).1 29).toInt.toNat)] _ _
      replace h := h.2
      exact g_retI rfl h
    · refine g_sw ?_
      refine ⟨17, by rw [if_neg hx, hy]; rfl, ?_⟩
      replace h := h.2.2.2.1 hy
      refine g_ld rfl rfl rfl ?_
      refine g_get rfl rfl ?_
      change Go _ _ _ _ _ _ [.int ((sf s 0 0).1 94)] _ _
      exact g_retI rfl h
    · refine g_sw ?_
      refine ⟨20, by rw [if_neg hx, hy]; rfl, ?_⟩
      replace h := h.2.2.2.2.1 hy
      refine g_ld rfl rfl rfl ?_
      refine g_get rfl rfl ?_
      change Go _ _ _ _ _ _ [.int ((sf s 0 0).1 95)] _ _
      exact g_retI rfl h
    · refine g_sw ?_
      refine ⟨23, by rw [if_neg hx, hy]; rfl, ?_⟩
      replace h := h.2.2.2.2.2.1 hy
      refine g_ld rfl rfl rfl ?_
      refine g_get rfl rfl ?_
      change Go _ _ _ _ _ _ [.int ((sf s 0 0).1 2)] _ _
      exact g_retI rfl h
    · refine g_sw ?_
      refine ⟨26, by rw [if_neg hx, hy]; rfl, ?_⟩
      replace h := h.2.2.2.2.2.2 hy
      refine g_ld rfl rfl rfl ?_
      refine g_get rfl rfl ?_
      change Go _ _ _ _ _ _ [.int ((sf s 0 0).1 90)] _ _
      refine g_brP rfl rfl ⟨fun hc => ?_, fun hc => ?_⟩
      · replace h := h.1 ((i_eq (x := (sf s 0 0).1 90) (y := 0) rfl (show (0 : Int32).toInt = 0 by decide)).mp hc)
        refine g_c [.int 0] (xo_push (.int 0)) rfl rfl ?_
        exact k_270_32  h
      · replace h := h.2 (fun q => hc ((i_eq (x := (sf s 0 0).1 90) (y := 0) rfl (show (0 : Int32).toInt = 0 by decide)).mpr q))
        refine g_c [.int 1] (xo_push (.int 1)) rfl rfl ?_
        refine g_go rfl ?_
        exact k_270_32  h
theorem t_270 {d : Nat} {a1 : Int32} {s : yS} {P : Option Value → yS → Prop} (h : w_270_0 (Tot d) a1 s P) : Tot (d + 1) 270 [.ref 213, .int a1] s P := tot_of (E := xE_270) (ml := 2) (ret := some .int) rfl rfl rfl (k_270_0 h)
