/-! readFormals -/
def w_181_58 (T : Nat → List Value → yS → (Option Value → yS → Prop) → Prop)  (a1 : Nat) (a2 : Nat) (a3 : Int32) (a4 : Int32) (a5 : Int32) (s : yS) (P : Option Value → yS → Prop) : Prop :=
  T 167 [.ref 213, .int 93] s (fun v2 s1 => v2 = none ∧ (P (some (.int a4)) s1))
set_option maxRecDepth 20000 in
theorem k_181_58 {d : Nat}  {a1 : Nat} {a2 : Nat} {a3 : Int32} {a4 : Int32} {a5 : Int32} {s : yS} {P : Option Value → yS → Prop}  (h : w_181_58 (Tot d)  a1 a2 a3 a4 a5 s P) : Go d 8 (some .int) xE_181 (xE_181.drop 58) [.ref 213, .ref a1, .ref a2, .int a3, .int a4, .int a5, .null, .null, .null, .null, .null, .null] [] s P := by
  unfold w_181_58 at h
  refine g_ld rfl rfl rfl ?_
  refine g_c [.int 93, .ref 213] (xo_push (.int 93)) rfl rfl ?_
  refine g_call [.ref 213, .int 93] [] rfl rfl rfl (Tot.imp h (fun v2 s1 h => ?_))
  obtain ⟨rfl, h⟩ := h
  change Go _ _ _ _ _ _ [] _ _
  refine g_ld rfl rfl rfl ?_
  exact g_retI rfl h
def w_181_53 (T : Nat → List Value → yS → (Option Value → yS → Prop) → Prop) (R7 : Nat → Nat → Int32 → Int32 → Int32 → yS → Prop) (a1 : Nat) (a2 : Nat) (a3 : Int32) (a4 : Int32) (a5 : Int32) (a6 : Int32) (a7 : Int32) (s : yS) (P : Option Value → yS → Prop) : Prop :=
  T 168 [.ref 213, .int 44] s (fun v2 s1 => ∃ x3, v2 = some (.int x3) ∧ (R7 a1 a2 a3 a4 x3  s1))
set_option maxRecDepth 20000 in
theorem k_181_53 {d : Nat} {R7 : Nat → Nat → Int32 → Int32 → Int32 → yS → Prop} {a1 : Nat} {a2 : Nat} {a3 : Int32} {a4 : Int32} {a5 : Int32} {a6 : Int32} {a7 : Int32} {s : yS} {P : Option Value → yS → Prop} (r7 : ∀ a1 a2 a3 a4 a5 s, R7 a1 a2 a3 a4 a5 s → Go d 8 (some .int) xE_181 (xE_181.drop 7) [.ref 213, .ref a1, .ref a2, .int a3, .int a4, .int a5, .null, .null, .null, .null, .null, .null] [] s P) (h : w_181_53 (Tot d) R7 a1 a2 a3 a4 a5 a6 a7 s P) : Go d 8 (some .int) xE_181 (xE_181.drop 53) [.ref 213, .ref a1, .ref a2, .int a3, .int a4, .int a5, .int a6, .int a7, .null, .null, .null, .null] [] s P := by
  unfold w_181_53 at h
  refine g_ld rfl rfl rfl ?_
  refine g_c [.int 44, .ref 213] (xo_push (.int 44)) rfl rfl ?_
  refine g_call [.ref 213, .int 44] [] rfl rfl rfl (Tot.imp h (fun v2 s1 h => ?_))
  obtain ⟨x3, rfl, h⟩ := h
  change Go _ _ _ _ _ _ [.int x3] _ _
  refine g_st [.ref 213, .ref a1, .ref a2, .int a3, .int a4, .int x3, .int a6, .int a7, .null, .null, .null, .null] rfl rfl rfl ?_
  refine g_go rfl ?_
  refine g_fg 6 ?_
  refine g_fg 7 ?_
  exact r7 a1 a2 a3 a4 x3  s1 h
def w_181_36 (T : Nat → List Value → yS → (Option Value → yS → Prop) → Prop) (R7 : Nat → Nat → Int32 → Int32 → Int32 → yS → Prop) (a1 : Nat) (a2 : Nat) (a3 : Int32) (a4 : Int32) (a5 : Int32) (a6 : Int32) (t0 : Int32) (s : yS) (P : Option Value → yS → Prop) : Prop :=
  (¬ ((s.1 8).toInt = 0) → w_181_53 T R7 a1 a2 a3 a4 a5 a6 t0  s P) ∧ ((s.1 8).toInt = 0 → (-2147483648 ≤ a3.toInt + a4.toInt ∧ a3.toInt + a4.toInt ≤ 2147483647) ∧ (∀ x1 : Int32, x1.toInt = a3.toInt + a4.toInt → ∃ n, ytab a1 = some (0, n) ∧ (0 ≤ x1.toInt ∧ x1.toInt < (n : Int)) ∧ (∀ s2, s2 = sa s a1 x1.toInt.toNat a6 → (-2147483648 ≤ a3.toInt + a4.toInt ∧ a3.toInt + a4.toInt ≤ 2147483647) ∧ (∀ x3 : Int32, x3.toInt = a3.toInt + a4.toInt → ∃ n, ytab a2 = some (0, n) ∧ (0 ≤ x3.toInt ∧ x3.toInt < (n : Int)) ∧ (∀ s4, s4 = sa s2 a2 x3.toInt.toNat t0 → (-2147483648 ≤ a4.toInt + 1 ∧ a4.toInt + 1 ≤ 2147483647) ∧ (∀ x5 : Int32, x5.toInt = a4.toInt + 1 → w_181_53 T R7 a1 a2 a3 x5 a5 a6 t0  s4 P))))))
set_option maxRecDepth 20000 in
theorem k_181_36 {d : Nat} {R7 : Nat → Nat → Int32 → Int32 → Int32 → yS → Prop} {a1 : Nat} {a2 : Nat} {a3 : Int32} {a4 : Int32} {a5 : Int32} {a6 : Int32} {t0 : Int32} {s : yS} {P : Option Value → yS → Prop} (r7 : ∀ a1 a2 a3 a4 a5 s, R7 a1 a2 a3 a4 a5 s → Go d 8 (some .int) xE_181 (xE_181.drop 7) [.ref 213, .ref a1, .ref a2, .int a3, .int a4, .int a5, .null, .null, .null, .null, .null, .null] [] s P) (h : w_181_36 (Tot d) R7 a1 a2 a3 a4 a5 a6 t0 s P) : Go d 8 (some .int) xE_181 (xE_181.drop 36) [.ref 213, .ref a1, .ref a2, .int a3, .int a4, .int a5, .int a6, .null, .null, .null, .null, .null] [.int t0] s P := by
  unfold w_181_36 at h
  refine g_st [.ref 213, .ref a1, .ref a2, .int a3, .int a4, .int a5, .int a6, .int t0, .null, .null, .null, .null] rfl rfl rfl ?_
  refine g_ld rfl rfl rfl ?_
  refine g_get rfl rfl ?_
  change Go _ _ _ _ _ _ [.int (s.1 8)] _ _
  refine g_brN rfl rfl ⟨fun hc => ?_, fun hc => ?_⟩
  · replace h := h.1 (fun q => hc ((i_eq (x := s.1 8) (y := 0) rfl (show (0 : Int32).toInt = 0 by decide)).mpr q))
    exact k_181_53 r7 h
  · replace h := h.2 ((i_eq (x := s.1 8) (y := 0) rfl (show (0 : Int32).toInt = 0 by decide)).mp hc)
    refine g_ld rfl rfl rfl ?_
    refine g_ld rfl rfl rfl ?_
    refine g_ld rfl rfl rfl ?_
    have ex1 := i_add (x := a3) (y := a4) rfl rfl h.1
    have cx1 := ck_add (x := a3) (y := a4) rfl rfl h.1
    replace h := h.2 _ ex1
    refine g_ca [.int (a3 + a4), .ref a1] xo_iadd rfl rfl (fun _ => cx1) ?_
    refine g_ld rfl rfl rfl ?_
    obtain ⟨n, hn, h⟩ := h
    refine g_ias rfl hn (i_in (x := (a3 + a4)) rfl h.1) ?_
    replace h := h.2
    replace h := h _ rfl
    refine g_ld rfl rfl rfl ?_
    refine g_ld rfl rfl rfl ?_
    refine g_ld rfl rfl rfl ?_
    have ex3 := i_add (x := a3) (y := a4) rfl rfl h.1
    have cx3 := ck_add (x := a3) (y := a4) rfl rfl h.1
    replace h := h.2 _ ex3
    refine g_ca [.int (a3 + a4), .ref a2] xo_iadd rfl rfl (fun _ => cx3) ?_
    refine g_ld rfl rfl rfl ?_
    obtain ⟨n, hn, h⟩ := h
    refine g_ias rfl hn (i_in (x := (a3 + a4)) rfl h.1) ?_
    replace h := h.2
    replace h := h _ rfl
    have ex5 := i_add (x := a4) (y := 1) rfl (show (1 : Int32).toInt = 1 by decide) h.1
    have cx5 := ck_inc (x := a4) (n := 1) rfl h.1
    replace h := h.2 _ ex5
    refine g_inc [.ref 213, .ref a1, .ref a2, .int a3, .int (a4 + 1), .int a5, .int a6, .int t0, .null, .null, .null, .null] rfl rfl rfl rfl cx5 ?_
    exact k_181_53 r7 h
def w_181_23 (T : Nat → List Value → yS → (Option Value → yS → Prop) → Prop) (R7 : Nat → Nat → Int32 → Int32 → Int32 → yS → Prop) (a1 : Nat) (a2 : Nat) (a3 : Int32) (a4 : Int32) (a5 : Int32) (s : yS) (P : Option Value → yS → Prop) : Prop :=
  T 170 [.ref 213] s (fun v2 s1 => ∃ x3, v2 = some (.int x3) ∧ (∀ s4, s4 = sf s1 27 0 → (¬ ((s4.1 8).toInt = 0) → w_181_36 T R7 a1 a2 a3 a4 a5 x3 (-1) s4 P) ∧ ((s4.1 8).toInt = 0 → T 173 [.ref 213] s4 (fun v6 s5 => ∃ x7, v6 = some (.int x7) ∧ (w_181_36 T R7 a1 a2 a3 a4 a5 x3 x7 s5 P)))))
set_option maxRecDepth 20000 in
theorem k_181_23 {d : Nat} {R7 : Nat → Nat → Int32 → Int32 → Int32 → yS → Prop} {a1 : Nat} {a2 : Nat} {a3 : Int32} {a4 : Int32} {a5 : Int32} {s : yS} {P : Option Value → yS → Prop} (r7 : ∀ a1 a2 a3 a4 a5 s, R7 a1 a2 a3 a4 a5 s → Go d 8 (some .int) xE_181 (xE_181.drop 7) [.ref 213, .ref a1, .ref a2, .int a3, .int a4, .int a5, .null, .null, .null, .null, .null, .null] [] s P) (h : w_181_23 (Tot d) R7 a1 a2 a3 a4 a5 s P) : Go d 8 (some .int) xE_181 (xE_181.drop 23) [.ref 213, .ref a1, .ref a2, .int a3, .int a4, .int a5, .null, .null, .null, .null, .null, .null] [] s P := by
  unfold w_181_23 at h
  refine g_ld rfl rfl rfl ?_
  refine g_call [.ref 213] [] rfl rfl rfl (Tot.imp h (fun v2 s1 h => ?_))
  obtain ⟨x3, rfl, h⟩ := h
  change Go _ _ _ _ _ _ [.int x3] _ _
  refine g_st [.ref 213, .ref a1, .ref a2, .int a3, .int a4, .int a5, .int x3, .null, .null, .null, .null, .null] rfl rfl rfl ?_
  refine g_ld rfl rfl rfl ?_
  refine g_c [.int 0, .ref 213] (xo_push (.int 0)) rfl rfl ?_
  refine g_put rfl rfl rfl ?_
  replace h := h _ rfl
  refine g_ld rfl rfl rfl ?_
  refine g_get rfl rfl ?_
  change Go _ _ _ _ _ _ [.int ((sf s1 27 0).1 8)] _ _
  refine g_brN rfl rfl ⟨fun hc => ?_, fun hc => ?_⟩
  · replace h := h.1 (fun q => hc ((i_eq (x := (sf s1 27 0).1 8) (y := 0) rfl (show (0 : Int32).toInt = 0 by decide)).mpr q))
    refine g_c [.int (-1)] (xo_push (.int (-1))) rfl rfl ?_
    exact k_181_36 r7 h
  · replace h := h.2 ((i_eq (x := (sf s1 27 0).1 8) (y := 0) rfl (show (0 : Int32).toInt = 0 by decide)).mp hc)
    refine g_ld rfl rfl rfl ?_
    refine g_call [.ref 213] [] rfl rfl rfl (Tot.imp h (fun v6 s5 h => ?_))
    obtain ⟨x7, rfl, h⟩ := h
    change Go _ _ _ _ _ _ [.int x7] _ _
    refine g_go rfl ?_
    exact k_181_36 r7 h
def w_181_7 (T : Nat → List Value → yS → (Option Value → yS → Prop) → Prop) (R7 : Nat → Nat → Int32 → Int32 → Int32 → yS → Prop) (a1 : Nat) (a2 : Nat) (a3 : Int32) (a4 : Int32) (a5 : Int32) (s : yS) (P : Option Value → yS → Prop) : Prop :=
  (a5.toInt = 0 → w_181_58 T  a1 a2 a3 a4 a5  s P) ∧ (¬ (a5.toInt = 0) → (¬ ((s.1 8).toInt = 0) → w_181_58 T  a1 a2 a3 a4 a5  s P) ∧ ((s.1 8).toInt = 0 → (¬ (a4.toInt = 6) → w_181_23 T R7 a1 a2 a3 a4 a5  s P) ∧ (a4.toInt = 6 → T 166 [.ref 213] s (fun v2 s1 => ∃ x3, v2 = some (.int x3) ∧ ((x3.toInt = 0 → w_181_23 T R7 a1 a2 a3 a4 a5  s1 P) ∧ (¬ (x3.toInt = 0) → T 163 [.ref 213, .int 5, .int (s1.1 7)] s1 (fun v5 s4 => v5 = none ∧ (w_181_23 T R7 a1 a2 a3 a4 a5  s4 P))))))))
set_option maxRecDepth 20000 in
theorem k_181_7 {d : Nat} {R7 : Nat → Nat → Int32 → Int32 → Int32 → yS → Prop} {a1 : Nat} {a2 : Nat} {a3 : Int32} {a4 : Int32} {a5 : Int32} {s : yS} {P : Option Value → yS → Prop} (r7 : ∀ a1 a2 a3 a4 a5 s, R7 a1 a2 a3 a4 a5 s → Go d 8 (some .int) xE_181 (xE_181.drop 7) [.ref 213, .ref a1, .ref a2, .int a3, .int a4, .int a5, .null, .null, .null, .null, .null, .null] [] s P) (h : w_181_7 (Tot d) R7 a1 a2 a3 a4 a5 s P) : Go d 8 (some .int) xE_181 (xE_181.drop 7) [.ref 213, .ref a1, .ref a2, .int a3, .int a4, .int a5, .null, .null, .null, .null, .null, .null] [] s P := by
  unfold w_181_7 at h
  refine g_ld rfl rfl rfl ?_
  refine g_brP rfl rfl ⟨fun hc => ?_, fun hc => ?_⟩
  · replace h := h.1 ((i_eq (x := a5) (y := 0) rfl (show (0 : Int32).toInt = 0 by decide)).mp hc)
    exact k_181_58  h
  · replace h := h.2 (fun q => hc ((i_eq (x := a5) (y := 0) rfl (show (0 : Int32).toInt = 0 by decide)).mpr q))
    refine g_ld rfl rfl rfl ?_
    refine g_get rfl rfl ?_
    change Go _ _ _ _ _ _ [.int (s.1 8)] _ _
    refine g_brN rfl rfl ⟨fun hc => ?_, fun hc => ?_⟩
    · replace h := h.1 (fun q => hc ((i_eq (x := s.1 8) (y := 0) rfl (show (0 : Int32).toInt = 0 by decide)).mpr q))
      exact k_181_58  h
    · replace h := h.2 ((i_eq (x := s.1 8) (y := 0) rfl (show (0 : Int32).toInt = 0 by decide)).mp hc)
      refine g_ld rfl rfl rfl ?_
      refine g_c [.int 6, .int a4] (xo_push (.int 6)) rfl rfl ?_
      refine g_brN rfl rfl ⟨fun hc => ?_, fun hc => ?_⟩
      · replace h := h.1 (fun q => hc ((i_eq (x := a4) (y := 6) rfl (show (6 : Int32).toInt = 6 by decide)).mpr q))
        exact k_181_23 r7 h
      · replace h := h.2 ((i_eq (x := a4) (y := 6) rfl (show (6 : Int32).toInt = 6 by decide)).mp hc)
        refine g_ld rfl rfl rfl ?_
        refine g_call [.ref 213] [] rfl rfl rfl (Tot.imp h (fun v2 s1 h => ?_))
        obtain ⟨x3, rfl, h⟩ := h
        change Go _ _ _ _ _ _ [.int x3] _ _
        refine g_brP rfl rfl ⟨fun hc => ?_, fun hc => ?_⟩
        · replace h := h.1 ((i_eq (x := x3) (y := 0) rfl (show (0 : Int32).toInt = 0 by decide)).mp hc)
          exact k_181_23 r7 h
        · replace h := h.2 (fun q => hc ((i_eq (x := x3) (y := 0) rfl (show (0 : Int32).toInt = 0 by decide)).mpr q))
          refine g_ld rfl rfl rfl ?_
          refine g_c [.int 5, .ref 213] (xo_push (.int 5)) rfl rfl ?_
          refine g_ld rfl rfl rfl ?_
          refine g_get rfl rfl ?_
          change Go _ _ _ _ _ _ [.int (s1.1 7), .int 5, .ref 213] _ _
          refine g_call [.ref 213, .int 5, .int (s1.1 7)] [] rfl rfl rfl (Tot.imp h (fun v5 s4 h => ?_))
          obtain ⟨rfl, h⟩ := h
          change Go _ _ _ _ _ _ [] _ _
          exact k_181_23 r7 h
def wl_181_7 (T : Nat → List Value → yS → (Option Value → yS → Prop) → Prop)  (a1 : Nat) (a2 : Nat) (a3 : Int32) (a4 : Int32) (a5 : Int32) (s : yS) (P : Option Value → yS → Prop) : Prop :=
  ∃ (I : Nat → Nat → Int32 → Int32 → Int32 → yS → Prop) (μ : Nat → Nat → Int32 → Int32 → Int32 → yS → Nat), I a1 a2 a3 a4 a5 s ∧ ∀ (a1 : Nat) (a2 : Nat) (a3 : Int32) (a4 : Int32) (a5 : Int32) (s : yS), I a1 a2 a3 a4 a5 s → w_181_7 T (fun a1' a2' a3' a4' a5' s' => I a1' a2' a3' a4' a5' s' ∧ μ a1' a2' a3' a4' a5' s' < μ a1 a2 a3 a4 a5 s) a1 a2 a3 a4 a5 s P
theorem kl_181_7 {d : Nat}  {a1 : Nat} {a2 : Nat} {a3 : Int32} {a4 : Int32} {a5 : Int32} {s : yS} {P : Option Value → yS → Prop}  (h : wl_181_7 (Tot d)  a1 a2 a3 a4 a5 s P) : Go d 8 (some .int) xE_181 (xE_181.drop 7) [.ref 213, .ref a1, .ref a2, .int a3, .int a4, .int a5, .null, .null, .null, .null, .null, .null] [] s P := by
  obtain ⟨I, μ, h0, h1⟩ := h
  have key : ∀ (n : Nat) (a1 : Nat) (a2 : Nat) (a3 : Int32) (a4 : Int32) (a5 : Int32) (s : yS), μ a1 a2 a3 a4 a5 s = n → I a1 a2 a3 a4 a5 s → Go d 8 (some .int) xE_181 (xE_181.drop 7) [.ref 213, .ref a1, .ref a2, .int a3, .int a4, .int a5, .null, .null, .null, .null, .null, .null] [] s P := by
    intro n
    induction n using Nat.strongRecOn with
    | ind n ih =>
      intro a1 a2 a3 a4 a5 s e hI
      exact k_181_7 (fun a1' a2' a3' a4' a5' s' q => ih _ (by rw [← e]; exact q.2) _ _ _ _ _ _ rfl q.1) (h1 a1 a2 a3 a4 a5 s hI)
  exact key _ a1 a2 a3 a4 a5 s rfl h0
def w_181_0 (T : Nat → List Value → yS → (Option Value → yS → Prop) → Prop)  (a1 : Nat) (a2 : Nat) (a3 : Int32) (s : yS) (P : Option Value → yS → Prop) : Prop :=
  T 167 [.ref 213, .int 91] s (fun v2 s1 => v2 = none ∧ (wl_181_7 T  a1 a2 a3 0 1  s1 P))
set_option maxRecDepth 20000 in
theorem k_181_0 {d : Nat}  {a1 : Nat} {a2 : Nat} {a3 : Int32} {s : yS} {P : Option Value → yS → Prop}  (h : w_181_0 (Tot d)  a1 a2 a3 s P) : Go d 8 (some .int) xE_181 (xE_181.drop 0) [.ref 213, .ref a1, .ref a2, .int a3, .null, .null, .null, .null, .null, .null, .null, .null] [] s P := by
  unfold w_181_0 at h
  refine g_ld rfl rfl rfl ?_
  refine g_c [.int 91, .ref 213] (xo_push (.int 91)) rfl rfl ?_
  refine g_call [.ref 213, .int 91] [] rfl rfl rfl (Tot.imp h (fun v2 s1 h => ?_))
  obtain ⟨rfl, h⟩ := h
  change Go _ _ _ _ _ _ [] _ _
  refine g_c [.int 0] (xo_push (.int 0)) rfl rfl ?_
  refine g_st [.ref 213, .ref a1, .ref a2, .int a3, .int 0, .null, .null, .null, .null, .null, .null, .null] rfl rfl rfl ?_
  refine g_c [.int 1] (xo_push (.int 1)) rfl rfl ?_
  refine g_st [.ref 213, .ref a1, .ref a2, .int a3, .int 0, .int 1, .null, .null, .null, .null, .null, .null] rfl rfl rfl ?_
  exact kl_181_7  h
theorem t_181 {d : Nat} {a1 : Nat} {a2 : Nat} {a3 : Int32} {s : yS} {P : Option Value → yS → Prop} (h : w_181_0 (Tot d) a1 a2 a3 s P) : Tot (d + 1) 181 [.ref 213, .ref a1, .ref a2, .int a3] s P := tot_of (E := xE_181) (ml := 8) (ret := some .int) rfl rfl rfl (k_181_0 h)
/-! readField -/
def w_182_66 (T : Nat → List Value → yS → (Option Value → yS → Prop) → Prop)  (a1 : Int32) (a2 : Int32) (a3 : Int32) (s : yS) (P : Option Value → yS → Prop) : Prop :=
  P none s
set_option maxRecDepth 20000 in
theorem k_182_66 {d : Nat}  {a1 : Int32} {a2 : Int32} {a3 : Int32} {s : yS} {P : Option Value → yS → Prop}  (h : w_182_66 (Tot d)  a1 a2 a3 s P) : Go d 4 (none) xE_182 (xE_182.drop 66) [.ref 213, .int a1, .int a2, .int a3, .null, .null] [] s P := by
  unfold w_182_66 at h
  exact g_ret0 rfl h
def w_182_27 (T : Nat → List Value → yS → (Option Value → yS → Prop) → Prop)  (a1 : Int32) (a2 : Int32) (t0 : Int32) (s : yS) (P : Option Value → yS → Prop) : Prop :=
  T 167 [.ref 213, .int 59] s (fun v2 s1 => v2 = none ∧ ((¬ ((s1.1 8).toInt = 0) → w_182_66 T  a1 a2 t0  s1 P) ∧ ((s1.1 8).toInt = 0 → (-2147483648 ≤ 6 * a1.toInt ∧ 6 * a1.toInt ≤ 2147483647) ∧ (∀ x3 : Int32, x3.toInt = 6 * a1.toInt → (0 ≤ a1.toInt ∧ a1.toInt < 48) ∧ ((-2147483648 ≤ x3.toInt + (s1.2.1 239 a1.toInt.toNat).toInt ∧ x3.toInt + (s1.2.1 239 a1.toInt.toNat).toInt ≤ 2147483647) ∧ (∀ x4 : Int32, x4.toInt = x3.toInt + (s1.2.1 239 a1.toInt.toNat).toInt → (0 ≤ x4.toInt ∧ x4.toInt < 288) ∧ (∀ s5, s5 = sa s1 240 x4.toInt.toNat a2 → (-2147483648 ≤ 6 * a1.toInt ∧ 6 * a1.toInt ≤ 2147483647) ∧ (∀ x6 : Int32, x6.toInt = 6 * a1.toInt → (0 ≤ a1.toInt ∧ a1.toInt < 48) ∧ ((-2147483648 ≤ x6.toInt + (s5.2.1 239 a1.toInt.toNat).toInt ∧ x6.toInt + (s5.2.1 239 a1.toInt.toNat).toInt ≤ 2147483647) ∧ (∀ x7 : Int32, x7.toInt = x6.toInt + (s5.2.1 239 a1.toInt.toNat).toInt → (0 ≤ x7.toInt ∧ x7.toInt < 288) ∧ (∀ s8, s8 = sa s5 241 x7.toInt.toNat t0 → (0 ≤ a1.toInt ∧ a1.toInt < 48) ∧ ((-2147483648 ≤ (s8.2.1 239 a1.toInt.toNat).toInt + 1 ∧ (s8.2.1 239 a1.toInt.toNat).toInt + 1 ≤ 2147483647) ∧ (∀ x9 : Int32, x9.toInt = (s8.2.1 239 a1.toInt.toNat).toInt + 1 → (0 ≤ a1.toInt ∧ a1.toInt < 48) ∧ (∀ s10, s10 = sa s8 239 a1.toInt.toNat x9 → w_182_66 T  a1 a2 t0  s10 P))))))))))))))
set_option maxRecDepth 20000 in
theorem k_182_27 {d : Nat}  {a1 : Int32} {a2 : Int32} {t0 : Int32} {s : yS} {P : Option Value → yS → Prop}  (h : w_182_27 (Tot d)  a1 a2 t0 s P) : Go d 4 (none) xE_182 (xE_182.drop 27) [.ref 213, .int a1, .int a2, .null, .null, .null] [.int t0] s P := by
  unfold w_182_27 at h
  refine g_st [.ref 213, .int a1, .int a2, .int t0, .null, .null] rfl rfl rfl ?_
  refine g_ld rfl rfl rfl ?_
  refine g_c [.int 59, .ref 213] (xo_push (.int 59)) rfl rfl ?_
  refine g_call [.ref 213, .int 59] [] rfl rfl rfl (Tot.imp h (fun v2 s1 h => ?_))
  obtain ⟨rfl, h⟩ := h
  change Go _ _ _ _ _ _ [] _ _
  refine g_ld rfl rfl rfl ?_
  refine g_get rfl rfl ?_
  change Go _ _ _ _ _ _ [.int (s1.1 8)] _ _
  refine g_brN rfl rfl ⟨fun hc => ?_, fun hc => ?_⟩
  · replace h := h.1 (fun q => hc ((i_eq (x := s1.1 8) (y := 0) rfl (show (0 : Int32).toInt = 0 by decide)).mpr q))
    exact k_182_66  h
  · replace h := h.2 ((i_eq (x := s1.1 8) (y := 0) rfl (show (0 : Int32).toInt = 0 by decide)).mp hc)
    refine g_ld rfl rfl rfl ?_
    refine g_get rfl rfl ?_
    change Go _ _ _ _ _ _ [.ref 240] _ _
    refine g_c [.int 6, .ref 240] (xo_push (.int 6)) rfl rfl ?_
    refine g_ld rfl rfl rfl ?_
    have ex3 := i_mul (x := 6) (y := a1) (show (6 : Int32).toInt = 6 by decide) rfl h.1
    have cx3 := ck_mul (x := 6) (y := a1) (show (6 : Int32).toInt = 6 by decide) rfl h.1
    replace h := h.2 _ ex3
    refine g_ca [.int (6 * a1), .ref 240] xo_imul rfl rfl (fun _ => cx3) ?_
    refine g_ld rfl rfl rfl ?_
    refine g_get rfl rfl ?_
    change Go _ _ _ _ _ _ [.ref 239, .int (6 * a1), .ref 240] _ _
    refine g_ld rfl rfl rfl ?_
    refine g_ial rfl rfl (i_in (x := a1) rfl h.1) ?_
    change Go _ _ _ _ _ _ [.int (s1.2.1 239 a1.toInt.toNat), .int (6 * a1), .ref 240] _ _
    replace h := h.2
    have ex4 := i_add (x := (6 * a1)) (y := s1.2.1 239 a1.toInt.toNat) rfl rfl h.1
    have cx4 := ck_add (x := (6 * a1)) (y := s1.2.1 239 a1.toInt.toNat) rfl rfl h.1
    replace h := h.2 _ ex4
    refine g_ca [.int ((6 * a1) + (s1.2.1 239 a1.toInt.toNat)), .ref 240] xo_iadd rfl rfl (fun _ => cx4) ?_
    refine g_ld rfl rfl rfl ?_
    refine g_ias rfl rfl (i_in (x := ((6 * a1) + (s1.2.1 239 a1.toInt.toNat))) rfl h.1) ?_
    replace h := h.2
    replace h := h _ rfl
    refine g_ld rfl rfl rfl ?_
    refine g_get rfl rfl ?_
    change Go _ _ _ _ _ _ [.ref 241] _ _
    refine g_c [.int 6, .ref 241] (xo_push (.int 6)) rfl rfl ?_
    refine g_ld rfl rfl rfl ?_
    have ex6 := i_mul (x := 6) (y := a1) (show (6 : Int32).toInt = 6 by decide) rfl h.1
    have cx6 := ck_mul (x := 6) (y := a1) (show (6 : Int32).toInt = 6 by decide) rfl h.1
    replace h := h.2 _ ex6
    refine g_ca [.int (6 * a1), .ref 241] xo_imul rfl rfl (fun _ => cx6) ?_
    refine g_ld rfl rfl rfl ?_
    refine g_get rfl rfl ?_
    change Go _ _ _ _ _ _ [.ref 239, .int (6 * a1), .ref 241] _ _
    refine g_ld rfl rfl rfl ?_
    refine g_ial rfl rfl (i_in (x := a1) rfl h.1) ?_
    change Go _ _ _ _ _ _ [.int ((sa s1 240 ((6 * a1) + (s1.2.1 239 a1.toInt.toNat)).toInt.toNat a2).2.1 239 a1.toInt.toNat), .int (6 * a1), .ref 241] _ _
    replace h := h.2
    have ex7 := i_add (x := (6 * a1)) (y := (sa s1 240 ((6 * a1) + (s1.2.1 239 a1.toInt.toNat)).toInt.toNat a2).2.1 239 a1.toInt.toNat) rfl rfl h.1
    have cx7 := ck_add (x := (6 * a1)) (y := (sa s1 240 ((6 * a1) + (s1.2.1 239 a1.toInt.toNat)).toInt.toNat a2).2.1 239 a1.toInt.toNat) rfl rfl h.1
    replace h := h.2 _ ex7
    refine g_ca [.int ((6 * a1) + ((sa s1 240 ((6 * a1) + (s1.2.1 239 a1.toInt.toNat)).toInt.toNat a2).2.1 239 a1.toInt.toNat)), .ref 241] xo_iadd rfl rfl (fun _ => cx7) ?_
    refine g_ld rfl rfl rfl ?_
    refine g_ias rfl rfl (i_in (x := ((6 * a1) + ((sa s1 240 ((6 * a1) + (s1.2.1 239 a1.toInt.toNat)).toInt.toNat a2).2.1 239 a1.toInt.toNat))) rfl h.1) ?_
    replace h := h.2
    replace h := h _ rfl
    refine g_ld rfl rfl rfl ?_
    refine g_get rfl rfl ?_
    change Go _ _ _ _ _ _ [.ref 239] _ _
    refine g_ld rfl rfl rfl ?_
    refine g_c [.int a1, .ref 239, .int a1, .ref 239] xo_dup2 rfl rfl ?_
    refine g_ial rfl rfl (i_in (x := a1) rfl h.1) ?_
    change Go _ _ _ _ _ _ [.int ((sa (sa s1 240 ((6 * a1) + (s1.2.1 239 a1.toInt.toNat)).toInt.toNat a2) 241 ((6 * a1) + ((sa s1 240 ((6 * a1) + (s1.2.1 239 a1.toInt.toNat)).toInt.toNat a2).2.1 239 a1.toInt.toNat)).toInt.toNat t0).2.1 239 a1.toInt.toNat), .int a1, .ref 239] _ _
    replace h := h.2
    refine g_c [.int 1, .int ((sa (sa s1 240 ((6 * a1) + (s1.2.1 239 a1.toInt.toNat)).toInt.toNat a2) 241 ((6 * a1) + ((sa s1 240 ((6 * a1) + (s1.2.1 239 a1.toInt.toNat)).toInt.toNat a2).2.1 239 a1.toInt.toNat)).toInt.toNat t0).2.1 239 a1.toInt.toNat), .int a1, .ref 239] (xo_push (.int 1)) rfl rfl ?_
    have ex9 := i_add (x := (sa (sa s1 240 ((6 * a1) + (s1.2.1 239 a1.toInt.toNat)).toInt.toNat a2) 241 ((6 * a1) + ((sa s1 240 ((6 * a1) + (s1.2.1 239 a1.toInt.toNat)).toInt.toNat a2).2.1 239 a1.toInt.toNat)).toInt.toNat t0).2.1 239 a1.toInt.toNat) (y := 1) rfl (show (1 : Int32).toInt = 1 by decide) h.1
    have cx9 := ck_add (x := (sa (sa s1 240 ((6 * a1) + (s1.2.1 239 a1.toInt.toNat)).toInt.toNat a2) 241 ((6 * a1) + ((sa s1 240 ((6 * a1) + (s1.2.1 239 a1.toInt.toNat)).toInt.toNat a2).2.1 239 a1.toInt.toNat)).toInt.toNat t0).2.1 239 a1.toInt.toNat) (y := 1) rfl (show (1 : Int32).toInt = 1 by decide) h.1
    replace h := h.2 _ ex9
    refine g_ca [.int (((sa (sa s1 240 ((6 * a1) + (s1.2.1 239 a1.toInt.toNat)).toInt.toNat a2) 241 ((6 * a1) + ((sa s1 240 ((6 * a1) + (s1.2.1 239 a1.toInt.toNat)).toInt.toNat a2).2.1 239 a1.toInt.toNat)).toInt.toNat t0).2.1 239 a1.toInt.toNat) + 1), .int a1, .ref 239] xo_iadd rfl rfl (fun _ => cx9) ?_
    refine g_ias rfl rfl (i_in (x := a1) rfl h.1) ?_
    replace h := h.2
    replace h := h _ rfl
    exact k_182_66  h
def w_182_14 (T : Nat → List Value → yS → (Option Value → yS → Prop) → Prop)  (a1 : Int32) (s : yS) (P : Option Value → yS → Prop) : Prop :=
  T 170 [.ref 213] s (fun v2 s1 => ∃ x3, v2 = some (.int x3) ∧ (∀ s4, s4 = sf s1 27 0 → (¬ ((s4.1 8).toInt = 0) → w_182_27 T  a1 x3 (-1) s4 P) ∧ ((s4.1 8).toInt = 0 → T 173 [.ref 213] s4 (fun v6 s5 => ∃ x7, v6 = some (.int x7) ∧ (w_182_27 T  a1 x3 x7 s5 P)))))
set_option maxRecDepth 20000 in
theorem k_182_14 {d : Nat}  {a1 : Int32} {s : yS} {P : Option Value → yS → Prop}  (h : w_182_14 (Tot d)  a1 s P) : Go d 4 (none) xE_182 (xE_182.drop 14) [.ref 213, .int a1, .null, .null, .null, .null] [] s P := by
  unfold w_182_14 at h
  refine g_ld rfl rfl rfl ?_
  refine g_call [.ref 213] [] rfl rfl rfl (Tot.imp h (fun v2 s1 h => ?_))
  obtain ⟨x3, rfl, h⟩ := h
  change Go _ _ _ _ _ _ [.int x3] _ _
  refine g_st [.ref 213, .int a1, .int x3, .null, .null, .null] rfl rfl rfl ?_
  refine g_ld rfl rfl rfl ?_
  refine g_c [.int 0, .ref 213] (xo_push (.int 0)) rfl rfl ?_
  refine g_put rfl rfl rfl ?_
  replace h := h _ rfl
  refine g_ld rfl rfl rfl ?_
  refine g_get rfl rfl ?_
  change Go _ _ _ _ _ _ [.int ((sf s1 27 0).1 8)] _ _
  refine g_brN rfl rfl ⟨fun hc => ?_, fun hc => ?_⟩
  · replace h := h.1 (fun q => hc ((i_eq (x := (sf s1 27 0).1 8) (y := 0) rfl (show (0 : Int32).toInt = 0 by decide)).mpr q))
    refine g_c [.int (-1)] (xo_push (.int (-1))) rfl rfl ?_
    exact k_182_27  h
  · replace h := h.2 ((i_eq (x := (sf s1 27 0).1 8) (y := 0) rfl (show (0 : Int32).toInt = 0 by decide)).mp hc)
    refine g_ld rfl rfl rfl ?_
    refine g_call [.ref 213] [] rfl rfl rfl (Tot.imp h (fun v6 s5 h => ?_))
    obtain ⟨x7, rfl, h⟩ := h
    change Go _ _ _ _ _ _ [.int x7] _ _
    refine g_go rfl ?_
    exact k_182_27  h
def w_182_0 (T : Nat → List Value → yS → (Option Value → yS → Prop) → Prop)  (a1 : Int32) (s : yS) (P : Option Value → yS → Prop) : Prop :=
  (0 ≤ a1.toInt ∧ a1.toInt < 48) ∧ ((¬ ((s.2.1 239 a1.toInt.toNat).toInt = 6) → w_182_14 T  a1  s P) ∧ ((s.2.1 239 a1.toInt.toNat).toInt = 6 → T 166 [.ref 213] s (fun v2 s1 => ∃ x3, v2 = some (.int x3) ∧ ((x3.toInt = 0 → w_182_14 T  a1  s1 P) ∧ (¬ (x3.toInt = 0) → T 163 [.ref 213, .int 5, .int (s1.1 7)] s1 (fun v5 s4 => v5 = none ∧ (w_182_14 T  a1  s4 P)))))))
set_option maxRecDepth 20000 in
theorem k_182_0 {d : Nat}  {a1 : Int32} {s : yS} {P : Option Value → yS → Prop}  (h : w_182_0 (Tot d)  a1 s P) : Go d 4 (none) xE_182 (xE_182.drop 0) [.ref 213, .int a1, .null, .null, .null, .null] [] s P := by
  unfold w_182_0 at h
  refine g_ld rfl rfl rfl ?_
  refine g_get rfl rfl ?_
  change Go _ _ _ _ _ _ [.ref 239] _ _
  refine g_ld rfl rfl rfl ?_
  refine g_ial rfl rfl (i_in (x := a1) rfl h.1) ?_
  change Go _ _ _ _ _ _ [.int (s.2.1 239 a1.toInt.toNat)] _ _
  replace h := h.2
  refine g_c [.int 6, .int (s.2.1 239 a1.toInt.toNat)] (xo_push (.int 6)) rfl rfl ?_
  refine g_brN rfl rfl ⟨fun hc => ?_, fun hc => ?_⟩
  · replace h := h.1 (fun q => hc ((i_eq (x := s.2.1 239 a1.toInt.toNat) (y := 6) rfl (show (6 : Int32).toInt = 6 by decide)).mpr q))
    exact k_182_14  h
  · replace h := h.2 ((i_eq (x := s.2.1 239 a1.toInt.toNat) (y := 6) rfl (show (6 : Int32).toInt = 6 by decide)).mp hc)
    refine g_ld rfl rfl rfl ?_
    refine g_call [.ref 213] [] rfl rfl rfl (Tot.imp h (fun v2 s1 h => ?_))
    obtain ⟨x3, rfl, h⟩ := h
    change Go _ _ _ _ _ _ [.int x3] _ _
    refine g_brP rfl rfl ⟨fun hc => ?_, fun hc => ?_⟩
    · replace h := h.1 ((i_eq (x := x3) (y := 0) rfl (show (0 : Int32).toInt = 0 by decide)).mp hc)
      exact k_182_14  h
    · replace h := h.2 (fun q => hc ((i_eq (x := x3) (y := 0) rfl (show (0 : Int32).toInt = 0 by decide)).mpr q))
      refine g_ld rfl rfl rfl ?_
      refine g_c [.int 5, .ref 213] (xo_push (.int 5)) rfl rfl ?_
      refine g_ld rfl rfl rfl ?_
      refine g_get rfl rfl ?_
      change Go _ _ _ _ _ _ [.int (s1.1 7), .int 5, .ref 213] _ _
      refine g_call [.ref 213, .int 5, .int (s1.1 7)] [] rfl rfl rfl (Tot.imp h (fun v5 s4 h => ?_))
      obtain ⟨rfl, h⟩ := h
      change Go _ _ _ _ _ _ [] _ _
      exact k_182_14  h
theorem t_182 {d : Nat} {a1 : Int32} {s : yS} {P : Option Value → yS → Prop} (h : w_182_0 (Tot d) a1 s P) : Tot (d + 1) 182 [.ref 213, .int a1] s P := tot_of (E := xE_182) (ml := 4) (ret := none) rfl rfl rfl (k_182_0 h)
/-! readHead -/
def w_183_140 (T : Nat → List Value → yS → (Option Value → yS → Prop) → Prop)  (a1 : Int32) (a2 : Int32) (t1 : Int32) (t2 : Int32) (s : yS) (P : Option Value → yS → Prop) : Prop :=
  (0 ≤ t1.toInt ∧ t1.toInt < 408) ∧ (∀ s1, s1 = sa s 251 t1.toInt.toNat t2 → (-2147483648 ≤ (s1.1 42).toInt + 1 ∧ (s1.1 42).toInt + 1 ≤ 2147483647) ∧ (∀ x2 : Int32, x2.toInt = (s1.1 42).toInt + 1 → ∀ s3, s3 = sf s1 42 x2 → P none s3))
set_option maxRecDepth 20000 in
theorem k_183_140 {d : Nat}  {a1 : Int32} {a2 : Int32} {t1 : Int32} {t2 : Int32} {s : yS} {P : Option Value → yS → Prop}  (h : w_183_140 (Tot d)  a1 a2 t1 t2 s P) : Go d 5 (none) xE_183 (xE_183.drop 140) [.ref 213, .int a1, .int a2, .null, .null, .null] [.int t2, .int t1, .ref 251] s P := by
  unfold w_183_140 at h
  refine g_ias rfl rfl (i_in (x := t1) rfl h.1) ?_
  replace h := h.2
  replace h := h _ rfl
  refine g_ld rfl rfl rfl ?_
  refine g_c [.ref 213, .ref 213] xo_dup rfl rfl ?_
  refine g_get rfl rfl ?_
  change Go _ _ _ _ _ _ [.int ((sa s 251 t1.toInt.toNat t2).1 42), .ref 213] _ _
  refine g_c [.int 1, .int ((sa s 251 t1.toInt.toNat t2).1 42), .ref 213] (xo_push (.int 1)) rfl rfl ?_
  have ex2 := i_add (x := (sa s 251 t1.toInt.toNat t2).1 42) (y := 1) rfl (show (1 : Int32).toInt = 1 by decide) h.1
  have cx2 := ck_add (x := (sa s 251 t1.toInt.toNat t2).1 42) (y := 1) rfl (show (1 : Int32).toInt = 1 by decide) h.1
  replace h := h.2 _ ex2
  refine g_ca [.int (((sa s 251 t1.toInt.toNat t2).1 42) + 1), .ref 213] xo_iadd rfl rfl (fun _ => cx2) ?_
  refine g_put rfl rfl rfl ?_
  replace h := h _ rfl
  exact g_ret0 rfl h
def w_183_124 (T : Nat → List Value → yS → (Option Value → yS → Prop) → Prop)  (a1 : Int32) (a2 : Int32) (s : yS) (P : Option Value → yS → Prop) : Prop :=
  T 167 [.ref 213, .int 41] s (fun v2 s1 => v2 = none ∧ (∀ s3, s3 = sf s1 27 0 → (¬ ((s3.1 8).toInt = 0) → w_183_140 T  a1 a2 a1 (-1) s3 P) ∧ ((s3.1 8).toInt = 0 → T 173 [.ref 213] s3 (fun v5 s4 => ∃ x6, v5 = some (.int x6) ∧ (w_183_140 T  a1 a2 a1 x6 s4 P)))))
set_option maxRecDepth 20000 in
theorem k_183_124 {d : Nat}  {a1 : Int32} {a2 : Int32} {s : yS} {P : Option Value → yS → Prop}  (h : w_183_124 (Tot d)  a1 a2 s P) : Go d 5 (none) xE_183 (xE_183.drop 124) [.ref 213, .int a1, .int a2, .null, .null, .null] [] s P := by
  unfold w_183_124 at h
  refine g_ld rfl rfl rfl ?_
  refine g_c [.int 41, .ref 213] (xo_push (.int 41)) rfl rfl ?_
  refine g_call [.ref 213, .int 41] [] rfl rfl rfl (Tot.imp h (fun v2 s1 h => ?_))
  obtain ⟨rfl, h⟩ := h
  change Go _ _ _ _ _ _ [] _ _
  refine g_ld rfl rfl rfl ?_
  refine g_c [.int 0, .ref 213] (xo_push (.int 0)) rfl rfl ?_
  refine g_put rfl rfl rfl ?_
  replace h := h _ rfl
  refine g_ld rfl rfl rfl ?_
  refine g_get rfl rfl ?_
  change Go _ _ _ _ _ _ [.ref 251] _ _
  refine g_ld rfl rfl rfl ?_
  refine g_ld rfl rfl rfl ?_
  refine g_get rfl rfl ?_
  change Go _ _ _ _ _ _ [.int ((sf s1 27 0).1 8), .int a1, .ref 251] _ _
  refine g_brN rfl rfl ⟨fun hc => ?_, fun hc => ?_⟩
  · replace h := h.1 (fun q => hc ((i_eq (x := (sf s1 27 0).1 8) (y := 0) rfl (show (0 : Int32).toInt = 0 by decide)).mpr q))
    refine g_c [.int (-1), .int a1, .ref 251] (xo_push (.int (-1))) rfl rfl ?_
    exact k_183_140  h
  · replace h := h.2 ((i_eq (x := (sf s1 27 0).1 8) (y := 0) rfl (show (0 : Int32).toInt = 0 by decide)).mp hc)
    refine g_ld rfl rfl rfl ?_
    refine g_call [.ref 213] [.int a1, .ref 251] rfl rfl rfl (Tot.imp h (fun v5 s4 h => ?_))
    obtain ⟨x6, rfl, h⟩ := h
    change Go _ _ _ _ _ _ [.int x6, .int a1, .ref 251] _ _
    refine g_go rfl ?_
    exact k_183_140  h
def w_183_119 (T : Nat → List Value → yS → (Option Value → yS → Prop) → Prop) (R51 : Int32 → Int32 → yS → Prop) (a1 : Int32) (a2 : Int32) (a3 : Int32) (a4 : Int32) (s : yS) (P : Option Value → yS → Prop) : Prop :=
  T 168 [.ref 213, .int 44] s (fun v2 s1 => ∃ x3, v2 = some (.int x3) ∧ (R51 a1 x3  s1))
set_option maxRecDepth 20000 in
theorem k_183_119 {d : Nat} {R51 : Int32 → Int32 → yS → Prop} {a1 : Int32} {a2 : Int32} {a3 : Int32} {a4 : Int32} {s : yS} {P : Option Value → yS → Prop} (r51 : ∀ a1 a2 s, R51 a1 a2 s → Go d 5 (none) xE_183 (xE_183.drop 51) [.ref 213, .int a1, .int a2, .null, .null, .null] [] s P) (h : w_183_119 (Tot d) R51 a1 a2 a3 a4 s P) : Go d 5 (none) xE_183 (xE_183.drop 119) [.ref 213, .int a1, .int a2, .int a3, .int a4, .null] [] s P := by
  unfold w_183_119 at h
  refine g_ld rfl rfl rfl ?_
  refine g_c [.int 44, .ref 213] (xo_push (.int 44)) rfl rfl ?_
  refine g_call [.ref 213, .int 44] [] rfl rfl rfl (Tot.imp h (fun v2 s1 h => ?_))
  obtain ⟨x3, rfl, h⟩ := h
  change Go _ _ _ _ _ _ [.int x3] _ _
  refine g_st [.ref 213, .int a1, .int x3, .int a3, .int a4, .null] rfl rfl rfl ?_
  refine g_go rfl ?_
  refine g_fg 3 ?_
  refine g_fg 4 ?_
  exact r51 a1 x3  s1 h
def w_183_83 (T : Nat → List Value → yS → (Option Value → yS → Prop) → Prop) (R51 : Int32 → Int32 → yS → Prop) (a1 : Int32) (a2 : Int32) (a3 : Int32) (t0 : Int32) (s : yS) (P : Option Value → yS → Prop) : Prop :=
  (¬ ((s.1 8).toInt = 0) → w_183_119 T R51 a1 a2 a3 t0  s P) ∧ ((s.1 8).toInt = 0 → (-2147483648 ≤ 6 * a1.toInt ∧ 6 * a1.toInt ≤ 2147483647) ∧ (∀ x1 : Int32, x1.toInt = 6 * a1.toInt → (0 ≤ a1.toInt ∧ a1.toInt < 408) ∧ ((-2147483648 ≤ x1.toInt + (s.2.1 248 a1.toInt.toNat).toInt ∧ x1.toInt + (s.2.1 248 a1.toInt.toNat).toInt ≤ 2147483647) ∧ (∀ x2 : Int32, x2.toInt = x1.toInt + (s.2.1 248 a1.toInt.toNat).toInt → (0 ≤ x2.toInt ∧ x2.toInt < 2448) ∧ (∀ s3, s3 = sa s 249 x2.toInt.toNat a3 → (-2147483648 ≤ 6 * a1.toInt ∧ 6 * a1.toInt ≤ 2147483647) ∧ (∀ x4 : Int32, x4.toInt = 6 * a1.toInt → (0 ≤ a1.toInt ∧ a1.toInt < 408) ∧ ((-2147483648 ≤ x4.toInt + (s3.2.1 248 a1.toInt.toNat).toInt ∧ x4.toInt + (s3.2.1 248 a1.toInt.toNat).toInt ≤ 2147483647) ∧ (∀ x5 : Int32, x5.toInt = x4.toInt + (s3.2.1 248 a1.toInt.toNat).toInt → (0 ≤ x5.toInt ∧ x5.toInt < 2448) ∧ (∀ s6, s6 = sa s3 250 x5.toInt.toNat t0 → (0 ≤ a1.toInt ∧ a1.toInt < 408) ∧ ((-2147483648 ≤ (s6.2.1 248 a1.toInt.toNat).toInt + 1 ∧ (s6.2.1 248 a1.toInt.toNat).toInt + 1 ≤ 2147483647) ∧ (∀ x7 : Int32, x7.toInt = (s6.2.1 248 a1.toInt.toNat).toInt + 1 → (0 ≤ a1.toInt ∧ a1.toInt < 408) ∧ (∀ s8, s8 = sa s6 248 a1.toInt.toNat x7 → w_183_119 T R51 a1 a2 a3 t0  s8 P))))))))))))
set_option maxRecDepth 20000 in
theorem k_183_83 {d : Nat} {R51 : Int32 → Int32 → yS → Prop} {a1 : Int32} {a2 : Int32} {a3 : Int32} {t0 : Int32} {s : yS} {P : Option Value → yS → Prop} (r51 : ∀ a1 a2 s, R51 a1 a2 s → Go d 5 (none) xE_183 (xE_183.drop 51) [.ref 213, .int a1, .int a2, .null, .null, .null] [] s P) (h : w_183_83 (Tot d) R51 a1 a2 a3 t0 s P) : Go d 5 (none) xE_183 (xE_183.drop 83) [.ref 213, .int a1, .int a2, .int a3, .null, .null] [.int t0] s P := by
  unfold w_183_83 at h
  refine g_st [.ref 213, .int a1, .int a2, .int a3, .int t0, .null] rfl rfl rfl ?_
  refine g_ld rfl rfl rfl ?_
  refine g_get rfl rfl ?_
  change Go _ _ _ _ _ _ [.int (s.1 8)] _ _
  refine g_brN rfl rfl ⟨fun hc => ?_, fun hc => ?_⟩
  · replace h := h.1 (fun q => hc ((i_eq (x := s.1 8) (y := 0) rfl (show (0 : Int32).toInt = 0 by decide)).mpr q))
    exact k_183_119 r51 h
  · replace h := h.2 ((i_eq (x := s.1 8) (y := 0) rfl (show (0 : Int32).toInt = 0 by decide)).mp hc)
    refine g_ld rfl rfl rfl ?_
    refine g_get rfl rfl ?_
    change Go _ _ _ _ _ _ [.ref 249] _ _
    refine g_c [.int 6, .ref 249] (xo_push (.int 6)) rfl rfl ?_
    refine g_ld rfl rfl rfl ?_
    have ex1 := i_mul (x := 6) (y := a1) (show (6 : Int32).toInt = 6 by decide) rfl h.1
    have cx1 := ck_mul (x := 6) (y := a1) (show (6 : Int32).toInt = 6 by decide) rfl h.1
    replace h := h.2 _ ex1
    refine g_ca [.int (6 * a1), .ref 249] xo_imul rfl rfl (fun _ => cx1) ?_
    refine g_ld rfl rfl rfl ?_
    refine g_get rfl rfl ?_
    change Go _ _ _ _ _ _ [.ref 248, .int (6 * a1), .ref 249] _ _
    refine g_ld rfl rfl rfl ?_
    refine g_ial rfl rfl (i_in (x := a1) rfl h.1) ?_
    change Go _ _ _ _ _ _ [.int (s.2.1 248 a1.toInt.toNat), .int (6 * a1), .ref 249] _ _
    replace h := h.2
    have ex2 := i_add (x := (6 * a1)) (y := s.2.1 248 a1.toInt.toNat) rfl rfl h.1
    have cx2 := ck_add (x := (6 * a1)) (y := s.2.1 248 a1.toInt.toNat) rfl rfl h.1
    replace h := h.2 _ ex2
    refine g_ca [.int ((6 * a1) + (s.2.1 248 a1.toInt.toNat)), .ref 249] xo_iadd rfl rfl (fun _ => cx2) ?_
    refine g_ld rfl rfl rfl ?_
    refine g_ias rfl rfl (i_in (x := ((6 * a1) + (s.2.1 248 a1.toInt.toNat))) rfl h.1) ?_
    replace h := h.2
    replace h := h _ rfl
    refine g_ld rfl rfl rfl ?_
    refine g_get rfl rfl ?_
    change Go _ _ _ _ _ _ [.ref 250] _ _
    refine g_c [.int 6, .ref 250] (xo_push (.int 6)) rfl rfl ?_
    refine g_ld rfl rfl rfl ?_
    have ex4 := i_mul (x := 6) (y := a1) (show (6 : Int32).toInt = 6 by decide) rfl h.1
    have cx4 := ck_mul (x := 6) (y := a1) (show (6 : Int32).toInt = 6 by decide) rfl h.1
    replace h := h.2 _ ex4
    refine g_ca [.int (6 * a1), .ref 250] xo_imul rfl rfl (fun _ => cx4) ?_
    refine g_ld rfl rfl rfl ?_
    refine g_get rfl rfl ?_
    change Go _ _ _ _ _ _ [.ref 248, .int (6 * a1), .ref 250] _ _
    refine g_ld rfl rfl rfl ?_
    refine g_ial rfl rfl (i_in (x := a1) rfl h.1) ?_
    change Go _ _ _ _ _ _ [.int ((sa s 249 ((6 * a1) + (s.2.1 248 a1.toInt.toNat)).toInt.toNat a3).2.1 248 a1.toInt.toNat), .int (6 * a1), .ref 250] _ _
    replace h := h.2
    have ex5 := i_add (x := (6 * a1)) (y := (sa s 249 ((6 * a1) + (s.2.1 248 a1.toInt.toNat)).toInt.toNat a3).2.1 248 a1.toInt.toNat) rfl rfl h.1
    have cx5 := ck_add (x := (6 * a1)) (y := (sa s 249 ((6 * a1) + (s.2.1 248 a1.toInt.toNat)).toInt.toNat a3).2.1 248 a1.toInt.toNat) rfl rfl h.1
    replace h := h.2 _ ex5
    refine g_ca [.int ((6 * a1) + ((sa s 249 ((6 * a1) + (s.2.1 248 a1.toInt.toNat)).toInt.toNat a3).2.1 248 a1.toInt.toNat)), .ref 250] xo_iadd rfl rfl (fun _ => cx5) ?_
    refine g_ld rfl rfl rfl ?_
    refine g_ias rfl rfl (i_in (x := ((6 * a1) + ((sa s 249 ((6 * a1) + (s.2.1 248 a1.toInt.toNat)).toInt.toNat a3).2.1 248 a1.toInt.toNat))) rfl h.1) ?_
    replace h := h.2
    replace h := h _ rfl
    refine g_ld rfl rfl rfl ?_
    refine g_get rfl rfl ?_
    change Go _ _ _ _ _ _ [.ref 248] _ _
    refine g_ld rfl rfl rfl ?_
    refine g_c [.int a1, .ref 248, .int a1, .ref 248] xo_dup2 rfl rfl ?_
    refine g_ial rfl rfl (i_in (x := a1) rfl h.1) ?_
    change Go _ _ _ _ _ _ [.int ((sa (sa s 249 ((6 * a1) + (s.2.1 248 a1.toInt.toNat)).toInt.toNat a3) 250 ((6 * a1) + ((sa s 249 ((6 * a1) + (s.2.1 248 a1.toInt.toNat)).toInt.toNat a3).2.1 248 a1.toInt.toNat)).toInt.toNat t0).2.1 248 a1.toInt.toNat), .int a1, .ref 248] _ _
    replace h := h.2
    refine g_c [.int 1, .int ((sa (sa s 249 ((6 * a1) + (s.2.1 248 a1.toInt.toNat)).toInt.toNat a3) 250 ((6 * a1) + ((sa s 249 ((6 * a1) + (s.2.1 248 a1.toInt.toNat)).toInt.toNat a3).2.1 248 a1.toInt.toNat)).toInt.toNat t0).2.1 248 a1.toInt.toNat), .int a1, .ref 248] (xo_push (.int 1)) rfl rfl ?_
    have ex7 := i_add (x := (sa (sa s 249 ((6 * a1) + (s.2.1 248 a1.toInt.toNat)).toInt.toNat a3) 250 ((6 * a1) + ((sa s 249 ((6 * a1) + (s.2.1 248 a1.toInt.toNat)).toInt.toNat a3).2.1 248 a1.toInt.toNat)).toInt.toNat t0).2.1 248 a1.toInt.toNat) (y := 1) rfl (show (1 : Int32).toInt = 1 by decide) h.1
    have cx7 := ck_add (x := (sa (sa s 249 ((6 * a1) + (s.2.1 248 a1.toInt.toNat)).toInt.toNat a3) 250 ((6 * a1) + ((sa s 249 ((6 * a1) + (s.2.1 248 a1.toInt.toNat)).toInt.toNat a3).2.1 248 a1.toInt.toNat)).toInt.toNat t0).2.1 248 a1.toInt.toNat) (y := 1) rfl (show (1 : Int32).toInt = 1 by decide) h.1
    replace h := h.2 _ ex7
    refine g_ca [.int (((sa (sa s 249 ((6 * a1) + (s.2.1 248 a1.toInt.toNat)).toInt.toNat a3) 250 ((6 * a1) + ((sa s 249 ((6 * a1) + (s.2.1 248 a1.toInt.toNat)).toInt.toNat a3).2.1 248 a1.toInt.toNat)).toInt.toNat t0).2.1 248 a1.toInt.toNat) + 1), .int a1, .ref 248] xo_iadd rfl rfl (fun _ => cx7) ?_
    refine g_ias rfl rfl (i_in (x := a1) rfl h.1) ?_
    replace h := h.2
    replace h := h _ rfl
    exact k_183_119 r51 h
def w_183_70 (T : Nat → List Value → yS → (Option Value → yS → Prop) → Prop) (R51 : Int32 → Int32 → yS → Prop) (a1 : Int32) (a2 : Int32) (s : yS) (P : Option Value → yS → Prop) : Prop :=
  T 170 [.ref 213] s (fun v2 s1 => ∃ x3, v2 = some (.int x3) ∧ (∀ s4, s4 = sf s1 27 0 → (¬ ((s4.1 8).toInt = 0) → w_183_83 T R51 a1 a2 x3 (-1) s4 P) ∧ ((s4.1 8).toInt = 0 → T 173 [.ref 213] s4 (fun v6 s5 => ∃ x7, v6 = some (.int x7) ∧ (w_183_83 T R51 a1 a2 x3 x7 s5 P)))))
set_option maxRecDepth 20000 in
theorem k_183_70 {d : Nat} {R51 : Int32 → Int32 → yS → Prop} {a1 : Int32} {a2 : Int32} {s : yS} {P : Option Value → yS → Prop} (r51 : ∀ a1 a2 s, R51 a1 a2 s → Go d 5 (none) xE_183 (xE_183.drop 51) [.ref 213, .int a1, .int a2, .null, .null, .null] [] s P) (h : w_183_70 (Tot d) R51 a1 a2 s P) : Go d 5 (none) xE_183 (xE_183.drop 70) [.ref 213, .int a1, .int a2, .null, .null, .null] [] s P := by
  unfold w_183_70 at h
  refine g_ld rfl rfl rfl ?_
  refine g_call [.ref 213] [] rfl rfl rfl (Tot.imp h (fun v2 s1 h => ?_))
  obtain ⟨x3, rfl, h⟩ := h
  change Go _ _ _ _ _ _ [.int x3] _ _
  refine g_st [.ref 213, .int a1, .int a2, .int x3, .null, .null] rfl rfl rfl ?_
  refine g_ld rfl rfl rfl ?_
  refine g_c [.int 0, .ref 213] (xo_push (.int 0)) rfl rfl ?_
  refine g_put rfl rfl rfl ?_
  replace h := h _ rfl
  refine g_ld rfl rfl rfl ?_
  refine g_get rfl rfl ?_
  change Go _ _ _ _ _ _ [.int ((sf s1 27 0).1 8)] _ _
  refine g_brN rfl rfl ⟨fun hc => ?_, fun hc => ?_⟩
  · replace h := h.1 (fun q => hc ((i_eq (x := (sf s1 27 0).1 8) (y := 0) rfl (show (0 : Int32).toInt = 0 by decide)).mpr q))
    refine g_c [.int (-1)] (xo_push (.int (-1))) rfl rfl ?_
    exact k_183_83 r51 h
  · replace h := h.2 ((i_eq (x := (sf s1 27 0).1 8) (y := 0) rfl (show (0 : Int32).toInt = 0 by decide)).mp hc)
    refine g_ld rfl rfl rfl ?_
    refine g_call [.ref 213] [] rfl rfl rfl (Tot.imp h (fun v6 s5 h => ?_))
    obtain ⟨x7, rfl, h⟩ := h
    change Go _ _ _ _ _ _ [.int x7] _ _
    refine g_go rfl ?_
    exact k_183_83 r51 h
def w_183_51 (T : Nat → List Value → yS → (Option Value → yS → Prop) → Prop) (R51 : Int32 → Int32 → yS → Prop) (a1 : Int32) (a2 : Int32) (s : yS) (P : Option Value → yS → Prop) : Prop :=
  (a2.toInt = 0 → w_183_124 T  a1 a2  s P) ∧ (¬ (a2.toInt = 0) → (¬ ((s.1 8).toInt = 0) → w_183_124 T  a1 a2  s P) ∧ ((s.1 8).toInt = 0 → (0 ≤ a1.toInt ∧ a1.toInt < 408) ∧ ((¬ ((s.2.1 248 a1.toInt.toNat).toInt = 6) → w_183_70 T R51 a1 a2  s P) ∧ ((s.2.1 248 a1.toInt.toNat).toInt = 6 → T 166 [.ref 213] s (fun v2 s1 => ∃ x3, v2 = some (.int x3) ∧ ((x3.toInt = 0 → w_183_70 T R51 a1 a2  s1 P) ∧ (¬ (x3.toInt = 0) → T 163 [.ref 213, .int 5, .int (s1.1 7)] s1 (fun v5 s4 => v5 = none ∧ (w_183_70 T R51 a1 a2  s4 P)))))))))
set_option maxRecDepth 20000 in
theorem k_183_51 {d : Nat} {R51 : Int32 → Int32 → yS → Prop} {a1 : Int32} {a2 : Int32} {s : yS} {P : Option Value → yS → Prop} (r51 : ∀ a1 a2 s, R51 a1 a2 s → Go d 5 (none) xE_183 (xE_183.drop 51) [.ref 213, .int a1, .int a2, .null, .null, .null] [] s P) (h : w_183_51 (Tot d) R51 a1 a2 s P) : Go d 5 (none) xE_183 (xE_183.drop 51) [.ref 213, .int a1, .int a2, .null, .null, .null] [] s P := by
  unfold w_183_51 at h
  refine g_ld rfl rfl rfl ?_
  refine g_brP rfl rfl ⟨fun hc => ?_, fun hc => ?_⟩
  · replace h := h.1 ((i_eq (x := a2) (y := 0) rfl (show (0 : Int32).toInt = 0 by decide)).mp hc)
    exact k_183_124  h
  · replace h := h.2 (fun q => hc ((i_eq (x := a2) (y := 0) rfl (show (0 : Int32).toInt = 0 by decide)).mpr q))
    refine g_ld rfl rfl rfl ?_
    refine g_get rfl rfl ?_
    change Go _ _ _ _ _ _ [.int (s.1 8)] _ _
    refine g_brN rfl rfl ⟨fun hc => ?_, fun hc => ?_⟩
    · replace h := h.1 (fun q => hc ((i_eq (x := s.1 8) (y := 0) rfl (show (0 : Int32).toInt = 0 by decide)).mpr q))
      exact k_183_124  h
    · replace h := h.2 ((i_eq (x := s.1 8) (y := 0) rfl (show (0 : Int32).toInt = 0 by decide)).mp hc)
      refine g_ld rfl rfl rfl ?_
      refine g_get rfl rfl ?_
      change Go _ _ _ _ _ _ [.ref 248] _ _
      refine g_ld rfl rfl rfl ?_
      refine g_ial rfl rfl (i_in (x := a1) rfl h.1) ?_
      change Go _ _ _ _ _ _ [.int (s.2.1 248 a1.toInt.toNat)] _ _
      replace h := h.2
      refine g_c [.int 6, .int (s.2.1 248 a1.toInt.toNat)] (xo_push (.int 6)) rfl rfl ?_
      refine g_brN rfl rfl ⟨fun hc => ?_, fun hc => ?_⟩
      · replace h := h.1 (fun q => hc ((i_eq (x := s.2.1 248 a1.toInt.toNat) (y := 6) rfl (show (6 : Int32).toInt = 6 by decide)).mpr q))
        exact k_183_70 r51 h
      · replace h := h.2 ((i_eq (x := s.2.1 248 a1.toInt.toNat) (y := 6) rfl (show (6 : Int32).toInt = 6 by decide)).mp hc)
        refine g_ld rfl rfl rfl ?_
        refine g_call [.ref 213] [] rfl rfl rfl (Tot.imp h (fun v2 s1 h => ?_))
        obtain ⟨x3, rfl, h⟩ := h
        change Go _ _ _ _ _ _ [.int x3] _ _
        refine g_brP rfl rfl ⟨fun hc => ?_, fun hc => ?_⟩
        · replace h := h.1 ((i_eq (x := x3) (y := 0) rfl (show (0 : Int32).toInt = 0 by decide)).mp hc)
          exact k_183_70 r51 h
        · replace h := h.2 (fun q => hc ((i_eq (x := x3) (y := 0) rfl (show (0 : Int32).toInt = 0 by decide)).mpr q))
          refine g_ld rfl rfl rfl ?_
          refine g_c [.int 5, .ref 213] (xo_push (.int 5)) rfl rfl ?_
          refine g_ld rfl rfl rfl ?_
          refine g_get rfl rfl ?_
          change Go _ _ _ _ _ _ [.int (s1.1 7), .int 5, .ref 213] _ _
          refine g_call [.ref 213, .int 5, .int (s1.1 7)] [] rfl rfl rfl (Tot.imp h (fun v5 s4 h => ?_))
          obtain ⟨rfl, h⟩ := h
          change Go _ _ _ _ _ _ [] _ _
          exact k_183_70 r51 h
def wl_183_51 (T : Nat → List Value → yS → (Option Value → yS → Prop) → Prop)  (a1 : Int32) (a2 : Int32) (s : yS) (P : Option Value → yS → Prop) : Prop :=
  ∃ (I : Int32 → Int32 → yS → Prop) (μ : Int32 → Int32 → yS → Nat), I a1 a2 s ∧ ∀ (a1 : Int32) (a2 : Int32) (s : yS), I a1 a2 s → w_183_51 T (fun a1' a2' s' => I a1' a2' s' ∧ μ a1' a2' s' < μ a1 a2 s) a1 a2 s P
theorem kl_183_51 {d : Nat}  {a1 : Int32} {a2 : Int32} {s : yS} {P : Option Value → yS → Prop}  (h : wl_183_51 (Tot d)  a1 a2 s P) : Go d 5 (none) xE_183 (xE_183.drop 51) [.ref 213, .int a1, .int a2, .null, .null, .null] [] s P := by
  obtain ⟨I, μ, h0, h1⟩ := h
  have key : ∀ (n : Nat) (a1 : Int32) (a2 : Int32) (s : yS), μ a1 a2 s = n → I a1 a2 s → Go d 5 (none) xE_183 (xE_183.drop 51) [.ref 213, .int a1, .int a2, .null, .null, .null] [] s P := by
    intro n
    induction n using Nat.strongRecOn with
    | ind n ih =>
      intro a1 a2 s e hI
      exact k_183_51 (fun a1' a2' s' q => ih _ (by rw [← e]; exact q.2) _ _ _ rfl q.1) (h1 a1 a2 s hI)
  exact key _ a1 a2 s rfl h0
def w_183_50 (T : Nat → List Value → yS → (Option Value → yS → Prop) → Prop)  (a1 : Int32) (t0 : Int32) (s : yS) (P : Option Value → yS → Prop) : Prop :=
  wl_183_51 T  a1 t0  s P
set_option maxRecDepth 20000 in
theorem k_183_50 {d : Nat}  {a1 : Int32} {t0 : Int32} {s : yS} {P : Option Value → yS → Prop}  (h : w_183_50 (Tot d)  a1 t0 s P) : Go d 5 (none) xE_183 (xE_183.drop 50) [.ref 213, .int a1, .null, .null, .null, .null] [.int t0] s P := by
  unfold w_183_50 at h
  refine g_st [.ref 213, .int a1, .int t0, .null, .null, .null] rfl rfl rfl ?_
  exact kl_183_51  h
def w_183_40 (T : Nat → List Value → yS → (Option Value → yS → Prop) → Prop)  (a1 : Int32) (s : yS) (P : Option Value → yS → Prop) : Prop :=
  T 167 [.ref 213, .int 40] s (fun v2 s1 => v2 = none ∧ (T 164 [.ref 213, .int 41] s1 (fun v4 s3 => ∃ x5, v4 = some (.int x5) ∧ ((¬ (x5.toInt = 0) → w_183_50 T  a1 0 s3 P) ∧ (x5.toInt = 0 → w_183_50 T  a1 1 s3 P)))))
set_option maxRecDepth 20000 in
theorem k_183_40 {d : Nat}  {a1 : Int32} {s : yS} {P : Option Value → yS → Prop}  (h : w_183_40 (Tot d)  a1 s P) : Go d 5 (none) xE_183 (xE_183.drop 40) [.ref 213, .int a1, .null, .null, .null, .null] [] s P := by
  unfold w_183_40 at h
  refine g_ld rfl rfl rfl ?_
  refine g_c [.int 40, .ref 213] (xo_push (.int 40)) rfl rfl ?_
  refine g_call [.ref 213, .int 40] [] rfl rfl rfl (Tot.imp h (fun v2 s1 h => ?_))
  obtain ⟨rfl, h⟩ := h
  change Go _ _ _ _ _ _ [] _ _
  refine g_ld rfl rfl rfl ?_
  refine g_c [.int 41, .ref 213] (xo_push (.int 41)) rfl rfl ?_
  refine g_call [.ref 213, .int 41] [] rfl rfl rfl (Tot.imp h (fun v4 s3 h => ?_))
  obtain ⟨x5, rfl, h⟩ := h
  change Go _ _ _ _ _ _ [.int x5] _ _
  refine g_brN rfl rfl ⟨fun hc => ?_, fun hc => ?_⟩
  · replace h := h.1 (fun q => hc ((i_eq (x := x5) (y := 0) rfl (show (0 : Int32).toInt = 0 by decide)).mpr q))
    refine g_c [.int 0] (xo_push (.int 0)) rfl rfl ?_
    exact k_183_50  h
  · replace h := h.2 ((i_eq (x := x5) (y := 0) rfl (show (0 : Int32).toInt = 0 by decide)).mp hc)
    refine g_c [.int 1] (xo_push (.int 1)) rfl rfl ?_
    refine g_go rfl ?_
    exact k_183_50  h
def w_183_0 (T : Nat → List Value → yS → (Option Value → yS → Prop) → Prop)   (s : yS) (P : Option Value → yS → Prop) : Prop :=
  ((s.1 8).toInt ≤ 0 → T 170 [.ref 213] s (fun v2 s1 => ∃ x3, v2 = some (.int x3) ∧ ((0 ≤ (s.1 42).toInt ∧ (s.1 42).toInt < 408) ∧ (∀ s4, s4 = sa s1 244 (s.1 42).toInt.toNat x3 → (0 ≤ (s.1 42).toInt ∧ (s.1 42).toInt < 408) ∧ (∀ s5, s5 = sa s4 245 (s.1 42).toInt.toNat 0 → (0 ≤ (s.1 42).toInt ∧ (s.1 42).toInt < 408) ∧ (∀ s6, s6 = sa s5 248 (s.1 42).toInt.toNat 0 → T 164 [.ref 213, .int 91] s6 (fun v8 s7 => ∃ x9, v8 = some (.int x9) ∧ ((x9.toInt = 0 → w_183_40 T  (s.1 42)  s7 P) ∧ (¬ (x9.toInt = 0) → (-2147483648 ≤ 6 * (s.1 42).toInt ∧ 6 * (s.1 42).toInt ≤ 2147483647) ∧ (∀ x10 : Int32, x10.toInt = 6 * (s.1 42).toInt → T 181 [.ref 213, .ref 246, .ref 247, .int x10] s7 (fun v12 s11 => ∃ x13, v12 = some (.int x13) ∧ ((0 ≤ (s.1 42).toInt ∧ (s.1 42).toInt < 408) ∧ (∀ s14, s14 = sa s11 245 (s.1 42).toInt.toNat x13 → w_183_40 T  (s.1 42)  s14 P))))))))))))) ∧ (¬ ((s.1 8).toInt ≤ 0) → P none s)
set_option maxRecDepth 20000 in
theorem k_183_0 {d : Nat}   {s : yS} {P : Option Value → yS → Prop}  (h : w_183_0 (Tot d)   s P) : Go d 5 (none) xE_183 (xE_183.drop 0) [.ref 213, .null, .null, .null, .null, .null] [] s P := by
  unfold w_183_0 at h
  refine g_ld rfl rfl rfl ?_
  refine g_get rfl rfl ?_
  change Go _ _ _ _ _ _ [.int (s.1 42)] _ _
  refine g_st [.ref 213, .int (s.1 42), .null, .null, .null, .null] rfl rfl rfl ?_
  refine g_ld rfl rfl rfl ?_
  refine g_get rfl rfl ?_
  change Go _ _ _ _ _ _ [.int (s.1 8)] _ _
  refine g_brP rfl rfl ⟨fun hc => ?_, fun hc => ?_⟩
  · replace h := h.1 ((i_le (x := s.1 8) (y := 0) rfl (show (0 : Int32).toInt = 0 by decide)).mp hc)
    refine g_ld rfl rfl rfl ?_
    refine g_get rfl rfl ?_
    change Go _ _ _ _ _ _ [.ref 244] _ _
    refine g_ld rfl rfl rfl ?_
    refine g_ld rfl rfl rfl ?_
    refine g_call [.ref 213] [.int (s.1 42), .ref 244] rfl rfl rfl (Tot.imp h (fun v2 s1 h => ?_))
    obtain ⟨x3, rfl, h⟩ := h
    change Go _ _ _ _ _ _ [.int x3, .int (s.1 42), .ref 244] _ _
    refine g_ias rfl rfl (i_in (x := s.1 42) rfl h.1) ?_
    replace h := h.2
    replace h := h _ rfl
    refine g_ld rfl rfl rfl ?_
    refine g_get rfl rfl ?_
    change Go _ _ _ _ _ _ [.ref 245] _ _
    refine g_ld rfl rfl rfl ?_
    refine g_c [.int 0, .int (s.1 42), .ref 245] (xo_push (.int 0)) rfl rfl ?_
    refine g_ias rfl rfl (i_in (x := s.1 42) rfl h.1) ?_
    replace h := h.2
    replace h := h _ rfl
    refine g_ld rfl rfl rfl ?_
    refine g_get rfl rfl ?_
    change Go _ _ _ _ _ _ [.ref 248] _ _
    refine g_ld rfl rfl rfl ?_
    refine g_c [.int 0, .int (s.1 42), .ref 248] (xo_push (.int 0)) rfl rfl ?_
    refine g_ias rfl rfl (i_in (x := s.1 42) rfl h.1) ?_
    replace h := h.2
    replace h := h _ rfl
    refine g_ld rfl rfl rfl ?_
    refine g_c [.int 91, .ref 213] (xo_push (.int 91)) rfl rfl ?_
    refine g_call [.ref 213, .int 91] [] rfl rfl rfl (Tot.imp h (fun v8 s7 h => ?_))
    obtain ⟨x9, rfl, h⟩ := h
    change Go _ _ _ _ _ _ [.int x9] _ _
    refine g_brP rfl rfl ⟨fun hc => ?_, fun hc => ?_⟩
    · replace h := h.1 ((i_eq (x := x9) (y := 0) rfl (show (0 : Int32).toInt = 0 by decide)).mp hc)
      exact k_183_40  h
    · replace h := h.2 (fun q => hc ((i_eq (x := x9) (y := 0) rfl (show (0 : Int32).toInt = 0 by decide)).mpr q))
      refine g_ld rfl rfl rfl ?_
      refine g_get rfl rfl ?_
      change Go _ _ _ _ _ _ [.ref 245] _ _
      refine g_ld rfl rfl rfl ?_
      refine g_ld rfl rfl rfl ?_
      refine g_ld rfl rfl rfl ?_
      refine g_get rfl rfl ?_
      change Go _ _ _ _ _ _ [.ref 246, .ref 213, .int (s.1 42), .ref 245] _ _
      refine g_ld rfl rfl rfl ?_
      refine g_get rfl rfl ?_
      change Go _ _ _ _ _ _ [.ref 247, .ref 246, .ref 213, .int (s.1 42), .ref 245] _ _
      refine g_c [.int 6, .ref 247, .ref 246, .ref 213, .int (s.1 42), .ref 245] (xo_push (.int 6)) rfl rfl ?_
      refine g_ld rfl rfl rfl ?_
      have ex10 := i_mul (x := 6) (y := s.1 42) (show (6 : Int32).toInt = 6 by decide) rfl h.1
      have cx10 := ck_mul (x := 6) (y := s.1 42) (show (6 : Int32).toInt = 6 by decide) rfl h.1
      replace h := h.2 _ ex10
      refine g_ca [.int (6 * (s.1 42)), .ref 247, .ref 246, .ref 213, .int (s.1 42), .ref 245] xo_imul rfl rfl (fun _ => cx10) ?_
      refine g_call [.ref 213, .ref 246, .ref 247, .int (6 * (s.1 42))] [.int (s.1 42), .ref 245] rfl rfl rfl (Tot.imp h (fun v12 s11 h => ?_))
      obtain ⟨x13, rfl, h⟩ := h
      change Go _ _ _ _ _ _ [.int x13, .int (s.1 42), .ref 245] _ _
      refine g_ias rfl rfl (i_in (x := s.1 42) rfl h.1) ?_
      replace h := h.2
      replace h := h _ rfl
      exact k_183_40  h
  · replace h := h.2 (fun q => hc ((i_le (x := s.1 8) (y := 0) rfl (show (0 : Int32).toInt = 0 by decide)).mpr q))
    exact g_ret0 rfl h
theorem t_183 {d : Nat}  {s : yS} {P : Option Value → yS → Prop} (h : w_183_0 (Tot d)  s P) : Tot (d + 1) 183 [.ref 213] s P := tot_of (E := xE_183) (ml := 5) (ret := none) rfl rfl rfl (k_183_0 h)
/-! readFunc -/
def w_184_133 (T : Nat → List Value → yS → (Option Value → yS → Prop) → Prop)  (a1 : Int32) (t1 : Int32) (t2 : Int32) (s : yS) (P : Option Value → yS → Prop) : Prop :=
  (0 ≤ t1.toInt ∧ t1.toInt < 120) ∧ (∀ s1, s1 = sa s 258 t1.toInt.toNat t2 → T 167 [.ref 213, .int 125] s1 (fun v3 s2 => v3 = none ∧ ((-2147483648 ≤ 84 * (s2.1 30).toInt ∧ 84 * (s2.1 30).toInt ≤ 2147483647) ∧ (∀ x4 : Int32, x4.toInt = 84 * (s2.1 30).toInt → (0 ≤ (s2.1 30).toInt ∧ (s2.1 30).toInt < 2) ∧ ((-2147483648 ≤ x4.toInt + (s2.2.1 263 (s2.1 30).toInt.toNat).toInt ∧ x4.toInt + (s2.2.1 263 (s2.1 30).toInt.toNat).toInt ≤ 2147483647) ∧ (∀ x5 : Int32, x5.toInt = x4.toInt + (s2.2.1 263 (s2.1 30).toInt.toNat).toInt → (0 ≤ (s2.1 30).toInt ∧ (s2.1 30).toInt < 2) ∧ ((-2147483648 ≤ 100 + (s2.2.1 252 (s2.1 30).toInt.toNat).toInt ∧ 100 + (s2.2.1 252 (s2.1 30).toInt.toNat).toInt ≤ 2147483647) ∧ (∀ x6 : Int32, x6.toInt = 100 + (s2.2.1 252 (s2.1 30).toInt.toNat).toInt → (0 ≤ x5.toInt ∧ x5.toInt < 168) ∧ (∀ s7, s7 = sa s2 262 x5.toInt.toNat x6 → (0 ≤ (s7.1 30).toInt ∧ (s7.1 30).toInt < 2) ∧ ((-2147483648 ≤ (s7.2.1 263 (s7.1 30).toInt.toNat).toInt + 1 ∧ (s7.2.1 263 (s7.1 30).toInt.toNat).toInt + 1 ≤ 2147483647) ∧ (∀ x8 : Int32, x8.toInt = (s7.2.1 263 (s7.1 30).toInt.toNat).toInt + 1 → (0 ≤ (s7.1 30).toInt ∧ (s7.1 30).toInt < 2) ∧ (∀ s9, s9 = sa s7 263 (s7.1 30).toInt.toNat x8 → (0 ≤ (s9.1 30).toInt ∧ (s9.1 30).toInt < 2) ∧ ((-2147483648 ≤ (s9.2.1 252 (s9.1 30).toInt.toNat).toInt + 1 ∧ (s9.2.1 252 (s9.1 30).toInt.toNat).toInt + 1 ≤ 2147483647) ∧ (∀ x10 : Int32, x10.toInt = (s9.2.1 252 (s9.1 30).toInt.toNat).toInt + 1 → (0 ≤ (s9.1 30).toInt ∧ (s9.1 30).toInt < 2) ∧ (∀ s11, s11 = sa s9 252 (s9.1 30).toInt.toNat x10 → P none s11)))))))))))))))
set_option maxRecDepth 20000 in
theorem k_184_133 {d : Nat}  {a1 : Int32} {t1 : Int32} {t2 : Int32} {s : yS} {P : Option Value → yS → Prop}  (h : w_184_133 (Tot d)  a1 t1 t2 s P) : Go d 3 (none) xE_184 (xE_184.drop 133) [.ref 213, .int a1, .null, .null] [.int t2, .int t1, .ref 258] s P := by
  unfold w_184_133 at h
  refine g_ias rfl rfl (i_in (x := t1) rfl h.1) ?_
  replace h := h.2
  replace h := h _ rfl
  refine g_ld rfl rfl rfl ?_
  refine g_c [.int 125, .ref 213] (xo_push (.int 125)) rfl rfl ?_
  refine g_call [.ref 213, .int 125] [] rfl rfl rfl (Tot.imp h (fun v3 s2 h => ?_))
  obtain ⟨rfl, h⟩ := h
  change Go _ _ _ _ _ _ [] _ _
  refine g_ld rfl rfl rfl ?_
  refine g_get rfl rfl ?_
  change Go _ _ _ _ _ _ [.ref 262] _ _
  refine g_c [.int 84, .ref 262] (xo_push (.int 84)) rfl rfl ?_
  refine g_ld rfl rfl rfl ?_
  refine g_get rfl rfl ?_
  change Go _ _ _ _ _ _ [.int (s2.1 30), .int 84, .ref 262] _ _
  have ex4 := i_mul (x := 84) (y := s2.1 30) (show (84 : Int32).toInt = 84 by decide) rfl h.1
  have cx4 := ck_mul (x := 84) (y := s2.1 30) (show (84 : Int32).toInt = 84 by decide) rfl h.1
  replace h := h.2 _ ex4
  refine g_ca [.int (84 * (s2.1 30)), .ref 262] xo_imul rfl rfl (fun _ => cx4) ?_
  refine g_ld rfl rfl rfl ?_
  refine g_get rfl rfl ?_
  change Go _ _ _ _ _ _ [.ref 263, .int (84 * (s2.1 30)), .ref 262] _ _
  refine g_ld rfl rfl rfl ?_
  refine g_get rfl rfl ?_
  change Go _ _ _ _ _ _ [.int (s2.1 30), .ref 263, .int (84 * (s2.1 30)), .ref 262] _ _
  refine g_ial rfl rfl (i_in (x := s2.1 30) rfl h.1) ?_
  change Go _ _ _ _ _ _ [.int (s2.2.1 263 (s2.1 30).toInt.toNat), .int (84 * (s2.1 30)), .ref 262] _ _
  replace h := h.2
  have ex5 := i_add (x := (84 * (s2.1 30))) (y := s2.2.1 263 (s2.1 30).toInt.toNat) rfl rfl h.1
  have cx5 := ck_add (x := (84 * (s2.1 30))) (y := s2.2.1 263 (s2.1 30).toInt.toNat) rfl rfl h.1
  replace h := h.2 _ ex5
  refine g_ca [.int ((84 * (s2.1 30)) + (s2.2.1 263 (s2.1 30).toInt.toNat)), .ref 262] xo_iadd rfl rfl (fun _ => cx5) ?_
  refine g_c [.int 100, .int ((84 * (s2.1 30)) + (s2.2.1 263 (s2.1 30).toInt.toNat)), .ref 262] (xo_push (.int 100)) rfl rfl ?_
  refine g_ld rfl rfl rfl ?_
  refine g_get rfl rfl ?_
  change Go _ _ _ _ _ _ [.ref 252, .int 100, .int ((84 * (s2.1 30)) + (s2.2.1 263 (s2.1 30).toInt.toNat)), .ref 262] _ _
  refine g_ld rfl rfl rfl ?_
  refine g_get rfl rfl ?_
  change Go _ _ _ _ _ _ [.int (s2.1 30), .ref 252, .int 100, .int ((84 * (s2.1 30)) + (s2.2.1 263 (s2.1 30).toInt.toNat)), .ref 262] _ _
  refine g_ial rfl rfl (i_in (x := s2.1 30) rfl h.1) ?_
  change Go _ _ _ _ _ _ [.int (s2.2.1 252 (s2.1 30).toInt.toNat), .int 100, .int ((84 * (s2.1 30)) + (s2.2.1 263 (s2.1 30).toInt.toNat)), .ref 262] _ _
  replace h := h.2
  have ex6 := i_add (x := 100) (y := s2.2.1 252 (s2.1 30).toInt.toNat) (show (100 : Int32).toInt = 100 by decide) rfl h.1
  have cx6 := ck_add (x := 100) (y := s2.2.1 252 (s2.1 30).toInt.toNat) (show (100 : Int32).toInt = 100 by decide) rfl h.1
  replace h := h.2 _ ex6
  refine g_ca [.int (100 + (s2.2.1 252 (s2.1 30).toInt.toNat)), .int ((84 * (s2.1 30)) + (s2.2.1 263 (s2.1 30).toInt.toNat)), .ref 262] xo_iadd rfl rfl (fun _ => cx6) ?_
  refine g_ias rfl rfl (i_in (x := ((84 * (s2.1 30)) + (s2.2.1 263 (s2.1 30).toInt.toNat))) rfl h.1) ?_
  replace h := h.2
  replace h := h _ rfl
  refine g_ld rfl rfl rfl ?_
  refine g_get rfl rfl ?_
  change Go _ _ _ _ _ _ [.ref 263] _ _
  refine g_ld rfl rfl rfl ?_
  refine g_get rfl rfl ?_
  change Go _ _ _ _ _ _ [.int ((sa s2 262 ((84 * (s2.1 30)) + (s2.2.1 263 (s2.1 30).toInt.toNat)).toInt.toNat (100 + (s2.2.1 252 (s2.1 30).toInt.toNat))).1 30), .ref 263] _ _
  refine g_c [.int ((sa s2 262 ((84 * (s2.1 30)) + (s2.2.1 263 (s2.1 30).toInt.toNat)).toInt.toNat (100 + (s2.2.1 252 (s2.1 30).toInt.toNat))).1 30), .ref 263, .int ((sa s2 262 ((84 * (s2.1 30)) + (s2.2.1 263 (s2.1 30).toInt.toNat)).toInt.toNat (100 + (s2.2.1 252 (s2.1 30).toInt.toNat))).1 30), .ref 263] xo_dup2 rfl rfl ?_
  refine g_ial rfl rfl (i_in (x := (sa s2 262 ((84 * (s2.1 30)) + (s2.2.1 263 (s2.1 30).toInt.toNat)).toInt.toNat (100 + (s2.2.1 252 (s2.1 30).toInt.toNat))).1 30) rfl h.1) ?_
  change Go _ _ _ _ _ _ [.int ((sa s2 262 ((84 * (s2.1 30)) + (s2.2.1 263 (s2.1 30).toInt.toNat)).toInt.toNat (100 + (s2.2.1 252 (s2.1 30).toInt.toNat))).2.1 263 ((sa s2 262 ((84 * (s2.1 30)) + (s2.2.1 263 (s2.1 30).toInt.toNat)).toInt.toNat (100 + (s2.2.1 252 (s2.1 30).toInt.toNat))).1 30).toInt.toNat), .int ((sa s2 262 ((84 * (s2.1 30)) + (s2.2.1 263 (s2.1 30).toInt.toNat)).toInt.toNat (100 + (s2.2.1 252 (s2.1 30).toInt.toNat))).1 30), .ref 263] _ _
  replace h := h.2
  refine g_c [.int 1, .int ((sa s2 262 ((84 * (s2.1 30)) + (s2.2.1 263 (s2.1 30).toInt.toNat)).toInt.toNat (100 + (s2.2.1 252 (s2.1 30).toInt.toNat))).2.1 263 ((sa s2 262 ((84 * (s2.1 30)) + (s2.2.1 263 (s2.1 30).toInt.toNat)).toInt.toNat (100 + (s2.2.1 252 (s2.1 30).toInt.toNat))).1 30).toInt.toNat), .int ((sa s2 262 ((84 * (s2.1 30)) + (s2.2.1 263 (s2.1 30).toInt.toNat)).toInt.toNat (100 + (s2.2.1 252 (s2.1 30).toInt.toNat))).1 30), .ref 263] (xo_push (.int 1)) rfl rfl ?_
  have ex8 := i_add (x := (sa s2 262 ((84 * (s2.1 30)) + (s2.2.1 263 (s2.1 30).toInt.toNat)).toInt.toNat (100 + (s2.2.1 252 (s2.1 30).toInt.toNat))).2.1 263 ((sa s2 262 ((84 * (s2.1 30)) + (s2.2.1 263 (s2.1 30).toInt.toNat)).toInt.toNat (100 + (s2.2.1 252 (s2.1 30).toInt.toNat))).1 30).toInt.toNat) (y := 1) rfl (show (1 : Int32).toInt = 1 by decide) h.1
  have cx8 := ck_add (x := (sa s2 262 ((84 * (s2.1 30)) + (s2.2.1 263 (s2.1 30).toInt.toNat)).toInt.toNat (100 + (s2.2.1 252 (s2.1 30).toInt.toNat))).2.1 263 ((sa s2 262 ((84 * (s2.1 30)) + (s2.2.1 263 (s2.1 30).toInt.toNat)).toInt.toNat (100 + (s2.2.1 252 (s2.1 30).toInt.toNat))).1 30).toInt.toNat) (y := 1) rfl (show (1 : Int32).toInt = 1 by decide) h.1
  replace h := h.2 _ ex8
  refine g_ca [.int (((sa s2 262 ((84 * (s2.1 30)) + (s2.2.1 263 (s2.1 30).toInt.toNat)).toInt.toNat (100 + (s2.2.1 252 (s2.1 30).toInt.toNat))).2.1 263 ((sa s2 262 ((84 * (s2.1 30)) + (s2.2.1 263 (s2.1 30).toInt.toNat)).toInt.toNat (100 + (s2.2.1 252 (s2.1 30).toInt.toNat))).1 30).toInt.toNat) + 1), .int ((sa s2 262 ((84 * (s2.1 30)) + (s2.2.1 263 (s2.1 30).toInt.toNat)).toInt.toNat (100 + (s2.2.1 252 (s2.1 30).toInt.toNat))).1 30), .ref 263] xo_iadd rfl rfl (fun _ => cx8) ?_
  refine g_ias rfl rfl (i_in (x := (sa s2 262 ((84 * (s2.1 30)) + (s2.2.1 263 (s2.1 30).toInt.toNat)).toInt.toNat (100 + (s2.2.1 252 (s2.1 30).toInt.toNat))).1 30) rfl h.1) ?_
  replace h := h.2
  replace h := h _ rfl
  refine g_ld rfl rfl rfl ?_
  refine g_get rfl rfl ?_
  change Go _ _ _ _ _ _ [.ref 252] _ _
  refine g_ld rfl rfl rfl ?_
  refine g_get rfl rfl ?_
  change Go _ _ _ _ _ _ [.int ((sa (sa s2 262 ((84 * (s2.1 30)) + (s2.2.1 263 (s2.1 30).toInt.toNat)).toInt.toNat (100 + (s2.2.1 252 (s2.1 30).toInt.toNat))) 263 ((sa s2 262 ((84 * (s2.1 30)) + (s2.2.1 263 (s2.1 30).toInt.toNat)).toInt.toNat (100 + (s2.2.1 252 (s2.1 30).toInt.toNat))).1 30).toInt.toNat (((sa s2 262 ((84 * (s2.1 30)) + (s2.2.1 263 (s2.1 30).toInt.toNat)).toInt.toNat (100 + (s2.2.1 252 (s2.1 30).toInt.toNat))).2.1 263 ((sa s2 262 ((84 * (s2.1 30)) + (s2.2.1 263 (s2.1 30).toInt.toNat)).toInt.toNat (100 + (s2.2.1 252 (s2.1 30).toInt.toNat))).1 30).toInt.toNat) + 1)).1 30), .ref 252] _ _
  refine g_c [.int ((sa (sa s2 262 ((84 * (s2.1 30)) + (s2.2.1 263 (s2.1 30).toInt.toNat)).toInt.toNat (100 + (s2.2.1 252 (s2.1 30).toInt.toNat))) 263 ((sa s2 262 ((84 * (s2.1 30)) + (s2.2.1 263 (s2.1 30).toInt.toNat)).toInt.toNat (100 + (s2.2.1 252 (s2.1 30).toInt.toNat))).1 30).toInt.toNat (((sa s2 262 ((84 * (s2.1 30)) + (s2.2.1 263 (s2.1 30).toInt.toNat)).toInt.toNat (100 + (s2.2.1 252 (s2.1 30).toInt.toNat))).2.1 263 ((sa s2 262 ((84 * (s2.1 30)) + (s2.2.1 263 (s2.1 30).toInt.toNat)).toInt.toNat (100 + (s2.2.1 252 (s2.1 30).toInt.toNat))).1 30).toInt.toNat) + 1)).1 30), .ref 252, .int ((sa (sa s2 262 ((84 * (s2.1 30)) + (s2.2.1 263 (s2.1 30).toInt.toNat)).toInt.toNat (100 + (s2.2.1 252 (s2.1 30).toInt.toNat))) 263 ((sa s2 262 ((84 * (s2.1 30)) + (s2.2.1 263 (s2.1 30).toInt.toNat)).toInt.toNat (100 + (s2.2.1 252 (s2.1 30).toInt.toNat))).1 30).toInt.toNat (((sa s2 262 ((84 * (s2.1 30)) + (s2.2.1 263 (s2.1 30).toInt.toNat)).toInt.toNat (100 + (s2.2.1 252 (s2.1 30).toInt.toNat))).2.1 263 ((sa s2 262 ((84 * (s2.1 30)) + (s2.2.1 263 (s2.1 30).toInt.toNat)).toInt.toNat (100 + (s2.2.1 252 (s2.1 30).toInt.toNat))).1 30).toInt.toNat) + 1)).1 30), .ref 252] xo_dup2 rfl rfl ?_
  refine g_ial rfl rfl (i_in (x := (sa (sa s2 262 ((84 * (s2.1 30)) + (s2.2.1 263 (s2.1 30).toInt.toNat)).toInt.toNat (100 + (s2.2.1 252 (s2.1 30).toInt.toNat))) 263 ((sa s2 262 ((84 * (s2.1 30)) + (s2.2.1 263 (s2.1 30).toInt.toNat)).toInt.toNat (100 + (s2.2.1 252 (s2.1 30).toInt.toNat))).1 30).toInt.toNat (((sa s2 262 ((84 * (s2.1 30)) + (s2.2.1 263 (s2.1 30).toInt.toNat)).toInt.toNat (100 + (s2.2.1 252 (s2.1 30).toInt.toNat))).2.1 263 ((sa s2 262 ((84 * (s2.1 30)) + (s2.2.1 263 (s2.1 30).toInt.toNat)).toInt.toNat (100 + (s2.2.1 252 (s2.1 30).toInt.toNat))).1 30).toInt.toNat) + 1)).1 30) rfl h.1) ?_
  change Go _ _ _ _ _ _ [.int ((sa (sa s2 262 ((84 * (s2.1 30)) + (s2.2.1 263 (s2.1 30).toInt.toNat)).toInt.toNat (100 + (s2.2.1 252 (s2.1 30).toInt.toNat))) 263 ((sa s2 262 ((84 * (s2.1 30)) + (s2.2.1 263 (s2.1 30).toInt.toNat)).toInt.toNat (100 + (s2.2.1 252 (s2.1 30).toInt.toNat))).1 30).toInt.toNat (((sa s2 262 ((84 * (s2.1 30)) + (s2.2.1 263 (s2.1 30).toInt.toNat)).toInt.toNat (100 + (s2.2.1 252 (s2.1 30).toInt.toNat))).2.1 263 ((sa s2 262 ((84 * (s2.1 30)) + (s2.2.1 263 (s2.1 30).toInt.toNat)).toInt.toNat (100 + (s2.2.1 252 (s2.1 30).toInt.toNat))).1 30).toInt.toNat) + 1)).2.1 252 ((sa (sa s2 262 ((84 * (s2.1 30)) + (s2.2.1 263 (s2.1 30).toInt.toNat)).toInt.toNat (100 + (s2.2.1 252 (s2.1 30).toInt.toNat))) 263 ((sa s2 262 ((84 * (s2.1 30)) + (s2.2.1 263 (s2.1 30).toInt.toNat)).toInt.toNat (100 + (s2.2.1 252 (s2.1 30).toInt.toNat))).1 30).toInt.toNat (((sa s2 262 ((84 * (s2.1 30)) + (s2.2.1 263 (s2.1 30).toInt.toNat)).toInt.toNat (100 + (s2.2.1 252 (s2.1 30).toInt.toNat))).2.1 263 ((sa s2 262 ((84 * (s2.1 30)) + (s2.2.1 263 (s2.1 30).toInt.toNat)).toInt.toNat (100 + (s2.2.1 252 (s2.1 30).toInt.toNat))).1 30).toInt.toNat) + 1)).1 30).toInt.toNat), .int ((sa (sa s2 262 ((84 * (s2.1 30)) + (s2.2.1 263 (s2.1 30).toInt.toNat)).toInt.toNat (100 + (s2.2.1 252 (s2.1 30).toInt.toNat))) 263 ((sa s2 262 ((84 * (s2.1 30)) + (s2.2.1 263 (s2.1 30).toInt.toNat)).toInt.toNat (100 + (s2.2.1 252 (s2.1 30).toInt.toNat))).1 30).toInt.toNat (((sa s2 262 ((84 * (s2.1 30)) + (s2.2.1 263 (s2.1 30).toInt.toNat)).toInt.toNat (100 + (s2.2.1 252 (s2.1 30).toInt.toNat))).2.1 263 ((sa s2 262 ((84 * (s2.1 30)) + (s2.2.1 263 (s2.1 30).toInt.toNat)).toInt.toNat (100 + (s2.2.1 252 (s2.1 30).toInt.toNat))).1 30).toInt.toNat) + 1)).1 30), .ref 252] _ _
  replace h := h.2
  refine g_c [.int 1, .int ((sa (sa s2 262 ((84 * (s2.1 30)) + (s2.2.1 263 (s2.1 30).toInt.toNat)).toInt.toNat (100 + (s2.2.1 252 (s2.1 30).toInt.toNat))) 263 ((sa s2 262 ((84 * (s2.1 30)) + (s2.2.1 263 (s2.1 30).toInt.toNat)).toInt.toNat (100 + (s2.2.1 252 (s2.1 30).toInt.toNat))).1 30).toInt.toNat (((sa s2 262 ((84 * (s2.1 30)) + (s2.2.1 263 (s2.1 30).toInt.toNat)).toInt.toNat (100 + (s2.2.1 252 (s2.1 30).toInt.toNat))).2.1 263 ((sa s2 262 ((84 * (s2.1 30)) + (s2.2.1 263 (s2.1 30).toInt.toNat)).toInt.toNat (100 + (s2.2.1 252 (s2.1 30).toInt.toNat))).1 30).toInt.toNat) + 1)).2.1 252 ((sa (sa s2 262 ((84 * (s2.1 30)) + (s2.2.1 263 (s2.1 30).toInt.toNat)).toInt.toNat (100 + (s2.2.1 252 (s2.1 30).toInt.toNat))) 263 ((sa s2 262 ((84 * (s2.1 30)) + (s2.2.1 263 (s2.1 30).toInt.toNat)).toInt.toNat (100 + (s2.2.1 252 (s2.1 30).toInt.toNat))).1 30).toInt.toNat (((sa s2 262 ((84 * (s2.1 30)) + (s2.2.1 263 (s2.1 30).toInt.toNat)).toInt.toNat (100 + (s2.2.1 252 (s2.1 30).toInt.toNat))).2.1 263 ((sa s2 262 ((84 * (s2.1 30)) + (s2.2.1 263 (s2.1 30).toInt.toNat)).toInt.toNat (100 + (s2.2.1 252 (s2.1 30).toInt.toNat))).1 30).toInt.toNat) + 1)).1 30).toInt.toNat), .int ((sa (sa s2 262 ((84 * (s2.1 30)) + (s2.2.1 263 (s2.1 30).toInt.toNat)).toInt.toNat (100 + (s2.2.1 252 (s2.1 30).toInt.toNat))) 263 ((sa s2 262 ((84 * (s2.1 30)) + (s2.2.1 263 (s2.1 30).toInt.toNat)).toInt.toNat (100 + (s2.2.1 252 (s2.1 30).toInt.toNat))).1 30).toInt.toNat (((sa s2 262 ((84 * (s2.1 30)) + (s2.2.1 263 (s2.1 30).toInt.toNat)).toInt.toNat (100 + (s2.2.1 252 (s2.1 30).toInt.toNat))).2.1 263 ((sa s2 262 ((84 * (s2.1 30)) + (s2.2.1 263 (s2.1 30).toInt.toNat)).toInt.toNat (100 + (s2.2.1 252 (s2.1 30).toInt.toNat))).1 30).toInt.toNat) + 1)).1 30), .ref 252] (xo_push (.int 1)) rfl rfl ?_
  have ex10 := i_add (x := (sa (sa s2 262 ((84 * (s2.1 30)) + (s2.2.1 263 (s2.1 30).toInt.toNat)).toInt.toNat (100 + (s2.2.1 252 (s2.1 30).toInt.toNat))) 263 ((sa s2 262 ((84 * (s2.1 30)) + (s2.2.1 263 (s2.1 30).toInt.toNat)).toInt.toNat (100 + (s2.2.1 252 (s2.1 30).toInt.toNat))).1 30).toInt.toNat (((sa s2 262 ((84 * (s2.1 30)) + (s2.2.1 263 (s2.1 30).toInt.toNat)).toInt.toNat (100 + (s2.2.1 252 (s2.1 30).toInt.toNat))).2.1 263 ((sa s2 262 ((84 * (s2.1 30)) + (s2.2.1 263 (s2.1 30).toInt.toNat)).toInt.toNat (100 + (s2.2.1 252 (s2.1 30).toInt.toNat))).1 30).toInt.toNat) + 1)).2.1 252 ((sa (sa s2 262 ((84 * (s2.1 30)) + (s2.2.1 263 (s2.1 30).toInt.toNat)).toInt.toNat (100 + (s2.2.1 252 (s2.1 30).toInt.toNat))) 263 ((sa s2 262 ((84 * (s2.1 30)) + (s2.2.1 263 (s2.1 30).toInt.toNat)).toInt.toNat (100 + (s2.2.1 252 (s2.1 30).toInt.toNat))).1 30).toInt.toNat (((sa s2 262 ((84 * (s2.1 30)) + (s2.2.1 263 (s2.1 30).toInt.toNat)).toInt.toNat (100 + (s2.2.1 252 (s2.1 30).toInt.toNat))).2.1 263 ((sa s2 262 ((84 * (s2.1 30)) + (s2.2.1 263 (s2.1 30).toInt.toNat)).toInt.toNat (100 + (s2.2.1 252 (s2.1 30).toInt.toNat))).1 30).toInt.toNat) + 1)).1 30).toInt.toNat) (y := 1) rfl (show (1 : Int32).toInt = 1 by decide) h.1
  have cx10 := ck_add (x := (sa (sa s2 262 ((84 * (s2.1 30)) + (s2.2.1 263 (s2.1 30).toInt.toNat)).toInt.toNat (100 + (s2.2.1 252 (s2.1 30).toInt.toNat))) 263 ((sa s2 262 ((84 * (s2.1 30)) + (s2.2.1 263 (s2.1 30).toInt.toNat)).toInt.toNat (100 + (s2.2.1 252 (s2.1 30).toInt.toNat))).1 30).toInt.toNat (((sa s2 262 ((84 * (s2.1 30)) + (s2.2.1 263 (s2.1 30).toInt.toNat)).toInt.toNat (100 + (s2.2.1 252 (s2.1 30).toInt.toNat))).2.1 263 ((sa s2 262 ((84 * (s2.1 30)) + (s2.2.1 263 (s2.1 30).toInt.toNat)).toInt.toNat (100 + (s2.2.1 252 (s2.1 30).toInt.toNat))).1 30).toInt.toNat) + 1)).2.1 252 ((sa (sa s2 262 ((84 * (s2.1 30)) + (s2.2.1 263 (s2.1 30).toInt.toNat)).toInt.toNat (100 + (s2.2.1 252 (s2.1 30).toInt.toNat))) 263 ((sa s2 262 ((84 * (s2.1 30)) + (s2.2.1 263 (s2.1 30).toInt.toNat)).toInt.toNat (100 + (s2.2.1 252 (s2.1 30).toInt.toNat))).1 30).toInt.toNat (((sa s2 262 ((84 * (s2.1 30)) + (s2.2.1 263 (s2.1 30).toInt.toNat)).toInt.toNat (100 + (s2.2.1 252 (s2.1 30).toInt.toNat))).2.1 263 ((sa s2 262 ((84 * (s2.1 30)) + (s2.2.1 263 (s2.1 30).toInt.toNat)).toInt.toNat (100 + (s2.2.1 252 (s2.1 30).toInt.toNat))).1 30).toInt.toNat) + 1)).1 30).toInt.toNat) (y := 1) rfl (show (1 : Int32).toInt = 1 by decide) h.1
  replace h := h.2 _ ex10
  refine g_ca [.int (((sa (sa s2 262 ((84 * (s2.1 30)) + (s2.2.1 263 (s2.1 30).toInt.toNat)).toInt.toNat (100 + (s2.2.1 252 (s2.1 30).toInt.toNat))) 263 ((sa s2 262 ((84 * (s2.1 30)) + (s2.2.1 263 (s2.1 30).toInt.toNat)).toInt.toNat (100 + (s2.2.1 252 (s2.1 30).toInt.toNat))).1 30).toInt.toNat (((sa s2 262 ((84 * (s2.1 30)) + (s2.2.1 263 (s2.1 30).toInt.toNat)).toInt.toNat (100 + (s2.2.1 252 (s2.1 30).toInt.toNat))).2.1 263 ((sa s2 262 ((84 * (s2.1 30)) + (s2.2.1 263 (s2.1 30).toInt.toNat)).toInt.toNat (100 + (s2.2.1 252 (s2.1 30).toInt.toNat))).1 30).toInt.toNat) + 1)).2.1 252 ((sa (sa s2 262 ((84 * (s2.1 30)) + (s2.2.1 263 (s2.1 30).toInt.toNat)).toInt.toNat (100 + (s2.2.1 252 (s2.1 30).toInt.toNat))) 263 ((sa s2 262 ((84 * (s2.1 30)) + (s2.2.1 263 (s2.1 30).toInt.toNat)).toInt.toNat (100 + (s2.2.1 252 (s2.1 30).toInt.toNat))).1 30).toInt.toNat (((sa s2 262 ((84 * (s2.1 30)) + (s2.2.1 263 (s2.1 30).toInt.toNat)).toInt.toNat (100 + (s2.2.1 252 (s2.1 30).toInt.toNat))).2.1 263 ((sa s2 262 ((84 * (s2.1 30)) + (s2.2.1 263 (s2.1 30).toInt.toNat)).toInt.toNat (100 + (s2.2.1 252 (s2.1 30).toInt.toNat))).1 30).toInt.toNat) + 1)).1 30).toInt.toNat) + 1), .int ((sa (sa s2 262 ((84 * (s2.1 30)) + (s2.2.1 263 (s2.1 30).toInt.toNat)).toInt.toNat (100 + (s2.2.1 252 (s2.1 30).toInt.toNat))) 263 ((sa s2 262 ((84 * (s2.1 30)) + (s2.2.1 263 (s2.1 30).toInt.toNat)).toInt.toNat (100 + (s2.2.1 252 (s2.1 30).toInt.toNat))).1 30).toInt.toNat (((sa s2 262 ((84 * (s2.1 30)) + (s2.2.1 263 (s2.1 30).toInt.toNat)).toInt.toNat (100 + (s2.2.1 252 (s2.1 30).toInt.toNat))).2.1 263 ((sa s2 262 ((84 * (s2.1 30)) + (s2.2.1 263 (s2.1 30).toInt.toNat)).toInt.toNat (100 + (s2.2.1 252 (s2.1 30).toInt.toNat))).1 30).toInt.toNat) + 1)).1 30), .ref 252] xo_iadd rfl rfl (fun _ => cx10) ?_
  refine g_ias rfl rfl (i_in (x := (sa (sa s2 262 ((84 * (s2.1 30)) + (s2.2.1 263 (s2.1 30).toInt.toNat)).toInt.toNat (100 + (s2.2.1 252 (s2.1 30).toInt.toNat))) 263 ((sa s2 262 ((84 * (s2.1 30)) + (s2.2.1 263 (s2.1 30).toInt.toNat)).toInt.toNat (100 + (s2.2.1 252 (s2.1 30).toInt.toNat))).1 30).toInt.toNat (((sa s2 262 ((84 * (s2.1 30)) + (s2.2.1 263 (s2.1 30).toInt.toNat)).toInt.toNat (100 + (s2.2.1 252 (s2.1 30).toInt.toNat))).2.1 263 ((sa s2 262 ((84 * (s2.1 30)) + (s2.2.1 263 (s2.1 30).toInt.toNat)).toInt.toNat (100 + (s2.2.1 252 (s2.1 30).toInt.toNat))).1 30).toInt.toNat) + 1)).1 30) rfl h.1) ?_
  replace h := h.2
  replace h := h _ rfl
  exact g_ret0 rfl h
def w_184_103 (T : Nat → List Value → yS → (Option Value → yS → Prop) → Prop)  (a1 : Int32) (s : yS) (P : Option Value → yS → Prop) : Prop :=
  T 167 [.ref 213, .int 41] s (fun v2 s1 => v2 = none ∧ ((0 ≤ a1.toInt ∧ a1.toInt < 120) ∧ (∀ s3, s3 = sa s1 257 a1.toInt.toNat (s1.1 42) → T 183 [.ref 213] s3 (fun v5 s4 => v5 = none ∧ (T 167 [.ref 213, .int 123] s4 (fun v7 s6 => v7 = none ∧ (T 169 [.ref 213, .int 4] s6 (fun v9 s8 => v9 = none ∧ (∀ s10, s10 = sf s8 27 0 → (¬ ((s10.1 8).toInt = 0) → w_184_133 T  a1 a1 (-1) s10 P) ∧ ((s10.1 8).toInt = 0 → T 175 [.ref 213] s10 (fun v12 s11 => ∃ x13, v12 = some (.int x13) ∧ (w_184_133 T  a1 a1 x13 s11 P))))))))))))
set_option maxRecDepth 20000 in
theorem k_184_103 {d : Nat}  {a1 : Int32} {s : yS} {P : Option Value → yS → Prop}  (h : w_184_103 (Tot d)  a1 s P) : Go d 3 (none) xE_184 (xE_184.drop 103) [.ref 213, .int a1, .null, .null] [] s P := by
  unfold w_184_103 at h
  refine g_ld rfl rfl rfl ?_
  refine g_c [.int 41, .ref 213] (xo_push (.int 41)) rfl rfl ?_
  refine g_call [.ref 213, .int 41] [] rfl rfl rfl (Tot.imp h (fun v2 s1 h => ?_))
  obtain ⟨rfl, h⟩ := h
  change Go _ _ _ _ _ _ [] _ _
  refine g_ld rfl rfl rfl ?_
  refine g_get rfl rfl ?_
  change Go _ _ _ _ _ _ [.ref 257] _ _
  refine g_ld rfl rfl rfl ?_
  refine g_ld rfl rfl rfl ?_
  refine g_get rfl rfl ?_
  change Go _ _ _ _ _ _ [.int (s1.1 42), .int a1, .ref 257] _ _
  refine g_ias rfl rfl (i_in (x := a1) rfl h.1) ?_
  replace h := h.2
  replace h := h _ rfl
  refine g_ld rfl rfl rfl ?_
  refine g_call [.ref 213] [] rfl rfl rfl (Tot.imp h (fun v5 s4 h => ?_))
  obtain ⟨rfl, h⟩ := h
  change Go _ _ _ _ _ _ [] _ _
  refine g_ld rfl rfl rfl ?_
  refine g_c [.int 123, .ref 213] (xo_push (.int 123)) rfl rfl ?_
  refine g_call [.ref 213, .int 123] [] rfl rfl rfl (Tot.imp h (fun v7 s6 h => ?_))
  obtain ⟨rfl, h⟩ := h
  change Go _ _ _ _ _ _ [] _ _
  refine g_ld rfl rfl rfl ?_
  refine g_c [.int 4, .ref 213] (xo_push (.int 4)) rfl rfl ?_
  refine g_call [.ref 213, .int 4] [] rfl rfl rfl (Tot.imp h (fun v9 s8 h => ?_))
  obtain ⟨rfl, h⟩ := h
  change Go _ _ _ _ _ _ [] _ _
  refine g_ld rfl rfl rfl ?_
  refine g_c [.int 0, .ref 213] (xo_push (.int 0)) rfl rfl ?_
  refine g_put rfl rfl rfl ?_
  replace h := h _ rfl
  refine g_ld rfl rfl rfl ?_
  refine g_get rfl rfl ?_
  change Go _ _ _ _ _ _ [.ref 258] _ _
  refine g_ld rfl rfl rfl ?_
  refine g_ld rfl rfl rfl ?_
  refine g_get rfl rfl ?_
  change Go _ _ _ _ _ _ [.int ((sf s8 27 0).1 8), .int a1, .ref 258] _ _
  refine g_brN rfl rfl ⟨fun hc => ?_, fun hc => ?_⟩
  · replace h := h.1 (fun q => hc ((i_eq (x := (sf s8 27 0).1 8) (y := 0) rfl (show (0 : Int32).toInt = 0 by decide)).mpr q))
    refine g_c [.int (-1), .int a1, .ref 258] (xo_push (.int (-1))) rfl rfl ?_
    exact k_184_133  h
  · replace h := h.2 ((i_eq (x := (sf s8 27 0).1 8) (y := 0) rfl (show (0 : Int32).toInt = 0 by decide)).mp hc)
    refine g_ld rfl rfl rfl ?_
    refine g_call [.ref 213] [.int a1, .ref 258] rfl rfl rfl (Tot.imp h (fun v12 s11 h => ?_))
    obtain ⟨x13, rfl, h⟩ := h
    change Go _ _ _ _ _ _ [.int x13, .int a1, .ref 258] _ _
    refine g_go rfl ?_
    exact k_184_133  h
def w_184_88 (T : Nat → List Value → yS → (Option Value → yS → Prop) → Prop) (R70 : Int32 → yS → Prop) (a1 : Int32) (s : yS) (P : Option Value → yS → Prop) : Prop :=
  T 170 [.ref 213] s (fun v2 s1 => ∃ x3, v2 = some (.int x3) ∧ ((0 ≤ a1.toInt ∧ a1.toInt < 120) ∧ ((-2147483648 ≤ (s1.2.1 255 a1.toInt.toNat).toInt + 1 ∧ (s1.2.1 255 a1.toInt.toNat).toInt + 1 ≤ 2147483647) ∧ (∀ x4 : Int32, x4.toInt = (s1.2.1 255 a1.toInt.toNat).toInt + 1 → (0 ≤ a1.toInt ∧ a1.toInt < 120) ∧ (∀ s5, s5 = sa s1 255 a1.toInt.toNat x4 → R70 a1  s5)))))
set_option maxRecDepth 20000 in
theorem k_184_88 {d : Nat} {R70 : Int32 → yS → Prop} {a1 : Int32} {s : yS} {P : Option Value → yS → Prop} (r70 : ∀ a1 s, R70 a1 s → Go d 3 (none) xE_184 (xE_184.drop 70) [.ref 213, .int a1, .null, .null] [] s P) (h : w_184_88 (Tot d) R70 a1 s P) : Go d 3 (none) xE_184 (xE_184.drop 88) [.ref 213, .int a1, .null, .null] [] s P := by
  unfold w_184_88 at h
  refine g_ld rfl rfl rfl ?_
  refine g_call [.ref 213] [] rfl rfl rfl (Tot.imp h (fun v2 s1 h => ?_))
  obtain ⟨x3, rfl, h⟩ := h
  change Go _ _ _ _ _ _ [.int x3] _ _
  refine g_st [.ref 213, .int a1, .int x3, .null] rfl rfl rfl ?_
  refine g_ld rfl rfl rfl ?_
  refine g_get rfl rfl ?_
  change Go _ _ _ _ _ _ [.ref 255] _ _
  refine g_ld rfl rfl rfl ?_
  refine g_c [.int a1, .ref 255, .int a1, .ref 255] xo_dup2 rfl rfl ?_
  refine g_ial rfl rfl (i_in (x := a1) rfl h.1) ?_
  change Go _ _ _ _ _ _ [.int (s1.2.1 255 a1.toInt.toNat), .int a1, .ref 255] _ _
  replace h := h.2
  refine g_c [.int 1, .int (s1.2.1 255 a1.toInt.toNat), .int a1, .ref 255] (xo_push (.int 1)) rfl rfl ?_
  have ex4 := i_add (x := s1.2.1 255 a1.toInt.toNat) (y := 1) rfl (show (1 : Int32).toInt = 1 by decide) h.1
  have cx4 := ck_add (x := s1.2.1 255 a1.toInt.toNat) (y := 1) rfl (show (1 : Int32).toInt = 1 by decide) h.1
  replace h := h.2 _ ex4
  refine g_ca [.int ((s1.2.1 255 a1.toInt.toNat) + 1), .int a1, .ref 255] xo_iadd rfl rfl (fun _ => cx4) ?_
  refine g_ias rfl rfl (i_in (x := a1) rfl h.1) ?_
  replace h := h.2
  replace h := h _ rfl
  refine g_go rfl ?_
  refine g_fg 2 ?_
  exact r70 a1  (sa s1 255 a1.toInt.toNat ((s1.2.1 255 a1.toInt.toNat) + 1)) h
def w_184_70 (T : Nat → List Value → yS → (Option Value → yS → Prop) → Prop) (R70 : Int32 → yS → Prop) (a1 : Int32) (s : yS) (P : Option Value → yS → Prop) : Prop :=
  T 168 [.ref 213, .int 44] s (fun v2 s1 => ∃ x3, v2 = some (.int x3) ∧ ((x3.toInt = 0 → T 167 [.ref 213, .int 93] s1 (fun v5 s4 => v5 = none ∧ (w_184_103 T  a1  s4 P))) ∧ (¬ (x3.toInt = 0) → (0 ≤ a1.toInt ∧ a1.toInt < 120) ∧ ((¬ ((s1.2.1 255 a1.toInt.toNat).toInt = 6) → w_184_88 T R70 a1  s1 P) ∧ ((s1.2.1 255 a1.toInt.toNat).toInt = 6 → T 166 [.ref 213] s1 (fun v7 s6 => ∃ x8, v7 = some (.int x8) ∧ ((x8.toInt = 0 → w_184_88 T R70 a1  s6 P) ∧ (¬ (x8.toInt = 0) → T 163 [.ref 213, .int 5, .int (s6.1 7)] s6 (fun v10 s9 => v10 = none ∧ (w_184_88 T R70 a1  s9 P))))))))))
set_option maxRecDepth 20000 in
theorem k_184_70 {d : Nat} {R70 : Int32 → yS → Prop} {a1 : Int32} {s : yS} {P : Option Value → yS → Prop} (r70 : ∀ a1 s, R70 a1 s → Go d 3 (none) xE_184 (xE_184.drop 70) [.ref 213, .int a1, .null, .null] [] s P) (h : w_184_70 (Tot d) R70 a1 s P) : Go d 3 (none) xE_184 (xE_184.drop 70) [.ref 213, .int a1, .null, .null] [] s P := by
  unfold w_184_70 at h
  refine g_ld rfl rfl rfl ?_
  refine g_c [.int 44, .ref 213] (xo_push (.int 44)) rfl rfl ?_
  refine g_call [.ref 213, .int 44] [] rfl rfl rfl (Tot.imp h (fun v2 s1 h => ?_))
  obtain ⟨x3, rfl, h⟩ := h
  change Go _ _ _ _ _ _ [.int x3] _ _
  refine g_brP rfl rfl ⟨fun hc => ?_, fun hc => ?_⟩
  · replace h := h.1 ((i_eq (x := x3) (y := 0) rfl (show (0 : Int32).toInt = 0 by decide)).mp hc)
    refine g_ld rfl rfl rfl ?_
    refine g_c [.int 93, .ref 213] (xo_push (.int 93)) rfl rfl ?_
    refine g_call [.ref 213, .int 93] [] rfl rfl rfl (Tot.imp h (fun v5 s4 h => ?_))
    obtain ⟨rfl, h⟩ := h
    change Go _ _ _ _ _ _ [] _ _
    exact k_184_103  h
  · replace h := h.2 (fun q => hc ((i_eq (x := x3) (y := 0) rfl (show (0 : Int32).toInt = 0 by decide)).mpr q))
    refine g_ld rfl rfl rfl ?_
    refine g_get rfl rfl ?_
    change Go _ _ _ _ _ _ [.ref 255] _ _
    refine g_ld rfl rfl rfl ?_
    refine g_ial rfl rfl (i_in (x := a1) rfl h.1) ?_
    change Go _ _ _ _ _ _ [.int (s1.2.1 255 a1.toInt.toNat)] _ _
    replace h := h.2
    refine g_c [.int 6, .int (s1.2.1 255 a1.toInt.toNat)] (xo_push (.int 6)) rfl rfl ?_
    refine g_brN rfl rfl ⟨fun hc => ?_, fun hc => ?_⟩
    · replace h := h.1 (fun q => hc ((i_eq (x := s1.2.1 255 a1.toInt.toNat) (y := 6) rfl (show (6 : Int32).toInt = 6 by decide)).mpr q))
      exact k_184_88 r70 h
    · replace h := h.2 ((i_eq (x := s1.2.1 255 a1.toInt.toNat) (y := 6) rfl (show (6 : Int32).toInt = 6 by decide)).mp hc)
      refine g_ld rfl rfl rfl ?_
      refine g_call [.ref 213] [] rfl rfl rfl (Tot.imp h (fun v7 s6 h => ?_))
      obtain ⟨x8, rfl, h⟩ := h
      change Go _ _ _ _ _ _ [.int x8] _ _
      refine g_brP rfl rfl ⟨fun hc => ?_, fun hc => ?_⟩
      · replace h := h.1 ((i_eq (x := x8) (y := 0) rfl (show (0 : Int32).toInt = 0 by decide)).mp hc)
        exact k_184_88 r70 h
      · replace h := h.2 (fun q => hc ((i_eq (x := x8) (y := 0) rfl (show (0 : Int32).toInt = 0 by decide)).mpr q))
        refine g_ld rfl rfl rfl ?_
        refine g_c [.int 5, .ref 213] (xo_push (.int 5)) rfl rfl ?_
        refine g_ld rfl rfl rfl ?_
        refine g_get rfl rfl ?_
        change Go _ _ _ _ _ _ [.int (s6.1 7), .int 5, .ref 213] _ _
        refine g_call [.ref 213, .int 5, .int (s6.1 7)] [] rfl rfl rfl (Tot.imp h (fun v10 s9 h => ?_))
        obtain ⟨rfl, h⟩ := h
        change Go _ _ _ _ _ _ [] _ _
        exact k_184_88 r70 h
def wl_184_70 (T : Nat → List Value → yS → (Option Value → yS → Prop) → Prop)  (a1 : Int32) (s : yS) (P : Option Value → yS → Prop) : Prop :=
  ∃ (I : Int32 → yS → Prop) (μ : Int32 → yS → Nat), I a1 s ∧ ∀ (a1 : Int32) (s : yS), I a1 s → w_184_70 T (fun a1' s' => I a1' s' ∧ μ a1' s' < μ a1 s) a1 s P
theorem kl_184_70 {d : Nat}  {a1 : Int32} {s : yS} {P : Option Value → yS → Prop}  (h : wl_184_70 (Tot d)  a1 s P) : Go d 3 (none) xE_184 (xE_184.drop 70) [.ref 213, .int a1, .null, .null] [] s P := by
  obtain ⟨I, μ, h0, h1⟩ := h
  have key : ∀ (n : Nat) (a1 : Int32) (s : yS), μ a1 s = n → I a1 s → Go d 3 (none) xE_184 (xE_184.drop 70) [.ref 213, .int a1, .null, .null] [] s P := by
    intro n
    induction n using Nat.strongRecOn with
    | ind n ih =>
      intro a1 s e hI
      exact k_184_70 (fun a1' s' q => ih _ (by rw [← e]; exact q.2) _ _  rfl q.1) (h1 a1 s hI)
  exact key _ a1 s rfl h0
def w_184_0 (T : Nat → List Value → yS → (Option Value → yS → Prop) → Prop)   (s : yS) (P : Option Value → yS → Prop) : Prop :=
  (-2147483648 ≤ 60 * (s.1 30).toInt ∧ 60 * (s.1 30).toInt ≤ 2147483647) ∧ (∀ x1 : Int32, x1.toInt = 60 * (s.1 30).toInt → (0 ≤ (s.1 30).toInt ∧ (s.1 30).toInt < 2) ∧ ((-2147483648 ≤ x1.toInt + (s.2.1 252 (s.1 30).toInt.toNat).toInt ∧ x1.toInt + (s.2.1 252 (s.1 30).toInt.toNat).toInt ≤ 2147483647) ∧ (∀ x2 : Int32, x2.toInt = x1.toInt + (s.2.1 252 (s.1 30).toInt.toNat).toInt → (0 ≤ (s.1 30).toInt ∧ (s.1 30).toInt < 2) ∧ ((¬ ((s.2.1 252 (s.1 30).toInt.toNat).toInt = 60) → (-2147483648 ≤ (s.1 7).toInt + 1 ∧ (s.1 7).toInt + 1 ≤ 2147483647) ∧ (∀ x3 : Int32, x3.toInt = (s.1 7).toInt + 1 → ∀ s4, s4 = sf s 7 x3 → T 167 [.ref 213, .int 40] s4 (fun v6 s5 => v6 = none ∧ (T 170 [.ref 213] s5 (fun v8 s7 => ∃ x9, v8 = some (.int x9) ∧ ((0 ≤ x2.toInt ∧ x2.toInt < 120) ∧ (∀ s10, s10 = sa s7 253 x2.toInt.toNat x9 → T 170 [.ref 213] s10 (fun v12 s11 => ∃ x13, v12 = some (.int x13) ∧ ((0 ≤ x2.toInt ∧ x2.toInt < 120) ∧ (∀ s14, s14 = sa s11 254 x2.toInt.toNat x13 → (0 ≤ x2.toInt ∧ x2.toInt < 120) ∧ (∀ s15, s15 = sa s14 255 x2.toInt.toNat 0 → (0 ≤ x2.toInt ∧ x2.toInt < 120) ∧ (∀ s16, s16 = sa s15 256 x2.toInt.toNat (-1) → T 168 [.ref 213, .int 91] s16 (fun v18 s17 => ∃ x19, v18 = some (.int x19) ∧ ((x19.toInt = 0 → w_184_103 T  x2  s17 P) ∧ (¬ (x19.toInt = 0) → T 170 [.ref 213] s17 (fun v21 s20 => ∃ x22, v21 = some (.int x22) ∧ ((0 ≤ x2.toInt ∧ x2.toInt < 120) ∧ (∀ s23, s23 = sa s20 256 x2.toInt.toNat x22 → (0 ≤ x2.toInt ∧ x2.toInt < 120) ∧ (∀ s24, s24 = sa s23 255 x2.toInt.toNat 1 → wl_184_70 T  x2  s24 P))))))))))))))))))) ∧ ((s.2.1 252 (s.1 30).toInt.toNat).toInt = 60 → T 163 [.ref 213, .int 5, .int (s.1 7)] s (fun v26 s25 => v26 = none ∧ (P none s25)))))))
set_option maxRecDepth 20000 in
theorem k_184_0 {d : Nat}   {s : yS} {P : Option Value → yS → Prop}  (h : w_184_0 (Tot d)   s P) : Go d 3 (none) xE_184 (xE_184.drop 0) [.ref 213, .null, .null, .null] [] s P := by
  unfold w_184_0 at h
  refine g_c [.int 60] (xo_push (.int 60)) rfl rfl ?_
  refine g_ld rfl rfl rfl ?_
  refine g_get rfl rfl ?_
  change Go _ _ _ _ _ _ [.int (s.1 30), .int 60] _ _
  have ex1 := i_mul (x := 60) (y := s.1 30) (show (60 : Int32).toInt = 60 by decide) rfl h.1
  have cx1 := ck_mul (x := 60) (y := s.1 30) (show (60 : Int32).toInt = 60 by decide) rfl h.1
  replace h := h.2 _ ex1
  refine g_ca [.int (60 * (s.1 30))] xo_imul rfl rfl (fun _ => cx1) ?_
  refine g_ld rfl rfl rfl ?_
  refine g_get rfl rfl ?_
  change Go _ _ _ _ _ _ [.ref 252, .int (60 * (s.1 30))] _ _
  refine g_ld rfl rfl rfl ?_
  refine g_get rfl rfl ?_
  change Go _ _ _ _ _ _ [.int (s.1 30), .ref 252, .int (60 * (s.1 30))] _ _
  refine g_ial rfl rfl (i_in (x := s.1 30) rfl h.1) ?_
  change Go _ _ _ _ _ _ [.int (s.2.1 252 (s.1 30).toInt.toNat), .int (60 * (s.1 30))] _ _
  replace h := h.2
  have ex2 := i_add (x := (60 * (s.1 30))) (y := s.2.1 252 (s.1 30).toInt.toNat) rfl rfl h.1
  have cx2 := ck_add (x := (60 * (s.1 30))) (y := s.2.1 252 (s.1 30).toInt.toNat) rfl rfl h.1
  replace h := h.2 _ ex2
  refine g_ca [.int ((60 * (s.1 30)) + (s.2.1 252 (s.1 30).toInt.toNat))] xo_iadd rfl rfl (fun _ => cx2) ?_
  refine g_st [.ref 213, .int ((60 * (s.1 30)) + (s.2.1 252 (s.1 30).toInt.toNat)), .null, .null] rfl rfl rfl ?_
  refine g_ld rfl rfl rfl ?_
  refine g_get rfl rfl ?_
  change Go _ _ _ _ _ _ [.ref 252] _ _
  refine g_ld rfl rfl rfl ?_
  refine g_get rfl rfl ?_
  change Go _ _ _ _ _ _ [.int (s.1 30), .ref 252] _ _
  refine g_ial rfl rfl (i_in (x := s.1 30) rfl h.1) ?_
  change Go _ _ _ _ _ _ [.int (s.2.1 252 (s.1 30).toInt.toNat)] _ _
  replace h := h.2
  refine g_c [.int 60, .int (s.2.1 252 (s.1 30).toInt.toNat)] (xo_push (.int 60)) rfl rfl ?_
  refine g_brN rfl rfl ⟨fun hc => ?_, fun hc => ?_⟩
  · replace h := h.1 (fun q => hc ((i_eq (x := s.2.1 252 (s.1 30).toInt.toNat) (y := 60) rfl (show (60 : Int32).toInt = 60 by decide)).mpr q))
    refine g_ld rfl rfl rfl ?_
    refine g_c [.ref 213, .ref 213] xo_dup rfl rfl ?_
    refine g_get rfl rfl ?_
    change Go _ _ _ _ _ _ [.int (s.1 7), .ref 213] _ _
    refine g_c [.int 1, .int (s.1 7), .ref 213] (xo_push (.int 1)) rfl rfl ?_
    have ex3 := i_add (x := s.1 7) (y := 1) rfl (show (1 : Int32).toInt = 1 by decide) h.1
    have cx3 := ck_add (x := s.1 7) (y := 1) rfl (show (1 : Int32).toInt = 1 by decide) h.1
    replace h := h.2 _ ex3
    refine g_ca [.int ((s.1 7) + 1), .ref 213] xo_iadd rfl rfl (fun _ => cx3) ?_
    refine g_put rfl rfl rfl ?_
    replace h := h _ rfl
    refine g_ld rfl rfl rfl ?_
    refine g_c [.int 40, .ref 213] (xo_push (.int 40)) rfl rfl ?_
    refine g_call [.ref 213, .int 40] [] rfl rfl rfl (Tot.imp h (fun v6 s5 h => ?_))
    obtain ⟨rfl, h⟩ := h
    change Go _ _ _ _ _ _ [] _ _
    refine g_ld rfl rfl rfl ?_
    refine g_get rfl rfl ?_
    change Go _ _ _ _ _ _ [.ref 253] _ _
    refine g_ld rfl rfl rfl ?_
    refine g_ld rfl rfl rfl ?_
    refine g_call [.ref 213] [.int ((60 * (s.1 30)) + (s.2.1 252 (s.1 30).toInt.toNat)), .ref 253] rfl rfl rfl (Tot.imp h (fun v8 s7 h => ?_))
    obtain ⟨x9, rfl, h⟩ := h
    change Go _ _ _ _ _ _ [.int x9, .int ((60 * (s.1 30)) + (s.2.1 252 (s.1 30).toInt.toNat)), .ref 253] _ _
    refine g_ias rfl rfl (i_in (x := ((60 * (s.1 30)) + (s.2.1 252 (s.1 30).toInt.toNat))) rfl h.1) ?_
    replace h := h.2
    replace h := h _ rfl
    refine g_ld rfl rfl rfl ?_
    refine g_get rfl rfl ?_
    change Go _ _ _ _ _ _ [.ref 254] _ _
    refine g_ld rfl rfl rfl ?_
    refine g_ld rfl rfl rfl ?_
    refine g_call [.ref 213] [.int ((60 * (s.1 30)) + (s.2.1 252 (s.1 30).toInt.toNat)), .ref 254] rfl rfl rfl (Tot.imp h (fun v12 s11 h => ?_))
    obtain ⟨x13, rfl, h⟩ := h
    change Go _ _ _ _ _ _ [.int x13, .int ((60 * (s.1 30)) + (s.2.1 252 (s.1 30).toInt.toNat)), .ref 254] _ _
    refine g_ias rfl rfl (i_in (x := ((60 * (s.1 30)) + (s.2.1 252 (s.1 30).toInt.toNat))) rfl h.1) ?_
    replace h := h.2
    replace h := h _ rfl
    refine g_ld rfl rfl rfl ?_
    refine g_get rfl rfl ?_
    change Go _ _ _ _ _ _ [.ref 255] _ _
    refine g_ld rfl rfl rfl ?_
    refine g_c [.int 0, .int ((60 * (s.1 30)) + (s.2.1 252 (s.1 30).toInt.toNat)), .ref 255] (xo_push (.int 0)) rfl rfl ?_
    refine g_ias rfl rfl (i_in (x := ((60 * (s.1 30)) + (s.2.1 252 (s.1 30).toInt.toNat))) rfl h.1) ?_
    replace h := h.2
    replace h := h _ rfl
    refine g_ld rfl rfl rfl ?_
    refine g_get rfl rfl ?_
    change Go _ _ _ _ _ _ [.ref 256] _ _
    refine g_ld rfl rfl rfl ?_
    refine g_c [.int (-1), .int ((60 * (s.1 30)) + (s.2.1 252 (s.1 30).toInt.toNat)), .ref 256] (xo_push (.int (-1))) rfl rfl ?_
    refine g_ias rfl rfl (i_in (x := ((60 * (s.1 30)) + (s.2.1 252 (s.1 30).toInt.toNat))) rfl h.1) ?_
    replace h := h.2
    replace h := h _ rfl
    refine g_ld rfl rfl rfl ?_
    refine g_c [.int 91, .ref 213] (xo_push (.int 91)) rfl rfl ?_
    refine g_call [.ref 213, .int 91] [] rfl rfl rfl (Tot.imp h (fun v18 s17 h => ?_))
    obtain ⟨x19, rfl, h⟩ := h
    change Go _ _ _ _ _ _ [.int x19] _ _
    refine g_brP rfl rfl ⟨fun hc => ?_, fun hc => ?_⟩
    · replace h := h.1 ((i_eq (x := x19) (y := 0) rfl (show (0 : Int32).toInt = 0 by decide)).mp hc)
      exact k_184_103  h
    · replace h := h.2 (fun q => hc ((i_eq (x := x19) (y := 0) rfl (show (0 : Int32).toInt = 0 by decide)).mpr q))
      refine g_ld rfl rfl rfl ?_
      refine g_get rfl rfl ?_
      change Go _ _ _ _ _ _ [.ref 256] _ _
      refine g_ld rfl rfl rfl ?_
      refine g_ld rfl rfl rfl ?_
      refine g_call [.ref 213] [.int ((60 * (s.1 30)) + (s.2.1 252 (s.1 30).toInt.toNat)), .ref 256] rfl rfl rfl (Tot.imp h (fun v21 s20 h => ?_))
      obtain ⟨x22, rfl, h⟩ := h
      change Go _ _ _ _ _ _ [.int x22, .int ((60 * (s.1 30)) + (s.2.1 252 (s.1 30).toInt.toNat)), .ref 256] _ _
      refine g_ias rfl rfl (i_in (x := ((60 * (s.1 30)) + (s.2.1 252 (s.1 30).toInt.toNat))) rfl h.1) ?_
      replace h := h.2
      replace h := h _ rfl
      refine g_ld rfl rfl rfl ?_
      refine g_get rfl rfl ?_
      change Go _ _ _ _ _ _ [.ref 255] _ _
      refine g_ld rfl rfl rfl ?_
      refine g_c [.int 1, .int ((60 * (s.1 30)) + (s.2.1 252 (s.1 30).toInt.toNat)), .ref 255] (xo_push (.int 1)) rfl rfl ?_
      refine g_ias rfl rfl (i_in (x := ((60 * (s.1 30)) + (s.2.1 252 (s.1 30).toInt.toNat))) rfl h.1) ?_
      replace h := h.2
      replace h := h _ rfl
      exact kl_184_70  h
  · replace h := h.2 ((i_eq (x := s.2.1 252 (s.1 30).toInt.toNat) (y := 60) rfl (show (60 : Int32).toInt = 60 by decide)).mp hc)
    refine g_ld rfl rfl rfl ?_
    refine g_c [.int 5, .ref 213] (xo_push (.int 5)) rfl rfl ?_
    refine g_ld rfl rfl rfl ?_
    refine g_get rfl rfl ?_
    change Go _ _ _ _ _ _ [.int (s.1 7), .int 5, .ref 213] _ _
    refine g_call [.ref 213, .int 5, .int (s.1 7)] [] rfl rfl rfl (Tot.imp h (fun v26 s25 h => ?_))
    obtain ⟨rfl, h⟩ := h
    change Go _ _ _ _ _ _ [] _ _
    exact g_ret0 rfl h
theorem t_184 {d : Nat}  {s : yS} {P : Option Value → yS → Prop} (h : w_184_0 (Tot d)  s P) : Tot (d + 1) 184 [.ref 213] s P := tot_of (E := xE_184) (ml := 3) (ret := none) rfl rfl rfl (k_184_0 h)
/-! codeOf -/
def w_185_0 (T : Nat → List Value → yS → (Option Value → yS → Prop) → Prop)  (a0 : Int32) (s : yS) (P : Option Value → yS → Prop) : Prop :=
  0 ≤ a0.toInt ∧ (∀ x1 : Int32, x1.toInt = a0.toInt / 8 → P (some (.int x1)) s)
set_option maxRecDepth 20000 in
theorem k_185_0 {d : Nat}  {a0 : Int32} {s : yS} {P : Option Value → yS → Prop}  (h : w_185_0 (Tot d)  a0 s P) : Go d 1 (some .int) xE_185 (xE_185.drop 0) [.int a0, .null] [] s P := by
  unfold w_185_0 at h
  refine g_ld rfl rfl rfl ?_
  refine g_c [.int 3, .int a0] (xo_push (.int 3)) rfl rfl ?_
  have ex1 := i_shr3 (x := a0) rfl h.1
  have cx1 := ck_shr (x := a0) rfl h.1
  replace h := h.2 _ ex1
  refine g_ca [.int (a0 >>> ((3 : Int32) &&& 31))] xo_ishr rfl rfl (fun _ => cx1) ?_
  exact g_retI rfl h
theorem t_185 {d : Nat} {a0 : Int32} {s : yS} {P : Option Value → yS → Prop} (h : w_185_0 (Tot d) a0 s P) : Tot (d + 1) 185 [.int a0] s P := tot_of (E := xE_185) (ml := 1) (ret := some .int) rfl rfl rfl (k_185_0 h)
/-! behind -/
def w_186_4 (T : Nat → List Value → yS → (Option Value → yS → Prop) → Prop) (R4 : Int32 → Int32 → Int32 → yS → Prop) (a1 : Int32) (a2 : Int32) (a3 : Int32) (s : yS) (P : Option Value → yS → Prop) : Prop :=
  (a2.toInt ≤ 0 → P (some (.int a3)) s) ∧ (¬ (a2.toInt ≤ 0) → (0 ≤ a3.toInt ∧ a3.toInt < 200000) ∧ (0 ≤ (s.2.1 264 a3.toInt.toNat).toInt ∧ (∀ x1 : Int32, x1.toInt = (s.2.1 264 a3.toInt.toNat).toInt % 8 → (-2147483648 ≤ x1.toInt - 1 ∧ x1.toInt - 1 ≤ 2147483647) ∧ (∀ x2 : Int32, x2.toInt = x1.toInt - 1 → (-2147483648 ≤ a2.toInt + x2.toInt ∧ a2.toInt + x2.toInt ≤ 2147483647) ∧ (∀ x3 : Int32, x3.toInt = a2.toInt + x2.toInt → (-2147483648 ≤ a3.toInt + 1 ∧ a3.toInt + 1 ≤ 2147483647) ∧ (∀ x4 : Int32, x4.toInt = a3.toInt + 1 → R4 a1 x3 x4  s))))))
set_option maxRecDepth 20000 in
theorem k_186_4 {d : Nat} {R4 : Int32 → Int32 → Int32 → yS → Prop} {a1 : Int32} {a2 : Int32} {a3 : Int32} {s : yS} {P : Option Value → yS → Prop} (r4 : ∀ a1 a2 a3 s, R4 a1 a2 a3 s → Go d 4 (some .int) xE_186 (xE_186.drop 4) [.ref 213, .int a1, .int a2, .int a3, .null, .null] [] s P) (h : w_186_4 (Tot d) R4 a1 a2 a3 s P) : Go d 4 (some .int) xE_186 (xE_186.drop 4) [.ref 213, .int a1, .int a2, .int a3, .null, .null] [] s P := by
  unfold w_186_4 at h
  refine g_ld rfl rfl rfl ?_
  refine g_brP rfl rfl ⟨fun hc => ?_, fun hc => ?_⟩
  · replace h := h.1 ((i_le (x := a2) (y := 0) rfl (show (0 : Int32).toInt = 0 by decide)).mp hc)
    refine g_ld rfl rfl rfl ?_
    exact g_retI rfl h
  · replace h := h.2 (fun q => hc ((i_le (x := a2) (y := 0) rfl (show (0 : Int32).toInt = 0 by decide)).mpr q))
    refine g_ld rfl rfl rfl ?_
    refine g_ld rfl rfl rfl ?_
    refine g_get rfl rfl ?_
    change Go _ _ _ _ _ _ [.ref 264, .int a2] _ _
    refine g_ld rfl rfl rfl ?_
    refine g_ial rfl rfl (i_in (x := a3) rfl h.1) ?_
    change Go _ _ _ _ _ _ [.int (s.2.1 264 a3.toInt.toNat), .int a2] _ _
    replace h := h.2
    refine g_c [.int 7, .int (s.2.1 264 a3.toInt.toNat), .int a2] (xo_push (.int 7)) rfl rfl ?_
    have ex1 := i_and7 (x := s.2.1 264 a3.toInt.toNat) rfl h.1
    have cx1 := ck_and (x := s.2.1 264 a3.toInt.toNat) (y := 7) rfl h.1
    replace h := h.2 _ ex1
    refine g_ca [.int ((s.2.1 264 a3.toInt.toNat) &&& 7), .int a2] xo_iand rfl rfl (fun _ => cx1) ?_
    refine g_c [.int 1, .int ((s.2.1 264 a3.toInt.toNat) &&& 7), .int a2] (xo_push (.int 1)) rfl rfl ?_
    have ex2 := i_sub (x := ((s.2.1 264 a3.toInt.toNat) &&& 7)) (y := 1) rfl (show (1 : Int32).toInt = 1 by decide) h.1
    have cx2 := ck_sub (x := ((s.2.1 264 a3.toInt.toNat) &&& 7)) (y := 1) rfl (show (1 : Int32).toInt = 1 by decide) h.1
    replace h := h.2 _ ex2
    refine g_ca [.int (((s.2.1 264 a3.toInt.toNat) &&& 7) - 1), .int a2] xo_isub rfl rfl (fun _ => cx2) ?_
    have ex3 := i_add (x := a2) (y := (((s.2.1 264 a3.toInt.toNat) &&& 7) - 1)) rfl rfl h.1
    have cx3 := ck_add (x := a2) (y := (((s.2.1 264 a3.toInt.toNat) &&& 7) - 1)) rfl rfl h.1
    replace h := h.2 _ ex3
    refine g_ca [.int (a2 + (((s.2.1 264 a3.toInt.toNat) &&& 7) - 1))] xo_iadd rfl rfl (fun _ => cx3) ?_
    refine g_st [.ref 213, .int a1, .int (a2 + (((s.2.1 264 a3.toInt.toNat) &&& 7) - 1)), .int a3, .null, .null] rfl rfl rfl ?_
    have ex4 := i_add (x := a3) (y := 1) rfl (show (1 : Int32).toInt = 1 by decide) h.1
    have cx4 := ck_inc (x := a3) (n := 1) rfl h.1
    replace h := h.2 _ ex4
    refine g_inc [.ref 213, .int a1, .int (a2 + (((s.2.1 264 a3.toInt.toNat) &&& 7) - 1)), .int (a3 + 1), .null, .null] rfl rfl rfl rfl cx4 ?_
    refine g_go rfl ?_
    exact r4 a1 (a2 + (((s.2.1 264 a3.toInt.toNat) &&& 7) - 1)) (a3 + 1)  s h
def wl_186_4 (T : Nat → List Value → yS → (Option Value → yS → Prop) → Prop)  (a1 : Int32) (a2 : Int32) (a3 : Int32) (s : yS) (P : Option Value → yS → Prop) : Prop :=
  ∃ (I : Int32 → Int32 → Int32 → yS → Prop) (μ : Int32 → Int32 → Int32 → yS → Nat), I a1 a2 a3 s ∧ ∀ (a1 : Int32) (a2 : Int32) (a3 : Int32) (s : yS), I a1 a2 a3 s → w_186_4 T (fun a1' a2' a3' s' => I a1' a2' a3' s' ∧ μ a1' a2' a3' s' < μ a1 a2 a3 s) a1 a2 a3 s P
theorem kl_186_4 {d : Nat}  {a1 : Int32} {a2 : Int32} {a3 : Int32} {s : yS} {P : Option Value → yS → Prop}  (h : wl_186_4 (Tot d)  a1 a2 a3 s P) : Go d 4 (some .int) xE_186 (xE_186.drop 4) [.ref 213, .int a1, .int a2, .int a3, .null, .null] [] s P := by
  obtain ⟨I, μ, h0, h1⟩ := h
  have key : ∀ (n : Nat) (a1 : Int32) (a2 : Int32) (a3 : Int32) (s : yS), μ a1 a2 a3 s = n → I a1 a2 a3 s → Go d 4 (some .int) xE_186 (xE_186.drop 4) [.ref 213, .int a1, .int a2, .int a3, .null, .null] [] s P := by
    intro n
    induction n using Nat.strongRecOn with
    | ind n ih =>
      intro a1 a2 a3 s e hI
      exact k_186_4 (fun a1' a2' a3' s' q => ih _ (by rw [← e]; exact q.2) _ _ _ _ rfl q.1) (h1 a1 a2 a3 s hI)
  exact key _ a1 a2 a3 s rfl h0
def w_186_0 (T : Nat → List Value → yS → (Option Value → yS → Prop) → Prop)  (a1 : Int32) (s : yS) (P : Option Value → yS → Prop) : Prop :=
  wl_186_4 T  a1 1 a1  s P
set_option maxRecDepth 20000 in
theorem k_186_0 {d : Nat}  {a1 : Int32} {s : yS} {P : Option Value → yS → Prop}  (h : w_186_0 (Tot d)  a1 s P) : Go d 4 (some .int) xE_186 (xE_186.drop 0) [.ref 213, .int a1, .null, .null, .null, .null] [] s P := by
  unfold w_186_0 at h
  refine g_c [.int 1] (xo_push (.int 1)) rfl rfl ?_
  refine g_st [.ref 213, .int a1, .int 1, .null, .null, .null] rfl rfl rfl ?_
  refine g_ld rfl rfl rfl ?_
  refine g_st [.ref 213, .int a1, .int 1, .int a1, .null, .null] rfl rfl rfl ?_
  exact kl_186_4  h
theorem t_186 {d : Nat} {a1 : Int32} {s : yS} {P : Option Value → yS → Prop} (h : w_186_0 (Tot d) a1 s P) : Tot (d + 1) 186 [.ref 213, .int a1] s P := tot_of (E := xE_186) (ml := 4) (ret := some .int) rfl rfl rfl (k_186_0 h)
/-! isSame -/
def w_187_33 (T : Nat → List Value → yS → (Option Value → yS → Prop) → Prop)  (a1 : Int32) (a2 : Int32) (a3 : Int32) (a4 : Int32) (a5 : Int32) (a6 : Int32) (s : yS) (P : Option Value → yS → Prop) : Prop :=
  (a5.toInt = 0 ∨ a5.toInt = 1) ∧ P (some (.int a5)) s
set_option maxRecDepth 20000 in
theorem k_187_33 {d : Nat}  {a1 : Int32} {a2 : Int32} {a3 : Int32} {a4 : Int32} {a5 : Int32} {a6 : Int32} {s : yS} {P : Option Value → yS → Prop}  (h : w_187_33 (Tot d)  a1 a2 a3 a4 a5 a6 s P) : Go d 7 (some .boolean) xE_187 (xE_187.drop 33) [.ref 213, .int a1, .int a2, .int a3, .int a4, .int a5, .int a6, .null, .null, .null, .null, .null] [] s P := by
  unfold w_187_33 at h
  refine g_ld rfl rfl rfl ?_
  exact g_retZ rfl (i_z (x := a5) rfl h.1) h.2
def w_187_30 (T : Nat → List Value → yS → (Option Value → yS → Prop) → Prop) (R9 : Int32 → Int32 → Int32 → Int32 → Int32 → Int32 → yS → Prop) (a1 : Int32) (a2 : Int32) (a3 : Int32) (a4 : Int32) (a5 : Int32) (a6 : Int32) (t0 : Int32) (s : yS) (P : Option Value → yS → Prop) : Prop :=
  (-2147483648 ≤ a6.toInt + 1 ∧ a6.toInt + 1 ≤ 2147483647) ∧ (∀ x1 : Int32, x1.toInt = a6.toInt + 1 → R9 a1 a2 a3 a4 t0 x1  s)
set_option maxRecDepth 20000 in
theorem k_187_30 {d : Nat} {R9 : Int32 → Int32 → Int32 → Int32 → Int32 → Int32 → yS → Prop} {a1 : Int32} {a2 : Int32} {a3 : Int32} {a4 : Int32} {a5 : Int32} {a6 : Int32} {t0 : Int32} {s : yS} {P : Option Value → yS → Prop} (r9 : ∀ a1 a2 a3 a4 a5 a6 s, R9 a1 a2 a3 a4 a5 a6 s → Go d 7 (some .boolean) xE_187 (xE_187.drop 9) [.ref 213, .int a1, .int a2, .int a3, .int a4, .int a5, .int a6, .null, .null, .null, .null, .null] [] s P) (h : w_187_30 (Tot d) R9 a1 a2 a3 a4 a5 a6 t0 s P) : Go d 7 (some .boolean) xE_187 (xE_187.drop 30) [.ref 213, .int a1, .int a2, .int a3, .int a4, .int a5, .int a6, .null, .null, .null, .null, .null] [.int t0] s P := by
  unfold w_187_30 at h
  refine g_st [.ref 213, .int a1, .int a2, .int a3, .int a4, .int t0, .int a6, .null, .null, .null, .null, .null] rfl rfl rfl ?_
  have ex1 := i_add (x := a6) (y := 1) rfl (show (1 : Int32).toInt = 1 by decide) h.1
  have cx1 := ck_inc (x := a6) (n := 1) rfl h.1
  replace h := h.2 _ ex1
  refine g_inc [.ref 213, .int a1, .int a2, .int a3, .int a4, .int t0, .int (a6 + 1), .null, .null, .null, .null, .null] rfl rfl rfl rfl cx1 ?_
  refine g_go rfl ?_
  exact r9 a1 a2 a3 a4 t0 (a6 + 1)  s h
def w_187_9 (T : Nat → List Value → yS → (Option Value → yS → Prop) → Prop) (R9 : Int32 → Int32 → Int32 → Int32 → Int32 → Int32 → yS → Prop) (a1 : Int32) (a2 : Int32) (a3 : Int32) (a4 : Int32) (a5 : Int32) (a6 : Int32) (s : yS) (P : Option Value → yS → Prop) : Prop :=
  (a2.toInt ≤ a6.toInt → w_187_33 T  a1 a2 a3 a4 a5 a6  s P) ∧ (¬ (a2.toInt ≤ a6.toInt) → (a5.toInt = 0 → w_187_33 T  a1 a2 a3 a4 a5 a6  s P) ∧ (¬ (a5.toInt = 0) → (-2147483648 ≤ a1.toInt + a6.toInt ∧ a1.toInt + a6.toInt ≤ 2147483647) ∧ (∀ x1 : Int32, x1.toInt = a1.toInt + a6.toInt → (0 ≤ x1.toInt ∧ x1.toInt < 200000) ∧ ((-2147483648 ≤ a3.toInt + a6.toInt ∧ a3.toInt + a6.toInt ≤ 2147483647) ∧ (∀ x2 : Int32, x2.toInt = a3.toInt + a6.toInt → (0 ≤ x2.toInt ∧ x2.toInt < 200000) ∧ ((¬ ((s.2.1 264 x1.toInt.toNat).toInt = (s.2.1 264 x2.toInt.toNat).toInt) → w_187_30 T R9 a1 a2 a3 a4 a5 a6 0 s P) ∧ ((s.2.1 264 x1.toInt.toNat).toInt = (s.2.1 264 x2.toInt.toNat).toInt → w_187_30 T R9 a1 a2 a3 a4 a5 a6 1 s P)))))))
set_option maxRecDepth 20000 in
theorem k_187_9 {d : Nat} {R9 : Int32 → Int32 → Int32 → Int32 → Int32 → Int32 → yS → Prop} {a1 : Int32} {a2 : Int32} {a3 : Int32} {a4 : Int32} {a5 : Int32} {a6 : Int32} {s : yS} {P : Option Value → yS → Prop} (r9 : ∀ a1 a2 a3 a4 a5 a6 s, R9 a1 a2 a3 a4 a5 a6 s → Go d 7 (some .boolean) xE_187 (xE_187.drop 9) [.ref 213, .int a1, .int a2, .int a3, .int a4, .int a5, .int a6, .null, .null, .null, .null, .null] [] s P) (h : w_187_9 (Tot d) R9 a1 a2 a3 a4 a5 a6 s P) : Go d 7 (some .boolean) xE_187 (xE_187.drop 9) [.ref 213, .int a1, .int a2, .int a3, .int a4, .int a5, .int a6, .null, .null, .null, .null, .null] [] s P := by
  unfold w_187_9 at h
  refine g_ld rfl rfl rfl ?_
  refine g_ld rfl rfl rfl ?_
  refine g_brP rfl rfl ⟨fun hc => ?_, fun hc => ?_⟩
  · replace h := h.1 ((i_le (x := a2) (y := a6) rfl rfl).mp hc)
    exact k_187_33  h
  · replace h := h.2 (fun q => hc ((i_le (x := a2) (y := a6) rfl rfl).mpr q))
    refine g_ld rfl rfl rfl ?_
    refine g_brP rfl rfl ⟨fun hc => ?_, fun hc => ?_⟩
    · replace h := h.1 ((i_eq (x := a5) (y := 0) rfl (show (0 : Int32).toInt = 0 by decide)).mp hc)
      exact k_187_33  h
    · replace h := h.2 (fun q => hc ((i_eq (x := a5) (y := 0) rfl (show (0 : Int32).toInt = 0 by decide)).mpr q))
      refine g_ld rfl rfl rfl ?_
      refine g_get rfl rfl ?_
      change Go _ _ _ _ _ _ [.ref 264] _ _
      refine g_ld rfl rfl rfl ?_
      refine g_ld rfl rfl rfl ?_
      have ex1 := i_add (x := a1) (y := a6) rfl rfl h.1
      have cx1 := ck_add (x := a1) (y := a6) rfl rfl h.1
      replace h := h.2 _ ex1
      refine g_ca [.int (a1 + a6), .ref 264] xo_iadd rfl rfl (fun _ => cx1) ?_
      refine g_ial rfl rfl (i_in (x := (a1 + a6)) rfl h.1) ?_
      change Go _ _ _ _ _ _ [.int (s.2.1 264 (a1 + a6).toInt.toNat)] _ _
      replace h := h.2
      refine g_ld rfl rfl rfl ?_
      refine g_get rfl rfl ?_
      change Go _ _ _ _ _ _ [.ref 264, .int (s.2.1 264 (a1 + a6).toInt.toNat)] _ _
      refine g_ld rfl rfl rfl ?_
      refine g_ld rfl rfl rfl ?_
      have ex2 := i_add (x := a3) (y := a6) rfl rfl h.1
      have cx2 := ck_add (x := a3) (y := a6) rfl rfl h.1
      replace h := h.2 _ ex2
      refine g_ca [.int (a3 + a6), .ref 264, .int (s.2.1 264 (a1 + a6).toInt.toNat)] xo_iadd rfl rfl (fun _ => cx2) ?_
      refine g_ial rfl rfl (i_in (x := (a3 + a6)) rfl h.1) ?_
      change Go _ _ _ _ _ _ [.int (s.2.1 264 (a3 + a6).toInt.toNat), .int (s.2.1 264 (a1 + a6).toInt.toNat)] _ _
      replace h := h.2
      refine g_brN rfl rfl ⟨fun hc => ?_, fun hc => ?_⟩
      · replace h := h.1 (fun q => hc ((i_eq (x := s.2.1 264 (a1 + a6).toInt.toNat) (y := s.2.1 264 (a3 + a6).toInt.toNat) rfl rfl).mpr q))
        refine g_c [.int 0] (xo_push (.int 0)) rfl rfl ?_
        exact k_187_30 r9 h
      · replace h := h.2 ((i_eq (x := s.2.1 264 (a1 + a6).toInt.toNat) (y := s.2.1 264 (a3 + a6).toInt.toNat) rfl rfl).mp hc)
        refine g_c [.int 1] (xo_push (.int 1)) rfl rfl ?_
        refine g_go rfl ?_
        exact k_187_30 r9 h
def wl_187_9 (T : Nat → List Value → yS → (Option Value → yS → Prop) → Prop)  (a1 : Int32) (a2 : Int32) (a3 : Int32) (a4 : Int32) (a5 : Int32) (a6 : Int32) (s : yS) (P : Option Value → yS → Prop) : Prop :=
  ∃ (I : Int32 → Int32 → Int32 → Int32 → Int32 → Int32 → yS → Prop) (μ : Int32 → Int32 → Int32 → Int32 → Int32 → Int32 → yS → Nat), I a1 a2 a3 a4 a5 a6 s ∧ ∀ (a1 : Int32) (a2 : Int32) (a3 : Int32) (a4 : Int32) (a5 : Int32) (a6 : Int32) (s : yS), I a1 a2 a3 a4 a5 a6 s → w_187_9 T (fun a1' a2' a3' a4' a5' a6' s' => I a1' a2' a3' a4' a5' a6' s' ∧ μ a1' a2' a3' a4' a5' a6' s' < μ a1 a2 a3 a4 a5 a6 s) a1 a2 a3 a4 a5 a6 s P
theorem kl_187_9 {d : Nat}  {a1 : Int32} {a2 : Int32} {a3 : Int32} {a4 : Int32} {a5 : Int32} {a6 : Int32} {s : yS} {P : Option Value → yS → Prop}  (h : wl_187_9 (Tot d)  a1 a2 a3 a4 a5 a6 s P) : Go d 7 (some .boolean) xE_187 (xE_187.drop 9) [.ref 213, .int a1, .int a2, .int a3, .int a4, .int a5, .int a6, .null, .null, .null, .null, .null] [] s P := by
  obtain ⟨I, μ, h0, h1⟩ := h
  have key : ∀ (n : Nat) (a1 : Int32) (a2 : Int32) (a3 : Int32) (a4 : Int32) (a5 : Int32) (a6 : Int32) (s : yS), μ a1 a2 a3 a4 a5 a6 s = n → I a1 a2 a3 a4 a5 a6 s → Go d 7 (some .boolean) xE_187 (xE_187.drop 9) [.ref 213, .int a1, .int a2, .int a3, .int a4, .int a5, .int a6, .null, .null, .null, .null, .null] [] s P := by
    intro n
    induction n using Nat.strongRecOn with
    | ind n ih =>
      intro a1 a2 a3 a4 a5 a6 s e hI
      exact k_187_9 (fun a1' a2' a3' a4' a5' a6' s' q => ih _ (by rw [← e]; exact q.2) _ _ _ _ _ _ _ rfl q.1) (h1 a1 a2 a3 a4 a5 a6 s hI)
  exact key _ a1 a2 a3 a4 a5 a6 s rfl h0
def w_187_6 (T : Nat → List Value → yS → (Option Value → yS → Prop) → Prop)  (a1 : Int32) (a2 : Int32) (a3 : Int32) (a4 : Int32) (t0 : Int32) (s : yS) (P : Option Value → yS → Prop) : Prop :=
  wl_187_9 T  a1 a2 a3 a4 t0 0  s P
set_option maxRecDepth 20000 in
theorem k_187_6 {d : Nat}  {a1 : Int32} {a2 : Int32} {a3 : Int32} {a4 : Int32} {t0 : Int32} {s : yS} {P : Option Value → yS → Prop}  (h : w_187_6 (Tot d)  a1 a2 a3 a4 t0 s P) : Go d 7 (some .boolean) xE_187 (xE_187.drop 6) [.ref 213, .int a1, .int a2, .int a3, .int a4, .null, .null, .null, .null, .null, .null, .null] [.int t0] s P := by
  unfold w_187_6 at h
  refine g_st [.ref 213, .int a1, .int a2, .int a3, .int a4, .int t0, .null, .null, .null, .null, .null, .null] rfl rfl rfl ?_
  refine g_c [.int 0] (xo_push (.int 0)) rfl rfl ?_
  refine g_st [.ref 213, .int a1, .int a2, .int a3, .int a4, .int t0, .int 0, .null, .null, .null, .null, .null] rfl rfl rfl ?_
  exact kl_187_9  h
def w_187_0 (T : Nat → List Value → yS → (Option Value → yS → Prop) → Prop)  (a1 : Int32) (a2 : Int32) (a3 : Int32) (a4 : Int32) (s : yS) (P : Option Value → yS → Prop) : Prop :=
  (¬ (a2.toInt = a4.toInt) → w_187_6 T  a1 a2 a3 a4 0 s P) ∧ (a2.toInt = a4.toInt → w_187_6 T  a1 a2 a3 a4 1 s P)
set_option maxRecDepth 20000 in
theorem k_187_0 {d : Nat}  {a1 : Int32} {a2 : Int32} {a3 : Int32} {a4 : Int32} {s : yS} {P : Option Value → yS → Prop}  (h : w_187_0 (Tot d)  a1 a2 a3 a4 s P) : Go d 7 (some .boolean) xE_187 (xE_187.drop 0) [.ref 213, .int a1, .int a2, .int a3, .int a4, .null, .null, .null, .null, .null, .null, .null] [] s P := by
  unfold w_187_0 at h
  refine g_ld rfl rfl rfl ?_
  refine g_ld rfl rfl rfl ?_
  refine g_brN rfl rfl ⟨fun hc => ?_, fun hc => ?_⟩
  · replace h := h.1 (fun q => hc ((i_eq (x := a2) (y := a4) rfl rfl).mpr q))
    refine g_c [.int 0] (xo_push (.int 0)) rfl rfl ?_
    exact k_187_6  h
  · replace h := h.2 ((i_eq (x := a2) (y := a4) rfl rfl).mp hc)
    refine g_c [.int 1] (xo_push (.int 1)) rfl rfl ?_
    refine g_go rfl ?_
    exact k_187_6  h
theorem t_187 {d : Nat} {a1 : Int32} {a2 : Int32} {a3 : Int32} {a4 : Int32} {s : yS} {P : Option Value → yS → Prop} (h : w_187_0 (Tot d) a1 a2 a3 a4 s P) : Tot (d + 1) 187 [.ref 213, .int a1, .int a2, .int a3, .int a4] s P := tot_of (E := xE_187) (ml := 7) (ret := some .boolean) rfl rfl rfl (k_187_0 h)
/-! newEnv -/
def w_188_0 (T : Nat → List Value → yS → (Option Value → yS → Prop) → Prop)   (s : yS) (P : Option Value → yS → Prop) : Prop :=
  (-2147483648 ≤ 2 * (s.1 70).toInt ∧ 2 * (s.1 70).toInt ≤ 2147483647) ∧ (∀ x1 : Int32, x1.toInt = 2 * (s.1 70).toInt → (0 ≤ x1.toInt ∧ x1.toInt < 600) ∧ (∀ s2, s2 = sa s 266 x1.toInt.toNat 0 → (-2147483648 ≤ 2 * (s2.1 70).toInt ∧ 2 * (s2.1 70).toInt ≤ 2147483647) ∧ (∀ x3 : Int32, x3.toInt = 2 * (s2.1 70).toInt → (-2147483648 ≤ x3.toInt + 1 ∧ x3.toInt + 1 ≤ 2147483647) ∧ (∀ x4 : Int32, x4.toInt = x3.toInt + 1 → (0 ≤ x4.toInt ∧ x4.toInt < 600) ∧ (∀ s5, s5 = sa s2 266 x4.toInt.toNat 0 → (-2147483648 ≤ (s5.1 70).toInt + 1 ∧ (s5.1 70).toInt + 1 ≤ 2147483647) ∧ (∀ x6 : Int32, x6.toInt = (s5.1 70).toInt + 1 → ∀ s7, s7 = sf s5 70 x6 → (-2147483648 ≤ (s7.1 70).toInt - 1 ∧ (s7.1 70).toInt - 1 ≤ 2147483647) ∧ (∀ x8 : Int32, x8.toInt = (s7.1 70).toInt - 1 → P (some (.int x8)) s7)))))))
set_option maxRecDepth 20000 in
theorem k_188_0 {d : Nat}   {s : yS} {P : Option Value → yS → Prop}  (h : w_188_0 (Tot d)   s P) : Go d 1 (some .int) xE_188 (xE_188.drop 0) [.ref 213, .null] [] s P := by
  unfold w_188_0 at h
  refine g_ld rfl rfl rfl ?_
  refine g_get rfl rfl ?_
  change Go _ _ _ _ _ _ [.ref 266] _ _
  refine g_c [.int 2, .ref 266] (xo_push (.int 2)) rfl rfl ?_
  refine g_ld rfl rfl rfl ?_
  refine g_get rfl rfl ?_
  change Go _ _ _ _ _ _ [.int (s.1 70), .int 2, .ref 266] _ _
  have ex1 := i_mul (x := 2) (y := s.1 70) (show (2 : Int32).toInt = 2 by decide) rfl h.1
  have cx1 := ck_mul (x := 2) (y := s.1 70) (show (2 : Int32).toInt = 2 by decide) rfl h.1
  replace h := h.2 _ ex1
  refine g_ca [.int (2 * (s.1 70)), .ref 266] xo_imul rfl rfl (fun _ => cx1) ?_
  refine g_c [.int 0, .int (2 * (s.1 70)), .ref 266] (xo_push (.int 0)) rfl rfl ?_
  refine g_ias rfl rfl (i_in (x := (2 * (s.1 70))) rfl h.1) ?_
  replace h := h.2
  replace h := h _ rfl
  refine g_ld rfl rfl rfl ?_
  refine g_get rfl rfl ?_
  change Go _ _ _ _ _ _ [.ref 266] _ _
  refine g_c [.int 2, .ref 266] (xo_push (.int 2)) rfl rfl ?_
  refine g_ld rfl rfl rfl ?_
  refine g_get rfl rfl ?_
  change Go _ _ _ _ _ _ [.int ((sa s 266 (2 * (s.1 70)).toInt.toNat 0).1 70), .int 2, .ref 266] _ _
  have ex3 := i_mul (x := 2) (y := (sa s 266 (2 * (s.1 70)).toInt.toNat 0).1 70) (show (2 : Int32).toInt = 2 by decide) rfl h.1
  have cx3 := ck_mul (x := 2) (y := (sa s 266 (2 * (s.1 70)).toInt.toNat 0).1 70) (show (2 : Int32).toInt = 2 by decide) rfl h.1
  replace h := h.2 _ ex3
  refine g_ca [.int (2 * ((sa s 266 (2 * (s.1 70)).toInt.toNat 0).1 70)), .ref 266] xo_imul rfl rfl (fun _ => cx3) ?_
  refine g_c [.int 1, .int (2 * ((sa s 266 (2 * (s.1 70)).toInt.toNat 0).1 70)), .ref 266] (xo_push (.int 1)) rfl rfl ?_
  have ex4 := i_add (x := (2 * ((sa s 266 (2 * (s.1 70)).toInt.toNat 0).1 70))) (y := 1) rfl (show (1 : Int32).toInt = 1 by decide) h.1
  have cx4 := ck_add (x := (2 * ((sa s 266 (2 * (s.1 70)).toInt.toNat 0).1 70))) (y := 1) rfl (show (1 : Int32).toInt = 1 by decide) h.1
  replace h := h.2 _ ex4
  refine g_ca [.int ((2 * ((sa s 266 (2 * (s.1 70)).toInt.toNat 0).1 70)) + 1), .ref 266] xo_iadd rfl rfl (fun _ => cx4) ?_
  refine g_c [.int 0, .int ((2 * ((sa s 266 (2 * (s.1 70)).toInt.toNat 0).1 70)) + 1), .ref 266] (xo_push (.int 0)) rfl rfl ?_
  refine g_ias rfl rfl (i_in (x := ((2 * ((sa s 266 (2 * (s.1 70)).toInt.toNat 0).1 70)) + 1)) rfl h.1) ?_
  replace h := h.2
  replace h := h _ rfl
  refine g_ld rfl rfl rfl ?_
  refine g_c [.ref 213, .ref 213] xo_dup rfl rfl ?_
  refine g_get rfl rfl ?_
  change Go _ _ _ _ _ _ [.int ((sa (sa s 266 (2 * (s.1 70)).toInt.toNat 0) 266 ((2 * ((sa s 266 (2 * (s.1 70)).toInt.toNat 0).1 70)) + 1).toInt.toNat 0).1 70), .ref 213] _ _
  refine g_c [.int 1, .int ((sa (sa s 266 (2 * (s.1 70)).toInt.toNat 0) 266 ((2 * ((sa s 266 (2 * (s.1 70)).toInt.toNat 0).1 70)) + 1).toInt.toNat 0).1 70), .ref 213] (xo_push (.int 1)) rfl rfl ?_
  have ex6 := i_add (x := (sa (sa s 266 (2 * (s.1 70)).toInt.toNat 0) 266 ((2 * ((sa s 266 (2 * (s.1 70)).toInt.toNat 0).1 70)) + 1).toInt.toNat 0).1 70) (y := 1) rfl (show (1 : Int32).toInt = 1 by decide) h.1
  have cx6 := ck_add (x := (sa (sa s 266 (2 * (s.1 70)).toInt.toNat 0) 266 ((2 * ((sa s 266 (2 * (s.1 70)).toInt.toNat 0).1 70)) + 1).toInt.toNat 0).1 70) (y := 1) rfl (show (1 : Int32).toInt = 1 by decide) h.1
  replace h := h.2 _ ex6
  refine g_ca [.int (((sa (sa s 266 (2 * (s.1 70)).toInt.toNat 0) 266 ((2 * ((sa s 266 (2 * (s.1 70)).toInt.toNat 0).1 70)) + 1).toInt.toNat 0).1 70) + 1), .ref 213] xo_iadd rfl rfl (fun _ => cx6) ?_
  refine g_put rfl rfl rfl ?_
  replace h := h _ rfl
  refine g_ld rfl rfl rfl ?_
  refine g_get rfl rfl ?_
  change Go _ _ _ _ _ _ [.int ((sf (sa (sa s 266 (2 * (s.1 70)).toInt.toNat 0) 266 ((2 * ((sa s 266 (2 * (s.1 70)).toInt.toNat 0).1 70)) + 1).toInt.toNat 0) 70 (((sa (sa s 266 (2 * (s.1 70)).toInt.toNat 0) 266 ((2 * ((sa s 266 (2 * (s.1 70)).toInt.toNat 0).1 70)) + 1).toInt.toNat 0).1 70) + 1)).1 70)] _ _
  refine g_c [.int 1, .int ((sf (sa (sa s 266 (2 * (s.1 70)).toInt.toNat 0) 266 ((2 * ((sa s 266 (2 * (s.1 70)).toInt.toNat 0).1 70)) + 1).toInt.toNat 0) 70 (((sa (sa s 266 (2 * (s.1 70)).toInt.toNat 0) 266 ((2 * ((sa s 266 (2 * (s.1 70)).toInt.toNat 0).1 70)) + 1).toInt.toNat 0).1 70) + 1)).1 70)] (xo_push (.int 1)) rfl rfl ?_
  have ex8 := i_sub (x := (sf (sa (sa s 266 (2 * (s.1 70)).toInt.toNat 0) 266 ((2 * ((sa s 266 (2 * (s.1 70)).toInt.toNat 0).1 70)) + 1).toInt.toNat 0) 70 (((sa (sa s 266 (2 * (s.1 70)).toInt.toNat 0) 266 ((2 * ((sa s 266 (2 * (s.1 70)).toInt.toNat 0).1 70)) + 1).toInt.toNat 0).1 70) + 1)).1 70) (y := 1) rfl (show (1 : Int32).toInt = 1 by decide) h.1
  have cx8 := ck_sub (x := (sf (sa (sa s 266 (2 * (s.1 70)).toInt.toNat 0) 266 ((2 * ((sa s 266 (2 * (s.1 70)).toInt.toNat 0).1 70)) + 1).toInt.toNat 0) 70 (((sa (sa s 266 (2 * (s.1 70)).toInt.toNat 0) 266 ((2 * ((sa s 266 (2 * (s.1 70)).toInt.toNat 0).1 70)) + 1).toInt.toNat 0).1 70) + 1)).1 70) (y := 1) rfl (show (1 : Int32).toInt = 1 by decide) h.1
  replace h := h.2 _ ex8
  refine g_ca [.int (((sf (sa (sa s 266 (2 * (s.1 70)).toInt.toNat 0) 266 ((2 * ((sa s 266 (2 * (s.1 70)).toInt.toNat 0).1 70)) + 1).toInt.toNat 0) 70 (((sa (sa s 266 (2 * (s.1 70)).toInt.toNat 0) 266 ((2 * ((sa s 266 (2 * (s.1 70)).toInt.toNat 0).1 70)) + 1).toInt.toNat 0).1 70) + 1)).1 70) - 1)] xo_isub rfl rfl (fun _ => cx8) ?_
  exact g_retI rfl h
theorem t_188 {d : Nat}  {s : yS} {P : Option Value → yS → Prop} (h : w_188_0 (Tot d)  s P) : Tot (d + 1) 188 [.ref 213] s P := tot_of (E := xE_188) (ml := 1) (ret := some .int) rfl rfl rfl (k_188_0 h)
/-! group -/
def w_189_29 (T : Nat → List Value → yS → (Option Value → yS → Prop) → Prop) (R29 : Int32 → Int32 → Int32 → Int32 → Int32 → Int32 → Int32 → Int32 → yS → Prop) (a1 : Int32) (a2 : Int32) (a3 : Int32) (a4 : Int32) (a5 : Int32) (a6 : Int32) (a7 : Int32) (a8 : Int32) (s : yS) (P : Option Value → yS → Prop) : Prop :=
  (a5.toInt ≤ a8.toInt → P none s) ∧ (¬ (a5.toInt ≤ a8.toInt) → (-2147483648 ≤ 6 * a6.toInt ∧ 6 * a6.toInt ≤ 2147483647) ∧ (∀ x1 : Int32, x1.toInt = 6 * a6.toInt → (-2147483648 ≤ x1.toInt + a8.toInt ∧ x1.toInt + a8.toInt ≤ 2147483647) ∧ (∀ x2 : Int32, x2.toInt = x1.toInt + a8.toInt → (0 ≤ x2.toInt ∧ x2.toInt < 3600) ∧ (∀ s3, s3 = sa s 267 x2.toInt.toNat a7 → T 186 [.ref 213, .int a7] s3 (fun v5 s4 => ∃ x6, v5 = some (.int x6) ∧ ((-2147483648 ≤ 6 * a6.toInt ∧ 6 * a6.toInt ≤ 2147483647) ∧ (∀ x7 : Int32, x7.toInt = 6 * a6.toInt → (-2147483648 ≤ x7.toInt + a8.toInt ∧ x7.toInt + a8.toInt ≤ 2147483647) ∧ (∀ x8 : Int32, x8.toInt = x7.toInt + a8.toInt → (-2147483648 ≤ x6.toInt - a7.toInt ∧ x6.toInt - a7.toInt ≤ 2147483647) ∧ (∀ x9 : Int32, x9.toInt = x6.toInt - a7.toInt → (0 ≤ x8.toInt ∧ x8.toInt < 3600) ∧ (∀ s10, s10 = sa s4 268 x8.toInt.toNat x9 → (-2147483648 ≤ a8.toInt + 1 ∧ a8.toInt + 1 ≤ 2147483647) ∧ (∀ x11 : Int32, x11.toInt = a8.toInt + 1 → R29 a1 a2 a3 a4 a5 a6 x6 x11  s10)))))))))))
set_option maxRecDepth 20000 in
theorem k_189_29 {d : Nat} {R29 : Int32 → Int32 → Int32 → Int32 → Int32 → Int32 → Int32 → Int32 → yS → Prop} {a1 : Int32} {a2 : Int32} {a3 : Int32} {a4 : Int32} {a5 : Int32} {a6 : Int32} {a7 : Int32} {a8 : Int32} {s : yS} {P : Option Value → yS → Prop} (r29 : ∀ a1 a2 a3 a4 a5 a6 a7 a8 s, R29 a1 a2 a3 a4 a5 a6 a7 a8 s → Go d 10 (none) xE_189 (xE_189.drop 29) [.ref 213, .int a1, .int a2, .int a3, .int a4, .int a5, .int a6, .int a7, .int a8, .null, .null, .null, .null, .null, .null] [] s P) (h : w_189_29 (Tot d) R29 a1 a2 a3 a4 a5 a6 a7 a8 s P) : Go d 10 (none) xE_189 (xE_189.drop 29) [.ref 213, .int a1, .int a2, .int a3, .int a4, .int a5, .int a6, .int a7, .int a8, .null, .null, .null, .null, .null, .null] [] s P := by
  unfold w_189_29 at h
  refine g_ld rfl rfl rfl ?_
  refine g_ld rfl rfl rfl ?_
  refine g_brP rfl rfl ⟨fun hc => ?_, fun hc => ?_⟩
  · replace h := h.1 ((i_le (x := a5) (y := a8) rfl rfl).mp hc)
    exact g_ret0 rfl h
  · replace h := h.2 (fun q => hc ((i_le (x := a5) (y := a8) rfl rfl).mpr q))
    refine g_ld rfl rfl rfl ?_
    refine g_get rfl rfl ?_
    change Go _ _ _ _ _ _ [.ref 267] _ _
    refine g_c [.int 6, .ref 267] (xo_push (.int 6)) rfl rfl ?_
    refine g_ld rfl rfl rfl ?_
    have ex1 := i_mul (x := 6) (y := a6) (show (6 : Int32).toInt = 6 by decide) rfl h.1
    have cx1 := ck_mul (x := 6) (y := a6) (show (6 : Int32).toInt = 6 by decide) rfl h.1
    replace h := h.2 _ ex1
    refine g_ca [.int (6 * a6), .ref 267] xo_imul rfl rfl (fun _ => cx1) ?_
    refine g_ld rfl rfl rfl ?_
    have ex2 := i_add (x := (6 * a6)) (y := a8) rfl rfl h.1
    have cx2 := ck_add (x := (6 * a6)) (y := a8) rfl rfl h.1
    replace h := h.2 _ ex2
    refine g_ca [.int ((6 * a6) + a8), .ref 267] xo_iadd rfl rfl (fun _ => cx2) ?_
    refine g_ld rfl rfl rfl ?_
    refine g_ias rfl rfl (i_in (x := ((6 * a6) + a8)) rfl h.1) ?_
    replace h := h.2
    replace h := h _ rfl
    refine g_ld rfl rfl rfl ?_
    refine g_ld rfl rfl rfl ?_
    refine g_call [.ref 213, .int a7] [] rfl rfl rfl (Tot.imp h (fun v5 s4 h => ?_))
    obtain ⟨x6, rfl, h⟩ := h
    change Go _ _ _ _ _ _ [.int x6] _ _
    refine g_st [.ref 213, .int a1, .int a2, .int a3, .int a4, .int a5, .int a6, .int a7, .int a8, .int x6, .null, .null, .null, .null, .null] rfl rfl rfl ?_
    refine g_ld rfl rfl rfl ?_
    refine g_get rfl rfl ?_
    change Go _ _ _ _ _ _ [.ref 268] _ _
    refine g_c [.int 6, .ref 268] (xo_push (.int 6)) rfl rfl ?_
    refine g_ld rfl rfl rfl ?_
    have ex7 := i_mul (x := 6) (y := a6) (show (6 : Int32).toInt = 6 by decide) rfl h.1
    have cx7 := ck_mul (x := 6) (y := a6) (show (6 : Int32).toInt = 6 by decide) rfl h.1
    replace h := h.2 _ ex7
    refine g_ca [.int (6 * a6), .ref 268] xo_imul rfl rfl (fun _ => cx7) ?_
    refine g_ld rfl rfl rfl ?_
    have ex8 := i_add (x := (6 * a6)) (y := a8) rfl rfl h.1
    have cx8 := ck_add (x := (6 * a6)) (y := a8) rfl rfl h.1
    replace h := h.2 _ ex8
    refine g_ca [.int ((6 * a6) + a8), .ref 268] xo_iadd rfl rfl (fun _ => cx8) ?_
    refine g_ld rfl rfl rfl ?_
    refine g_ld rfl rfl rfl ?_
    have ex9 := i_sub (x := x6) (y := a7) rfl rfl h.1
    have cx9 := ck_sub (x := x6) (y := a7) rfl rfl h.1
    replace h := h.2 _ ex9
    refine g_ca [.int (x6 - a7), .int ((6 * a6) + a8), .ref 268] xo_isub rfl rfl (fun _ => cx9) ?_
    refine g_ias rfl rfl (i_in (x := ((6 * a6) + a8)) rfl h.1) ?_
    replace h := h.2
    replace h := h _ rfl
    refine g_ld rfl rfl rfl ?_
    refine g_st [.ref 213, .int a1, .int a2, .int a3, .int a4, .int a5, .int a6, .int x6, .int a8, .int x6, .null, .null, .null, .null, .null] rfl rfl rfl ?_
    have ex11 := i_add (x := a8) (y := 1) rfl (show (1 : Int32).toInt = 1 by decide) h.1
    have cx11 := ck_inc (x := a8) (n := 1) rfl h.1
    replace h := h.2 _ ex11
    refine g_inc [.ref 213, .int a1, .int a2, .int a3, .int a4, .int a5, .int a6, .int x6, .int (a8 + 1), .int x6, .null, .null, .null, .null, .null] rfl rfl rfl rfl cx11 ?_
    refine g_go rfl ?_
    refine g_fg 9 ?_
    exact r29 a1 a2 a3 a4 a5 a6 x6 (a8 + 1)  (sa s4 268 ((6 * a6) + a8).toInt.toNat (x6 - a7)) h
def wl_189_29 (T : Nat → List Value → yS → (Option Value → yS → Prop) → Prop)  (a1 : Int32) (a2 : Int32) (a3 : Int32) (a4 : Int32) (a5 : Int32) (a6 : Int32) (a7 : Int32) (a8 : Int32) (s : yS) (P : Option Value → yS → Prop) : Prop :=
  ∃ (I : Int32 → Int32 → Int32 → Int32 → Int32 → Int32 → Int32 → Int32 → yS → Prop) (μ : Int32 → Int32 → Int32 → Int32 → Int32 → Int32 → Int32 → Int32 → yS → Nat), I a1 a2 a3 a4 a5 a6 a7 a8 s ∧ ∀ (a1 : Int32) (a2 : Int32) (a3 : Int32) (a4 : Int32) (a5 : Int32) (a6 : Int32) (a7 : Int32) (a8 : Int32) (s : yS), I a1 a2 a3 a4 a5 a6 a7 a8 s → w_189_29 T (fun a1' a2' a3' a4' a5' a6' a7' a8' s' => I a1' a2' a3' a4' a5' a6' a7' a8' s' ∧ μ a1' a2' a3' a4' a5' a6' a7' a8' s' < μ a1 a2 a3 a4 a5 a6 a7 a8 s) a1 a2 a3 a4 a5 a6 a7 a8 s P
theorem kl_189_29 {d : Nat}  {a1 : Int32} {a2 : Int32} {a3 : Int32} {a4 : Int32} {a5 : Int32} {a6 : Int32} {a7 : Int32} {a8 : Int32} {s : yS} {P : Option Value → yS → Prop}  (h : wl_189_29 (Tot d)  a1 a2 a3 a4 a5 a6 a7 a8 s P) : Go d 10 (none) xE_189 (xE_189.drop 29) [.ref 213, .int a1, .int a2, .int a3, .int a4, .int a5, .int a6, .int a7, .int a8, .null, .null, .null, .null, .null, .null] [] s P := by
  obtain ⟨I, μ, h0, h1⟩ := h
  have key : ∀ (n : Nat) (a1 : Int32) (a2 : Int32) (a3 : Int32) (a4 : Int32) (a5 : Int32) (a6 : Int32) (a7 : Int32) (a8 : Int32) (s : yS), μ a1 a2 a3 a4 a5 a6 a7 a8 s = n → I a1 a2 a3 a4 a5 a6 a7 a8 s → Go d 10 (none) xE_189 (xE_189.drop 29) [.ref 213, .int a1, .int a2, .int a3, .int a4, .int a5, .int a6, .int a7, .int a8, .null, .null, .null, .null, .null, .null] [] s P := by
    intro n
    induction n using Nat.strongRecOn with
    | ind n ih =>
      intro a1 a2 a3 a4 a5 a6 a7 a8 s e hI
      exact k_189_29 (fun a1' a2' a3' a4' a5' a6' a7' a8' s' q => ih _ (by rw [← e]; exact q.2) _ _ _ _ _ _ _ _ _ rfl q.1) (h1 a1 a2 a3 a4 a5 a6 a7 a8 s hI)
  exact key _ a1 a2 a3 a4 a5 a6 a7 a8 s rfl h0
def w_189_0 (T : Nat → List Value → yS → (Option Value → yS → Prop) → Prop)  (a1 : Int32) (a2 : Int32) (a3 : Int32) (a4 : Int32) (s : yS) (P : Option Value → yS → Prop) : Prop :=
  (0 ≤ a4.toInt ∧ a4.toInt < 200000) ∧ (0 ≤ (s.2.1 264 a4.toInt.toNat).toInt ∧ (∀ x1 : Int32, x1.toInt = (s.2.1 264 a4.toInt.toNat).toInt % 8 → (-2147483648 ≤ 2 * a1.toInt ∧ 2 * a1.toInt ≤ 2147483647) ∧ (∀ x2 : Int32, x2.toInt = 2 * a1.toInt → (-2147483648 ≤ x2.toInt + a2.toInt ∧ x2.toInt + a2.toInt ≤ 2147483647) ∧ (∀ x3 : Int32, x3.toInt = x2.toInt + a2.toInt → (0 ≤ x3.toInt ∧ x3.toInt < 600) ∧ (∀ s4, s4 = sa s 265 x3.toInt.toNat a3 → (0 ≤ x3.toInt ∧ x3.toInt < 600) ∧ (∀ s5, s5 = sa s4 266 x3.toInt.toNat x1 → (-2147483648 ≤ a4.toInt + 1 ∧ a4.toInt + 1 ≤ 2147483647) ∧ (∀ x6 : Int32, x6.toInt = a4.toInt + 1 → wl_189_29 T  a1 a2 a3 a4 x1 x3 x6 0  s5 P)))))))
set_option maxRecDepth 20000 in
theorem k_189_0 {d : Nat}  {a1 : Int32} {a2 : Int32} {a3 : Int32} {a4 : Int32} {s : yS} {P : Option Value → yS → Prop}  (h : w_189_0 (Tot d)  a1 a2 a3 a4 s P) : Go d 10 (none) xE_189 (xE_189.drop 0) [.ref 213, .int a1, .int a2, .int a3, .int a4, .null, .null, .null, .null, .null, .null, .null, .null, .null, .null] [] s P := by
  unfold w_189_0 at h
  refine g_ld rfl rfl rfl ?_
  refine g_get rfl rfl ?_
  change Go _ _ _ _ _ _ [.ref 264] _ _
  refine g_ld rfl rfl rfl ?_
  refine g_ial rfl rfl (i_in (x := a4) rfl h.1) ?_
  change Go _ _ _ _ _ _ [.int (s.2.1 264 a4.toInt.toNat)] _ _
  replace h := h.2
  refine g_c [.int 7, .int (s.2.1 264 a4.toInt.toNat)] (xo_push (.int 7)) rfl rfl ?_
  have ex1 := i_and7 (x := s.2.1 264 a4.toInt.toNat) rfl h.1
  have cx1 := ck_and (x := s.2.1 264 a4.toInt.toNat) (y := 7) rfl h.1
  replace h := h.2 _ ex1
  refine g_ca [.int ((s.2.1 264 a4.toInt.toNat) &&& 7)] xo_iand rfl rfl (fun _ => cx1) ?_
  refine g_st [.ref 213, .int a1, .int a2, .int a3, .int a4, .int ((s.2.1 264 a4.toInt.toNat) &&& 7), .null, .null, .null, .null, .null, .null, .null, .null, .null] rfl rfl rfl ?_
  refine g_c [.int 2] (xo_push (.int 2)) rfl rfl ?_
  refine g_ld rfl rfl rfl ?_
  have ex2 := i_mul (x := 2) (y := a1) (show (2 : Int32).toInt = 2 by decide) rfl h.1
  have cx2 := ck_mul (x := 2) (y := a1) (show (2 : Int32).toInt = 2 by decide) rfl h.1
  replace h := h.2 _ ex2
  refine g_ca [.int (2 * a1)] xo_imul rfl rfl (fun _ => cx2) ?_
  refine g_ld rfl rfl rfl ?_
  have ex3 := i_add (x := (2 * a1)) (y := a2) rfl rfl h.1
  have cx3 := ck_add (x := (2 * a1)) (y := a2) rfl rfl h.1
  replace h := h.2 _ ex3
  refine g_ca [.int ((2 * a1) + a2)] xo_iadd rfl rfl (fun _ => cx3) ?_
  refine g_st [.ref 213, .int a1, .int a2, .int a3, .int a4, .int ((s.2.1 264 a4.toInt.toNat) &&& 7), .int ((2 * a1) + a2), .null, .null, .null, .null, .null, .null, .null, .null] rfl rfl rfl ?_
  refine g_ld rfl rfl rfl ?_
  refine g_get rfl rfl ?_
  change Go _ _ _ _ _ _ [.ref 265] _ _
  refine g_ld rfl rfl rfl ?_
  refine g_ld rfl rfl rfl ?_
  refine g_ias rfl rfl (i_in (x := ((2 * a1) + a2)) rfl h.1) ?_
  replace h := h.2
  replace h := h _ rfl
  refine g_ld rfl rfl rfl ?_
  refine g_get rfl rfl ?_
  change Go _ _ _ _ _ _ [.ref 266] _ _
  refine g_ld rfl rfl rfl ?_
  refine g_ld rfl rfl rfl ?_
  refine g_ias rfl rfl (i_in (x := ((2 * a1) + a2)) rfl h.1) ?_
  replace h := h.2
  replace h := h _ rfl
  refine g_ld rfl rfl rfl ?_
  refine g_c [.int 1, .int a4] (xo_push (.int 1)) rfl rfl ?_
  have ex6 := i_add (x := a4) (y := 1) rfl (show (1 : Int32).toInt = 1 by decide) h.1
  have cx6 := ck_add (x := a4) (y := 1) rfl (show (1 : Int32).toInt = 1 by decide) h.1
  replace h := h.2 _ ex6
  refine g_ca [.int (a4 + 1)] xo_iadd rfl rfl (fun _ => cx6) ?_
  refine g_st [.ref 213, .int a1, .int a2, .int a3, .int a4, .int ((s.2.1 264 a4.toInt.toNat) &&& 7), .int ((2 * a1) + a2), .int (a4 + 1), .null, .null, .null, .null, .null, .null, .null] rfl rfl rfl ?_
  refine g_c [.int 0] (xo_push (.int 0)) rfl rfl ?_
  refine g_st [.ref 213, .int a1, .int a2, .int a3, .int a4, .int ((s.2.1 264 a4.toInt.toNat) &&& 7), .int ((2 * a1) + a2), .int (a4 + 1), .int 0, .null, .null, .null, .null, .null, .null] rfl rfl rfl ?_
  exact kl_189_29  h
theorem t_189 {d : Nat} {a1 : Int32} {a2 : Int32} {a3 : Int32} {a4 : Int32} {s : yS} {P : Option Value → yS → Prop} (h : w_189_0 (Tot d) a1 a2 a3 a4 s P) : Tot (d + 1) 189 [.ref 213, .int a1, .int a2, .int a3, .int a4] s P := tot_of (E := xE_189) (ml := 10) (ret := none) rfl rfl rfl (k_189_0 h)
/-! byPlaces -/
def w_190_18 (T : Nat → List Value → yS → (Option Value → yS → Prop) → Prop) (R18 : Int32 → Int32 → Int32 → Int32 → Int32 → yS → Prop) (a1 : Int32) (a2 : Int32) (a3 : Int32) (a4 : Int32) (a5 : Int32) (s : yS) (P : Option Value → yS → Prop) : Prop :=
  (a3.toInt ≤ a5.toInt → P none s) ∧ (¬ (a3.toInt ≤ a5.toInt) → (-2147483648 ≤ 6 * a4.toInt ∧ 6 * a4.toInt ≤ 2147483647) ∧ (∀ x1 : Int32, x1.toInt = 6 * a4.toInt → (-2147483648 ≤ x1.toInt + a5.toInt ∧ x1.toInt + a5.toInt ≤ 2147483647) ∧ (∀ x2 : Int32, x2.toInt = x1.toInt + a5.toInt → (0 ≤ x2.toInt ∧ x2.toInt < 3600) ∧ (∀ s3, s3 = sa s 267 x2.toInt.toNat a5 → (-2147483648 ≤ 6 * a4.toInt ∧ 6 * a4.toInt ≤ 2147483647) ∧ (∀ x4 : Int32, x4.toInt = 6 * a4.toInt → (-2147483648 ≤ x4.toInt + a5.toInt ∧ x4.toInt + a5.toInt ≤ 2147483647) ∧ (∀ x5 : Int32, x5.toInt = x4.toInt + a5.toInt → (0 ≤ x5.toInt ∧ x5.toInt < 3600) ∧ (∀ s6, s6 = sa s3 268 x5.toInt.toNat 1 → (-2147483648 ≤ a5.toInt + 1 ∧ a5.toInt + 1 ≤ 2147483647) ∧ (∀ x7 : Int32, x7.toInt = a5.toInt + 1 → R18 a1 a2 a3 a4 x7  s6))))))))
set_option maxRecDepth 20000 in
theorem k_190_18 {d : Nat} {R18 : Int32 → Int32 → Int32 → Int32 → Int32 → yS → Prop} {a1 : Int32} {a2 : Int32} {a3 : Int32} {a4 : Int32} {a5 : Int32} {s : yS} {P : Option Value → yS → Prop} (r18 : ∀ a1 a2 a3 a4 a5 s, R18 a1 a2 a3 a4 a5 s → Go d 6 (none) xE_190 (xE_190.drop 18) [.ref 213, .int a1, .int a2, .int a3, .int a4, .int a5, .null, .null, .null, .null] [] s P) (h : w_190_18 (Tot d) R18 a1 a2 a3 a4 a5 s P) : Go d 6 (none) xE_190 (xE_190.drop 18) [.ref 213, .int a1, .int a2, .int a3, .int a4, .int a5, .null, .null, .null, .null] [] s P := by
  unfold w_190_18 at h
  refine g_ld rfl rfl rfl ?_
  refine g_ld rfl rfl rfl ?_
  refine g_brP rfl rfl ⟨fun hc => ?_, fun hc => ?_⟩
  · replace h := h.1 ((i_le (x := a3) (y := a5) rfl rfl).mp hc)
    exact g_ret0 rfl h
  · replace h := h.2 (fun q => hc ((i_le (x := a3) (y := a5) rfl rfl).mpr q))
    refine g_ld rfl rfl rfl ?_
    refine g_get rfl rfl ?_
    change Go _ _ _ _ _ _ [.ref 267] _ _
    refine g_c [.int 6, .ref 267] (xo_push (.int 6)) rfl rfl ?_
    refine g_ld rfl rfl rfl ?_
    have ex1 := i_mul (x := 6) (y := a4) (show (6 : Int32).toInt = 6 by decide) rfl h.1
    have cx1 := ck_mul (x := 6) (y := a4) (show (6 : Int32).toInt = 6 by decide) rfl h.1
    replace h := h.2 _ ex1
    refine g_ca [.int (6 * a4), .ref 267] xo_imul rfl rfl (fun _ => cx1) ?_
    refine g_ld rfl rfl rfl ?_
    have ex2 := i_add (x := (6 * a4)) (y := a5) rfl rfl h.1
    have cx2 := ck_add (x := (6 * a4)) (y := a5) rfl rfl h.1
    replace h := h.2 _ ex2
    refine g_ca [.int ((6 * a4) + a5), .ref 267] xo_iadd rfl rfl (fun _ => cx2) ?_
    refine g_ld rfl rfl rfl ?_
    refine g_ias rfl rfl (i_in (x := ((6 * a4) + a5)) rfl h.1) ?_
    replace h := h.2
    replace h := h _ rfl
    refine g_ld rfl rfl rfl ?_
    refine g_get rfl rfl ?_
    change Go _ _ _ _ _ _ [.ref 268] _ _
    refine g_c [.int 6, .ref 268] (xo_push (.int 6)) rfl rfl ?_
    refine g_ld rfl rfl rfl ?_
    have ex4 := i_mul (x := 6) (y := a4) (show (6 : Int32).toInt = 6 by decide) rfl h.1
    have cx4 := ck_mul (x := 6) (y := a4) (show (6 : Int32).toInt = 6 by decide) rfl h.1
    replace h := h.2 _ ex4
    refine g_ca [.int (6 * a4), .ref 268] xo_imul rfl rfl (fun _ => cx4) ?_
    refine g_ld rfl rfl rfl ?_
    have ex5 := i_add (x := (6 * a4)) (y := a5) rfl rfl h.1
    have cx5 := ck_add (x := (6 * a4)) (y := a5) rfl rfl h.1
    replace h := h.2 _ ex5
    refine g_ca [.int ((6 * a4) + a5), .ref 268] xo_iadd rfl rfl (fun _ => cx5) ?_
    refine g_c [.int 1, .int ((6 * a4) + a5), .ref 268] (xo_push (.int 1)) rfl rfl ?_
    refine g_ias rfl rfl (i_in (x := ((6 * a4) + a5)) rfl h.1) ?_
    replace h := h.2
    replace h := h _ rfl
    have ex7 := i_add (x := a5) (y := 1) rfl (show (1 : Int32).toInt = 1 by decide) h.1
    have cx7 := ck_inc (x := a5) (n := 1) rfl h.1
    replace h := h.2 _ ex7
    refine g_inc [.ref 213, .int a1, .int a2, .int a3, .int a4, .int (a5 + 1), .null, .null, .null, .null] rfl rfl rfl rfl cx7 ?_
    refine g_go rfl ?_
    exact r18 a1 a2 a3 a4 (a5 + 1)  (sa (sa s 267 ((6 * a4) + a5).toInt.toNat a5) 268 ((6 * a4) + a5).toInt.toNat 1) h
def wl_190_18 (T : Nat → List Value → yS → (Option Value → yS → Prop) → Prop)  (a1 : Int32) (a2 : Int32) (a3 : Int32) (a4 : Int32) (a5 : Int32) (s : yS) (P : Option Value → yS → Prop) : Prop :=
  ∃ (I : Int32 → Int32 → Int32 → Int32 → Int32 → yS → Prop) (μ : Int32 → Int32 → Int32 → Int32 → Int32 → yS → Nat), I a1 a2 a3 a4 a5 s ∧ ∀ (a1 : Int32) (a2 : Int32) (a3 : Int32) (a4 : Int32) (a5 : Int32) (s : yS), I a1 a2 a3 a4 a5 s → w_190_18 T (fun a1' a2' a3' a4' a5' s' => I a1' a2' a3' a4' a5' s' ∧ μ a1' a2' a3' a4' a5' s' < μ a1 a2 a3 a4 a5 s) a1 a2 a3 a4 a5 s P
theorem kl_190_18 {d : Nat}  {a1 : Int32} {a2 : Int32} {a3 : Int32} {a4 : Int32} {a5 : Int32} {s : yS} {P : Option Value → yS → Prop}  (h : wl_190_18 (Tot d)  a1 a2 a3 a4 a5 s P) : Go d 6 (none) xE_190 (xE_190.drop 18) [.ref 213, .int a1, .int a2, .int a3, .int a4, .int a5, .null, .null, .null, .null] [] s P := by
  obtain ⟨I, μ, h0, h1⟩ := h
  have key : ∀ (n : Nat) (a1 : Int32) (a2 : Int32) (a3 : Int32) (a4 : Int32) (a5 : Int32) (s : yS), μ a1 a2 a3 a4 a5 s = n → I a1 a2 a3 a4 a5 s → Go d 6 (none) xE_190 (xE_190.drop 18) [.ref 213, .int a1, .int a2, .int a3, .int a4, .int a5, .null, .null, .null, .null] [] s P := by
    intro n
    induction n using Nat.strongRecOn with
    | ind n ih =>
      intro a1 a2 a3 a4 a5 s e hI
      exact k_190_18 (fun a1' a2' a3' a4' a5' s' q => ih _ (by rw [← e]; exact q.2) _ _ _ _ _ _ rfl q.1) (h1 a1 a2 a3 a4 a5 s hI)
  exact key _ a1 a2 a3 a4 a5 s rfl h0
def w_190_0 (T : Nat → List Value → yS → (Option Value → yS → Prop) → Prop)  (a1 : Int32) (a2 : Int32) (a3 : Int32) (s : yS) (P : Option Value → yS → Prop) : Prop :=
  (-2147483648 ≤ 2 * a1.toInt ∧ 2 * a1.toInt ≤ 2147483647) ∧ (∀ x1 : Int32, x1.toInt = 2 * a1.toInt → (-2147483648 ≤ x1.toInt + 1 ∧ x1.toInt + 1 ≤ 2147483647) ∧ (∀ x2 : Int32, x2.toInt = x1.toInt + 1 → (0 ≤ x2.toInt ∧ x2.toInt < 600) ∧ (∀ s3, s3 = sa s 265 x2.toInt.toNat a2 → (0 ≤ x2.toInt ∧ x2.toInt < 600) ∧ (∀ s4, s4 = sa s3 266 x2.toInt.toNat a3 → wl_190_18 T  a1 a2 a3 x2 0  s4 P))))
set_option maxRecDepth 20000 in
theorem k_190_0 {d : Nat}  {a1 : Int32} {a2 : Int32} {a3 : Int32} {s : yS} {P : Option Value → yS → Prop}  (h : w_190_0 (Tot d)  a1 a2 a3 s P) : Go d 6 (none) xE_190 (xE_190.drop 0) [.ref 213, .int a1, .int a2, .int a3, .null, .null, .null, .null, .null, .null] [] s P := by
  unfold w_190_0 at h
  refine g_c [.int 2] (xo_push (.int 2)) rfl rfl ?_
  refine g_ld rfl rfl rfl ?_
  have ex1 := i_mul (x := 2) (y := a1) (show (2 : Int32).toInt = 2 by decide) rfl h.1
  have cx1 := ck_mul (x := 2) (y := a1) (show (2 : Int32).toInt = 2 by decide) rfl h.1
  replace h := h.2 _ ex1
  refine g_ca [.int (2 * a1)] xo_imul rfl rfl (fun _ => cx1) ?_
  refine g_c [.int 1, .int (2 * a1)] (xo_push (.int 1)) rfl rfl ?_
  have ex2 := i_add (x := (2 * a1)) (y := 1) rfl (show (1 : Int32).toInt = 1 by decide) h.1
  have cx2 := ck_add (x := (2 * a1)) (y := 1) rfl (show (1 : Int32).toInt = 1 by decide) h.1
  replace h := h.2 _ ex2
  refine g_ca [.int ((2 * a1) + 1)] xo_iadd rfl rfl (fun _ => cx2) ?_
  refine g_st [.ref 213, .int a1, .int a2, .int a3, .int ((2 * a1) + 1), .null, .null, .null, .null, .null] rfl rfl rfl ?_
  refine g_ld rfl rfl rfl ?_
  refine g_get rfl rfl ?_
  change Go _ _ _ _ _ _ [.ref 265] _ _
  refine g_ld rfl rfl rfl ?_
  refine g_ld rfl rfl rfl ?_
  refine g_ias rfl rfl (i_in (x := ((2 * a1) + 1)) rfl h.1) ?_
  replace h := h.2
  replace h := h _ rfl
  refine g_ld rfl rfl rfl ?_
  refine g_get rfl rfl ?_
  change Go _ _ _ _ _ _ [.ref 266] _ _
  refine g_ld rfl rfl rfl ?_
  refine g_ld rfl rfl rfl ?_
  refine g_ias rfl rfl (i_in (x := ((2 * a1) + 1)) rfl h.1) ?_
  replace h := h.2
  replace h := h _ rfl
  refine g_c [.int 0] (xo_push (.int 0)) rfl rfl ?_
  refine g_st [.ref 213, .int a1, .int a2, .int a3, .int ((2 * a1) + 1), .int 0, .null, .null, .null, .null] rfl rfl rfl ?_
  exact kl_190_18  h
theorem t_190 {d : Nat} {a1 : Int32} {a2 : Int32} {a3 : Int32} {s : yS} {P : Option Value → yS → Prop} (h : w_190_0 (Tot d) a1 a2 a3 s P) : Tot (d + 1) 190 [.ref 213, .int a1, .int a2, .int a3] s P := tot_of (E := xE_190) (ml := 6) (ret := none) rfl rfl rfl (k_190_0 h)
/-! put -/
def w_191_68 (T : Nat → List Value → yS → (Option Value → yS → Prop) → Prop) (R7 : Int32 → Int32 → Int32 → Int32 → Int32 → Int32 → yS → Prop) (R42 : Int32 → Int32 → Int32 → Int32 → Int32 → Int32 → Int32 → Int32 → Int32 → yS → Prop) (a1 : Int32) (a2 : Int32) (a3 : Int32) (a4 : Int32) (a5 : Int32) (a6 : Int32) (a7 : Int32) (a8 : Int32) (a9 : Int32) (t1 : Int32) (t2 : Int32) (s : yS) (P : Option Value → yS → Prop) : Prop :=
  (0 ≤ t1.toInt ∧ t1.toInt < 200000) ∧ (∀ s1, s1 = sa s 264 t1.toInt.toNat t2 → (-2147483648 ≤ a9.toInt + 1 ∧ a9.toInt + 1 ≤ 2147483647) ∧ (∀ x2 : Int32, x2.toInt = a9.toInt + 1 → R42 a1 a2 a3 a4 a5 a6 a7 a8 x2  s1))
set_option maxRecDepth 20000 in
theorem k_191_68 {d : Nat} {R7 : Int32 → Int32 → Int32 → Int32 → Int32 → Int32 → yS → Prop} {R42 : Int32 → Int32 → Int32 → Int32 → Int32 → Int32 → Int32 → Int32 → Int32 → yS → Prop} {a1 : Int32} {a2 : Int32} {a3 : Int32} {a4 : Int32} {a5 : Int32} {a6 : Int32} {a7 : Int32} {a8 : Int32} {a9 : Int32} {t1 : Int32} {t2 : Int32} {s : yS} {P : Option Value → yS → Prop} (r7 : ∀ a1 a2 a3 a4 a5 a6 s, R7 a1 a2 a3 a4 a5 a6 s → Go d 10 (some .boolean) xE_191 (xE_191.drop 7) [.ref 213, .int a1, .int a2, .int a3, .int a4, .int a5, .int a6, .null, .null, .null, .null, .null, .null, .null] [] s P) (r42 : ∀ a1 a2 a3 a4 a5 a6 a7 a8 a9 s, R42 a1 a2 a3 a4 a5 a6 a7 a8 a9 s → Go d 10 (some .boolean) xE_191 (xE_191.drop 42) [.ref 213, .int a1, .int a2, .int a3, .int a4, .int a5, .int a6, .int a7, .int a8, .int a9, .null, .null, .null, .null] [] s P) (h : w_191_68 (Tot d) R7 R42 a1 a2 a3 a4 a5 a6 a7 a8 a9 t1 t2 s P) : Go d 10 (some .boolean) xE_191 (xE_191.drop 68) [.ref 213, .int a1, .int a2, .int a3, .int a4, .int a5, .int a6, .int a7, .int a8, .int a9, .null, .null, .null, .null] [.int t2, .int t1, .ref 264] s P := by
  unfold w_191_68 at h
  refine g_ias rfl rfl (i_in (x := t1) rfl h.1) ?_
  replace h := h.2
  replace h := h _ rfl
  have ex2 := i_add (x := a9) (y := 1) rfl (show (1 : Int32).toInt = 1 by decide) h.1
  have cx2 := ck_inc (x := a9) (n := 1) rfl h.1
  replace h := h.2 _ ex2
  refine g_inc [.ref 213, .int a1, .int a2, .int a3, .int a4, .int a5, .int a6, .int a7, .int a8, .int (a9 + 1), .null, .null, .null, .null] rfl rfl rfl rfl cx2 ?_
  refine g_go rfl ?_
  exact r42 a1 a2 a3 a4 a5 a6 a7 a8 (a9 + 1)  (sa s 264 t1.toInt.toNat t2) h
def w_191_42 (T : Nat → List Value → yS → (Option Value → yS → Prop) → Prop) (R7 : Int32 → Int32 → Int32 → Int32 → Int32 → Int32 → yS → Prop) (R42 : Int32 → Int32 → Int32 → Int32 → Int32 → Int32 → Int32 → Int32 → Int32 → yS → Prop) (a1 : Int32) (a2 : Int32) (a3 : Int32) (a4 : Int32) (a5 : Int32) (a6 : Int32) (a7 : Int32) (a8 : Int32) (a9 : Int32) (s : yS) (P : Option Value → yS → Prop) : Prop :=
  (a8.toInt ≤ a9.toInt → (-2147483648 ≤ a5.toInt + a8.toInt ∧ a5.toInt + a8.toInt ≤ 2147483647) ∧ (∀ x1 : Int32, x1.toInt = a5.toInt + a8.toInt → (-2147483648 ≤ a6.toInt + 1 ∧ a6.toInt + 1 ≤ 2147483647) ∧ (∀ x2 : Int32, x2.toInt = a6.toInt + 1 → R7 a1 a2 a3 a4 x1 x2  s))) ∧ (¬ (a8.toInt ≤ a9.toInt) → (-2147483648 ≤ a4.toInt + a5.toInt ∧ a4.toInt + a5.toInt ≤ 2147483647) ∧ (∀ x3 : Int32, x3.toInt = a4.toInt + a5.toInt → (-2147483648 ≤ x3.toInt + a9.toInt ∧ x3.toInt + a9.toInt ≤ 2147483647) ∧ (∀ x4 : Int32, x4.toInt = x3.toInt + a9.toInt → (0 ≤ a7.toInt → (0 ≤ a7.toInt ∧ a7.toInt < 3600) ∧ ((-2147483648 ≤ (s.2.1 267 a7.toInt.toNat).toInt + a9.toInt ∧ (s.2.1 267 a7.toInt.toNat).toInt + a9.toInt ≤ 2147483647) ∧ (∀ x5 : Int32, x5.toInt = (s.2.1 267 a7.toInt.toNat).toInt + a9.toInt → (0 ≤ x5.toInt ∧ x5.toInt < 200000) ∧ (w_191_68 T R7 R42 a1 a2 a3 a4 a5 a6 a7 a8 a9 x4 (s.2.1 264 x5.toInt.toNat) s P)))) ∧ (¬ (0 ≤ a7.toInt) → (0 ≤ a6.toInt ∧ a6.toInt < 200000) ∧ (w_191_68 T R7 R42 a1 a2 a3 a4 a5 a6 a7 a8 a9 x4 (s.2.1 264 a6.toInt.toNat) s P)))))
set_option maxRecDepth 20000 in
theorem k_191_42 {d : Nat} {R7 : Int32 → Int32 → Int32 → Int32 → Int32 → Int32 → yS → Prop} {R42 : Int32 → Int32 → Int32 → Int32 → Int32 → Int32 → Int32 → Int32 → Int32 → yS → Prop} {a1 : Int32} {a2 : Int32} {a3 : Int32} {a4 : Int32} {a5 : Int32} {a6 : Int32} {a7 : Int32} {a8 : Int32} {a9 : Int32} {s : yS} {P : Option Value → yS → Prop} (r7 : ∀ a1 a2 a3 a4 a5 a6 s, R7 a1 a2 a3 a4 a5 a6 s → Go d 10 (some .boolean) xE_191 (xE_191.drop 7) [.ref 213, .int a1, .int a2, .int a3, .int a4, .int a5, .int a6, .null, .null, .null, .null, .null, .null, .null] [] s P) (r42 : ∀ a1 a2 a3 a4 a5 a6 a7 a8 a9 s, R42 a1 a2 a3 a4 a5 a6 a7 a8 a9 s → Go d 10 (some .boolean) xE_191 (xE_191.drop 42) [.ref 213, .int a1, .int a2, .int a3, .int a4, .int a5, .int a6, .int a7, .int a8, .int a9, .null, .null, .null, .null] [] s P) (h : w_191_42 (Tot d) R7 R42 a1 a2 a3 a4 a5 a6 a7 a8 a9 s P) : Go d 10 (some .boolean) xE_191 (xE_191.drop 42) [.ref 213, .int a1, .int a2, .int a3, .int a4, .int a5, .int a6, .int a7, .int a8, .int a9, .null, .null, .null, .null] [] s P := by
  unfold w_191_42 at h
  refine g_ld rfl rfl rfl ?_
  refine g_ld rfl rfl rfl ?_
  refine g_brP rfl rfl ⟨fun hc => ?_, fun hc => ?_⟩
  · replace h := h.1 ((i_le (x := a8) (y := a9) rfl rfl).mp hc)
    refine g_ld rfl rfl rfl ?_
    refine g_ld rfl rfl rfl ?_
    have ex1 := i_add (x := a5) (y := a8) rfl rfl h.1
    have cx1 := ck_add (x := a5) (y := a8) rfl rfl h.1
    replace h := h.2 _ ex1
    refine g_ca [.int (a5 + a8)] xo_iadd rfl rfl (fun _ => cx1) ?_
    refine g_st [.ref 213, .int a1, .int a2, .int a3, .int a4, .int (a5 + a8), .int a6, .int a7, .int a8, .int a9, .null, .null, .null, .null] rfl rfl rfl ?_
    have ex2 := i_add (x := a6) (y := 1) rfl (show (1 : Int32).toInt = 1 by decide) h.1
    have cx2 := ck_inc (x := a6) (n := 1) rfl h.1
    replace h := h.2 _ ex2
    refine g_inc [.ref 213, .int a1, .int a2, .int a3, .int a4, .int (a5 + a8), .int (a6 + 1), .int a7, .int a8, .int a9, .null, .null, .null, .null] rfl rfl rfl rfl cx2 ?_
    refine g_go rfl ?_
    refine g_fg 7 ?_
    refine g_fg 8 ?_
    refine g_fg 9 ?_
    exact r7 a1 a2 a3 a4 (a5 + a8) (a6 + 1)  s h
  · replace h := h.2 (fun q => hc ((i_le (x := a8) (y := a9) rfl rfl).mpr q))
    refine g_ld rfl rfl rfl ?_
    refine g_get rfl rfl ?_
    change Go _ _ _ _ _ _ [.ref 264] _ _
    refine g_ld rfl rfl rfl ?_
    refine g_ld rfl rfl rfl ?_
    have ex3 := i_add (x := a4) (y := a5) rfl rfl h.1
    have cx3 := ck_add (x := a4) (y := a5) rfl rfl h.1
    replace h := h.2 _ ex3
    refine g_ca [.int (a4 + a5), .ref 264] xo_iadd rfl rfl (fun _ => cx3) ?_
    refine g_ld rfl rfl rfl ?_
    have ex4 := i_add (x := (a4 + a5)) (y := a9) rfl rfl h.1
    have cx4 := ck_add (x := (a4 + a5)) (y := a9) rfl rfl h.1
    replace h := h.2 _ ex4
    refine g_ca [.int ((a4 + a5) + a9), .ref 264] xo_iadd rfl rfl (fun _ => cx4) ?_
    refine g_ld rfl rfl rfl ?_
    refine g_brP rfl rfl ⟨fun hc => ?_, fun hc => ?_⟩
    · replace h := h.1 ((i_le (x := 0) (y := a7) (show (0 : Int32).toInt = 0 by decide) rfl).mp hc)
      refine g_ld rfl rfl rfl ?_
      refine g_get rfl rfl ?_
      change Go _ _ _ _ _ _ [.ref 264, .int ((a4 + a5) + a9), .ref 264] _ _
      refine g_ld rfl rfl rfl ?_
      refine g_get rfl rfl ?_
      change Go _ _ _ _ _ _ [.ref 267, .ref 264, .int ((a4 + a5) + a9), .ref 264] _ _
      refine g_ld rfl rfl rfl ?_
      refine g_ial rfl rfl (i_in (x := a7) rfl h.1) ?_
      change Go _ _ _ _ _ _ [.int (s.2.1 267 a7.toInt.toNat), .ref 264, .int ((a4 + a5) + a9), .ref 264] _ _
      replace h := h.2
      refine g_ld rfl rfl rfl ?_
      have ex5 := i_add (x := s.2.1 267 a7.toInt.toNat) (y := a9) rfl rfl h.1
      have cx5 := ck_add (x := s.2.1 267 a7.toInt.toNat) (y := a9) rfl rfl h.1
      replace h := h.2 _ ex5
      refine g_ca [.int ((s.2.1 267 a7.toInt.toNat) + a9), .ref 264, .int ((a4 + a5) + a9), .ref 264] xo_iadd rfl rfl (fun _ => cx5) ?_
      refine g_ial rfl rfl (i_in (x := ((s.2.1 267 a7.toInt.toNat) + a9)) rfl h.1) ?_
      change Go _ _ _ _ _ _ [.int (s.2.1 264 ((s.2.1 267 a7.toInt.toNat) + a9).toInt.toNat), .int ((a4 + a5) + a9), .ref 264] _ _
      replace h := h.2
      exact k_191_68 r7 r42 h
    · replace h := h.2 (fun q => hc ((i_le (x := 0) (y := a7) (show (0 : Int32).toInt = 0 by decide) rfl).mpr q))
      refine g_ld rfl rfl rfl ?_
      refine g_get rfl rfl ?_
      change Go _ _ _ _ _ _ [.ref 264, .int ((a4 + a5) + a9), .ref 264] _ _
      refine g_ld rfl rfl rfl ?_
      refine g_ial rfl rfl (i_in (x := a6) rfl h.1) ?_
      change Go _ _ _ _ _ _ [.int (s.2.1 264 a6.toInt.toNat), .int ((a4 + a5) + a9), .ref 264] _ _
      replace h := h.2
      refine g_go rfl ?_
      exact k_191_68 r7 r42 h
def wl_191_42 (T : Nat → List Value → yS → (Option Value → yS → Prop) → Prop) (R7 : Int32 → Int32 → Int32 → Int32 → Int32 → Int32 → yS → Prop) (a1 : Int32) (a2 : Int32) (a3 : Int32) (a4 : Int32) (a5 : Int32) (a6 : Int32) (a7 : Int32) (a8 : Int32) (a9 : Int32) (s : yS) (P : Option Value → yS → Prop) : Prop :=
  ∃ (I : Int32 → Int32 → Int32 → Int32 → Int32 → Int32 → Int32 → Int32 → Int32 → yS → Prop) (μ : Int32 → Int32 → Int32 → Int32 → Int32 → Int32 → Int32 → Int32 → Int32 → yS → Nat), I a1 a2 a3 a4 a5 a6 a7 a8 a9 s ∧ ∀ (a1 : Int32) (a2 : Int32) (a3 : Int32) (a4 : Int32) (a5 : Int32) (a6 : Int32) (a7 : Int32) (a8 : Int32) (a9 : Int32) (s : yS), I a1 a2 a3 a4 a5 a6 a7 a8 a9 s → w_191_42 T R7 (fun a1' a2' a3' a4' a5' a6' a7' a8' a9' s' => I a1' a2' a3' a4' a5' a6' a7' a8' a9' s' ∧ μ a1' a2' a3' a4' a5' a6' a7' a8' a9' s' < μ a1 a2 a3 a4 a5 a6 a7 a8 a9 s) a1 a2 a3 a4 a5 a6 a7 a8 a9 s P
theorem kl_191_42 {d : Nat} {R7 : Int32 → Int32 → Int32 → Int32 → Int32 → Int32 → yS → Prop} {a1 : Int32} {a2 : Int32} {a3 : Int32} {a4 : Int32} {a5 : Int32} {a6 : Int32} {a7 : Int32} {a8 : Int32} {a9 : Int32} {s : yS} {P : Option Value → yS → Prop} (r7 : ∀ a1 a2 a3 a4 a5 a6 s, R7 a1 a2 a3 a4 a5 a6 s → Go d 10 (some .boolean) xE_191 (xE_191.drop 7) [.ref 213, .int a1, .int a2, .int a3, .int a4, .int a5, .int a6, .null, .null, .null, .null, .null, .null, .null] [] s P) (h : wl_191_42 (Tot d) R7 a1 a2 a3 a4 a5 a6 a7 a8 a9 s P) : Go d 10 (some .boolean) xE_191 (xE_191.drop 42) [.ref 213, .int a1, .int a2, .int a3, .int a4, .int a5, .int a6, .int a7, .int a8, .int a9, .null, .null, .null, .null] [] s P := by
  obtain ⟨I, μ, h0, h1⟩ := h
  have key : ∀ (n : Nat) (a1 : Int32) (a2 : Int32) (a3 : Int32) (a4 : Int32) (a5 : Int32) (a6 : Int32) (a7 : Int32) (a8 : Int32) (a9 : Int32) (s : yS), μ a1 a2 a3 a4 a5 a6 a7 a8 a9 s = n → I a1 a2 a3 a4 a5 a6 a7 a8 a9 s → Go d 10 (some .boolean) xE_191 (xE_191.drop 42) [.ref 213, .int a1, .int a2, .int a3, .int a4, .int a5, .int a6, .int a7, .int a8, .int a9, .null, .null, .null, .null] [] s P := by
    intro n
    induction n using Nat.strongRecOn with
    | ind n ih =>
      intro a1 a2 a3 a4 a5 a6 a7 a8 a9 s e hI
      exact k_191_42 r7 (fun a1' a2' a3' a4' a5' a6' a7' a8' a9' s' q => ih _ (by rw [← e]; exact q.2) _ _ _ _ _ _ _ _ _ _ rfl q.1) (h1 a1 a2 a3 a4 a5 a6 a7 a8 a9 s hI)
  exact key _ a1 a2 a3 a4 a5 a6 a7 a8 a9 s rfl h0
def w_191_29 (T : Nat → List Value → yS → (Option Value → yS → Prop) → Prop) (R7 : Int32 → Int32 → Int32 → Int32 → Int32 → Int32 → yS → Prop) (a1 : Int32) (a2 : Int32) (a3 : Int32) (a4 : Int32) (a5 : Int32) (a6 : Int32) (a7 : Int32) (t0 : Int32) (s : yS) (P : Option Value → yS → Prop) : Prop :=
  (-2147483648 ≤ a5.toInt + t0.toInt ∧ a5.toInt + t0.toInt ≤ 2147483647) ∧ (∀ x1 : Int32, x1.toInt = a5.toInt + t0.toInt → (x1.toInt ≤ 60 → wl_191_42 T R7 a1 a2 a3 a4 a5 a6 a7 t0 0  s P) ∧ (¬ (x1.toInt ≤ 60) → ∀ s2, s2 = sf s 64 a4 → P (some (.int 0)) s2))
set_option maxRecDepth 20000 in
theorem k_191_29 {d : Nat} {R7 : Int32 → Int32 → Int32 → Int32 → Int32 → Int32 → yS → Prop} {a1 : Int32} {a2 : Int32} {a3 : Int32} {a4 : Int32} {a5 : Int32} {a6 : Int32} {a7 : Int32} {t0 : Int32} {s : yS} {P : Option Value → yS → Prop} (r7 : ∀ a1 a2 a3 a4 a5 a6 s, R7 a1 a2 a3 a4 a5 a6 s → Go d 10 (some .boolean) xE_191 (xE_191.drop 7) [.ref 213, .int a1, .int a2, .int a3, .int a4, .int a5, .int a6, .null, .null, .null, .null, .null, .null, .null] [] s P) (h : w_191_29 (Tot d) R7 a1 a2 a3 a4 a5 a6 a7 t0 s P) : Go d 10 (some .boolean) xE_191 (xE_191.drop 29) [.ref 213, .int a1, .int a2, .int a3, .int a4, .int a5, .int a6, .int a7, .null, .null, .null, .null, .null, .null] [.int t0] s P := by
  unfold w_191_29 at h
  refine g_st [.ref 213, .int a1, .int a2, .int a3, .int a4, .int a5, .int a6, .int a7, .int t0, .null, .null, .null, .null, .null] rfl rfl rfl ?_
  refine g_ld rfl rfl rfl ?_
  refine g_ld rfl rfl rfl ?_
  have ex1 := i_add (x := a5) (y := t0) rfl rfl h.1
  have cx1 := ck_add (x := a5) (y := t0) rfl rfl h.1
  replace h := h.2 _ ex1
  refine g_ca [.int (a5 + t0)] xo_iadd rfl rfl (fun _ => cx1) ?_
  refine g_c [.int 60, .int (a5 + t0)] (xo_push (.int 60)) rfl rfl ?_
  refine g_brP rfl rfl ⟨fun hc => ?_, fun hc => ?_⟩
  · replace h := h.1 ((i_le (x := (a5 + t0)) (y := 60) rfl (show (60 : Int32).toInt = 60 by decide)).mp hc)
    refine g_c [.int 0] (xo_push (.int 0)) rfl rfl ?_
    refine g_st [.ref 213, .int a1, .int a2, .int a3, .int a4, .int a5, .int a6, .int a7, .int t0, .int 0, .null, .null, .null, .null] rfl rfl rfl ?_
    exact kl_191_42 r7 h
  · replace h := h.2 (fun q => hc ((i_le (x := (a5 + t0)) (y := 60) rfl (show (60 : Int32).toInt = 60 by decide)).mpr q))
    refine g_ld rfl rfl rfl ?_
    refine g_ld rfl rfl rfl ?_
    refine g_put rfl rfl rfl ?_
    replace h := h _ rfl
    refine g_c [.int 0] (xo_push (.int 0)) rfl rfl ?_
    exact g_retZ rfl rfl h
def w_191_7 (T : Nat → List Value → yS → (Option Value → yS → Prop) → Prop) (R7 : Int32 → Int32 → Int32 → Int32 → Int32 → Int32 → yS → Prop) (a1 : Int32) (a2 : Int32) (a3 : Int32) (a4 : Int32) (a5 : Int32) (a6 : Int32) (s : yS) (P : Option Value → yS → Prop) : Prop :=
  (-2147483648 ≤ a1.toInt + a2.toInt ∧ a1.toInt + a2.toInt ≤ 2147483647) ∧ (∀ x1 : Int32, x1.toInt = a1.toInt + a2.toInt → (x1.toInt ≤ a6.toInt → ∀ s2, s2 = sf s 71 a4 → ∀ s3, s3 = sf s2 72 a5 → (-2147483648 ≤ a4.toInt + a5.toInt ∧ a4.toInt + a5.toInt ≤ 2147483647) ∧ (∀ x4 : Int32, x4.toInt = a4.toInt + a5.toInt → ∀ s5, s5 = sf s3 64 x4 → P (some (.int 1)) s5)) ∧ (¬ (x1.toInt ≤ a6.toInt) → (0 ≤ a6.toInt ∧ a6.toInt < 200000) ∧ (T 185 [.int (s.2.1 264 a6.toInt.toNat)] s (fun v7 s6 => ∃ x8, v7 = some (.int x8) ∧ (T 192 [.ref 213, .int x8, .int a3] s6 (fun v10 s9 => ∃ x11, v10 = some (.int x11) ∧ ((0 ≤ x11.toInt → (0 ≤ x11.toInt ∧ x11.toInt < 3600) ∧ (w_191_29 T R7 a1 a2 a3 a4 a5 a6 x11 (s9.2.1 268 x11.toInt.toNat) s9 P)) ∧ (¬ (0 ≤ x11.toInt) → w_191_29 T R7 a1 a2 a3 a4 a5 a6 x11 1 s9 P))))))))
set_option maxRecDepth 20000 in
theorem k_191_7 {d : Nat} {R7 : Int32 → Int32 → Int32 → Int32 → Int32 → Int32 → yS → Prop} {a1 : Int32} {a2 : Int32} {a3 : Int32} {a4 : Int32} {a5 : Int32} {a6 : Int32} {s : yS} {P : Option Value → yS → Prop} (r7 : ∀ a1 a2 a3 a4 a5 a6 s, R7 a1 a2 a3 a4 a5 a6 s → Go d 10 (some .boolean) xE_191 (xE_191.drop 7) [.ref 213, .int a1, .int a2, .int a3, .int a4, .int a5, .int a6, .null, .null, .null, .null, .null, .null, .null] [] s P) (h : w_191_7 (Tot d) R7 a1 a2 a3 a4 a5 a6 s P) : Go d 10 (some .boolean) xE_191 (xE_191.drop 7) [.ref 213, .int a1, .int a2, .int a3, .int a4, .int a5, .int a6, .null, .null, .null, .null, .null, .null, .null] [] s P := by
  unfold w_191_7 at h
  refine g_ld rfl rfl rfl ?_
  refine g_ld rfl rfl rfl ?_
  refine g_ld rfl rfl rfl ?_
  have ex1 := i_add (x := a1) (y := a2) rfl rfl h.1
  have cx1 := ck_add (x := a1) (y := a2) rfl rfl h.1
  replace h := h.2 _ ex1
  refine g_ca [.int (a1 + a2), .int a6] xo_iadd rfl rfl (fun _ => cx1) ?_
  refine g_brP rfl rfl ⟨fun hc => ?_, fun hc => ?_⟩
  · replace h := h.1 ((i_le (x := (a1 + a2)) (y := a6) rfl rfl).mp hc)
    refine g_ld rfl rfl rfl ?_
    refine g_ld rfl rfl rfl ?_
    refine g_put rfl rfl rfl ?_
    replace h := h _ rfl
    refine g_ld rfl rfl rfl ?_
    refine g_ld rfl rfl rfl ?_
    refine g_put rfl rfl rfl ?_
    replace h := h _ rfl
    refine g_ld rfl rfl rfl ?_
    refine g_ld rfl rfl rfl ?_
    refine g_ld rfl rfl rfl ?_
    have ex4 := i_add (x := a4) (y := a5) rfl rfl h.1
    have cx4 := ck_add (x := a4) (y := a5) rfl rfl h.1
    replace h := h.2 _ ex4
    refine g_ca [.int (a4 + a5), .ref 213] xo_iadd rfl rfl (fun _ => cx4) ?_
    refine g_put rfl rfl rfl ?_
    replace h := h _ rfl
    refine g_c [.int 1] (xo_push (.int 1)) rfl rfl ?_
    exact g_retZ rfl rfl h
  · replace h := h.2 (fun q => hc ((i_le (x := (a1 + a2)) (y := a6) rfl rfl).mpr q))
    refine g_ld rfl rfl rfl ?_
    refine g_ld rfl rfl rfl ?_
    refine g_get rfl rfl ?_
    change Go _ _ _ _ _ _ [.ref 264, .ref 213] _ _
    refine g_ld rfl rfl rfl ?_
    refine g_ial rfl rfl (i_in (x := a6) rfl h.1) ?_
    change Go _ _ _ _ _ _ [.int (s.2.1 264 a6.toInt.toNat), .ref 213] _ _
    replace h := h.2
    refine g_call [.int (s.2.1 264 a6.toInt.toNat)] [.ref 213] rfl rfl rfl (Tot.imp h (fun v7 s6 h => ?_))
    obtain ⟨x8, rfl, h⟩ := h
    change Go _ _ _ _ _ _ [.int x8, .ref 213] _ _
    refine g_ld rfl rfl rfl ?_
    refine g_call [.ref 213, .int x8, .int a3] [] rfl rfl rfl (Tot.imp h (fun v10 s9 h => ?_))
    obtain ⟨x11, rfl, h⟩ := h
    change Go _ _ _ _ _ _ [.int x11] _ _
    refine g_st [.ref 213, .int a1, .int a2, .int a3, .int a4, .int a5, .int a6, .int x11, .null, .null, .null, .null, .null, .null] rfl rfl rfl ?_
    refine g_ld rfl rfl rfl ?_
    refine g_brP rfl rfl ⟨fun hc => ?_, fun hc => ?_⟩
    · replace h := h.1 ((i_le (x := 0) (y := x11) (show (0 : Int32).toInt = 0 by decide) rfl).mp hc)
      refine g_ld rfl rfl rfl ?_
      refine g_get rfl rfl ?_
      change Go _ _ _ _ _ _ [.ref 268] _ _
      refine g_ld rfl rfl rfl ?_
      refine g_ial rfl rfl (i_in (x := x11) rfl h.1) ?_
      change Go _ _ _ _ _ _ [.int (s9.2.1 268 x11.toInt.toNat)] _ _
      replace h := h.2
      exact k_191_29 r7 h
    · replace h := h.2 (fun q => hc ((i_le (x := 0) (y := x11) (show (0 : Int32).toInt = 0 by decide) rfl).mpr q))
      refine g_c [.int 1] (xo_push (.int 1)) rfl rfl ?_
      refine g_go rfl ?_
      exact k_191_29 r7 h
def wl_191_7 (T : Nat → List Value → yS → (Option Value → yS → Prop) → Prop)  (a1 : Int32) (a2 : Int32) (a3 : Int32) (a4 : Int32) (a5 : Int32) (a6 : Int32) (s : yS) (P : Option Value → yS → Prop) : Prop :=
  ∃ (I : Int32 → Int32 → Int32 → Int32 → Int32 → Int32 → yS → Prop) (μ : Int32 → Int32 → Int32 → Int32 → Int32 → Int32 → yS → Nat), I a1 a2 a3 a4 a5 a6 s ∧ ∀ (a1 : Int32) (a2 : Int32) (a3 : Int32) (a4 : Int32) (a5 : Int32) (a6 : Int32) (s : yS), I a1 a2 a3 a4 a5 a6 s → w_191_7 T (fun a1' a2' a3' a4' a5' a6' s' => I a1' a2' a3' a4' a5' a6' s' ∧ μ a1' a2' a3' a4' a5' a6' s' < μ a1 a2 a3 a4 a5 a6 s) a1 a2 a3 a4 a5 a6 s P
theorem kl_191_7 {d : Nat}  {a1 : Int32} {a2 : Int32} {a3 : Int32} {a4 : Int32} {a5 : Int32} {a6 : Int32} {s : yS} {P : Option Value → yS → Prop}  (h : wl_191_7 (Tot d)  a1 a2 a3 a4 a5 a6 s P) : Go d 10 (some .boolean) xE_191 (xE_191.drop 7) [.ref 213, .int a1, .int a2, .int a3, .int a4, .int a5, .int a6, .null, .null, .null, .null, .null, .null, .null] [] s P := by
  obtain ⟨I, μ, h0, h1⟩ := h
  have key : ∀ (n : Nat) (a1 : Int32) (a2 : Int32) (a3 : Int32) (a4 : Int32) (a5 : Int32) (a6 : Int32) (s : yS), μ a1 a2 a3 a4 a5 a6 s = n → I a1 a2 a3 a4 a5 a6 s → Go d 10 (some .boolean) xE_191 (xE_191.drop 7) [.ref 213, .int a1, .int a2, .int a3, .int a4, .int a5, .int a6, .null, .null, .null, .null, .null, .null, .null] [] s P := by
    intro n
    induction n using Nat.strongRecOn with
    | ind n ih =>
      intro a1 a2 a3 a4 a5 a6 s e hI
      exact k_191_7 (fun a1' a2' a3' a4' a5' a6' s' q => ih _ (by rw [← e]; exact q.2) _ _ _ _ _ _ _ rfl q.1) (h1 a1 a2 a3 a4 a5 a6 s hI)
  exact key _ a1 a2 a3 a4 a5 a6 s rfl h0
def w_191_0 (T : Nat → List Value → yS → (Option Value → yS → Prop) → Prop)  (a1 : Int32) (a2 : Int32) (a3 : Int32) (s : yS) (P : Option Value → yS → Prop) : Prop :=
  wl_191_7 T  a1 a2 a3 (s.1 64) 0 a1  s P
set_option maxRecDepth 20000 in
theorem k_191_0 {d : Nat}  {a1 : Int32} {a2 : Int32} {a3 : Int32} {s : yS} {P : Option Value → yS → Prop}  (h : w_191_0 (Tot d)  a1 a2 a3 s P) : Go d 10 (some .boolean) xE_191 (xE_191.drop 0) [.ref 213, .int a1, .int a2, .int a3, .null, .null, .null, .null, .null, .null, .null, .null, .null, .null] [] s P := by
  unfold w_191_0 at h
  refine g_ld rfl rfl rfl ?_
  refine g_get rfl rfl ?_
  change Go _ _ _ _ _ _ [.int (s.1 64)] _ _
  refine g_st [.ref 213, .int a1, .int a2, .int a3, .int (s.1 64), .null, .null, .null, .null, .null, .null, .null, .null, .null] rfl rfl rfl ?_
  refine g_c [.int 0] (xo_push (.int 0)) rfl rfl ?_
  refine g_st [.ref 213, .int a1, .int a2, .int a3, .int (s.1 64), .int 0, .null, .null, .null, .null, .null, .null, .null, .null] rfl rfl rfl ?_
  refine g_ld rfl rfl rfl ?_
  refine g_st [.ref 213, .int a1, .int a2, .int a3, .int (s.1 64), .int 0, .int a1, .null, .null, .null, .null, .null, .null, .null] rfl rfl rfl ?_
  exact kl_191_7  h
theorem t_191 {d : Nat} {a1 : Int32} {a2 : Int32} {a3 : Int32} {s : yS} {P : Option Value → yS → Prop} (h : w_191_0 (Tot d) a1 a2 a3 s P) : Tot (d + 1) 191 [.ref 213, .int a1, .int a2, .int a3] s P := tot_of (E := xE_191) (ml := 10) (ret := some .boolean) rfl rfl rfl (k_191_0 h)
/-! found -/
def w_192_37 (T : Nat → List Value → yS → (Option Value → yS → Prop) → Prop)  (a1 : Int32) (a2 : Int32) (a3 : Int32) (s : yS) (P : Option Value → yS → Prop) : Prop :=
  P (some (.int (-1))) s
set_option maxRecDepth 20000 in
theorem k_192_37 {d : Nat}  {a1 : Int32} {a2 : Int32} {a3 : Int32} {s : yS} {P : Option Value → yS → Prop}  (h : w_192_37 (Tot d)  a1 a2 a3 s P) : Go d 6 (some .int) xE_192 (xE_192.drop 37) [.ref 213, .int a1, .int a2, .int a3, .null, .null, .null, .null, .null] [] s P := by
  unfold w_192_37 at h
  refine g_c [.int (-1)] (xo_push (.int (-1))) rfl rfl ?_
  exact g_retI rfl h
def w_192_35 (T : Nat → List Value → yS → (Option Value → yS → Prop) → Prop) (R2 : Int32 → Int32 → Int32 → yS → Prop) (a1 : Int32) (a2 : Int32) (a3 : Int32) (a4 : Int32) (a5 : Int32) (s : yS) (P : Option Value → yS → Prop) : Prop :=
  (-2147483648 ≤ a3.toInt + 1 ∧ a3.toInt + 1 ≤ 2147483647) ∧ (∀ x1 : Int32, x1.toInt = a3.toInt + 1 → R2 a1 a2 x1  s)
set_option maxRecDepth 20000 in
theorem k_192_35 {d : Nat} {R2 : Int32 → Int32 → Int32 → yS → Prop} {a1 : Int32} {a2 : Int32} {a3 : Int32} {a4 : Int32} {a5 : Int32} {s : yS} {P : Option Value → yS → Prop} (r2 : ∀ a1 a2 a3 s, R2 a1 a2 a3 s → Go d 6 (some .int) xE_192 (xE_192.drop 2) [.ref 213, .int a1, .int a2, .int a3, .null, .null, .null, .null, .null] [] s P) (h : w_192_35 (Tot d) R2 a1 a2 a3 a4 a5 s P) : Go d 6 (some .int) xE_192 (xE_192.drop 35) [.ref 213, .int a1, .int a2, .int a3, .int a4, .int a5, .null, .null, .null] [] s P := by
  unfold w_192_35 at h
  have ex1 := i_add (x := a3) (y := 1) rfl (show (1 : Int32).toInt = 1 by decide) h.1
  have cx1 := ck_inc (x := a3) (n := 1) rfl h.1
  replace h := h.2 _ ex1
  refine g_inc [.ref 213, .int a1, .int a2, .int (a3 + 1), .int a4, .int a5, .null, .null, .null] rfl rfl rfl rfl cx1 ?_
  refine g_go rfl ?_
  refine g_fg 4 ?_
  refine g_fg 5 ?_
  exact r2 a1 a2 (a3 + 1)  s h
def w_192_2 (T : Nat → List Value → yS → (Option Value → yS → Prop) → Prop) (R2 : Int32 → Int32 → Int32 → yS → Prop) (a1 : Int32) (a2 : Int32) (a3 : Int32) (s : yS) (P : Option Value → yS → Prop) : Prop :=
  (2 ≤ a3.toInt → w_192_37 T  a1 a2 a3  s P) ∧ (¬ (2 ≤ a3.toInt) → (a1.toInt < 1000 → w_192_37 T  a1 a2 a3  s P) ∧ (¬ (a1.toInt < 1000) → (-2147483648 ≤ 2 * a2.toInt ∧ 2 * a2.toInt ≤ 2147483647) ∧ (∀ x1 : Int32, x1.toInt = 2 * a2.toInt → (-2147483648 ≤ x1.toInt + a3.toInt ∧ x1.toInt + a3.toInt ≤ 2147483647) ∧ (∀ x2 : Int32, x2.toInt = x1.toInt + a3.toInt → (0 ≤ x2.toInt ∧ x2.toInt < 600) ∧ ((-2147483648 ≤ a1.toInt - (s.2.1 265 x2.toInt.toNat).toInt ∧ a1.toInt - (s.2.1 265 x2.toInt.toNat).toInt ≤ 2147483647) ∧ (∀ x3 : Int32, x3.toInt = a1.toInt - (s.2.1 265 x2.toInt.toNat).toInt → (x3.toInt < 0 → w_192_35 T R2 a1 a2 a3 x2 x3  s P) ∧ (¬ (x3.toInt < 0) → (0 ≤ x2.toInt ∧ x2.toInt < 600) ∧ (((s.2.1 266 x2.toInt.toNat).toInt ≤ x3.toInt → w_192_35 T R2 a1 a2 a3 x2 x3  s P) ∧ (¬ ((s.2.1 266 x2.toInt.toNat).toInt ≤ x3.toInt) → (-2147483648 ≤ 6 * x2.toInt ∧ 6 * x2.toInt ≤ 2147483647) ∧ (∀ x4 : Int32, x4.toInt = 6 * x2.toInt → (-2147483648 ≤ x4.toInt + x3.toInt ∧ x4.toInt + x3.toInt ≤ 2147483647) ∧ (∀ x5 : Int32, x5.toInt = x4.toInt + x3.toInt → P (some (.int x5)) s)))))))))))
set_option maxRecDepth 20000 in
theorem k_192_2 {d : Nat} {R2 : Int32 → Int32 → Int32 → yS → Prop} {a1 : Int32} {a2 : Int32} {a3 : Int32} {s : yS} {P : Option Value → yS → Prop} (r2 : ∀ a1 a2 a3 s, R2 a1 a2 a3 s → Go d 6 (some .int) xE_192 (xE_192.drop 2) [.ref 213, .int a1, .int a2, .int a3, .null, .null, .null, .null, .null] [] s P) (h : w_192_2 (Tot d) R2 a1 a2 a3 s P) : Go d 6 (some .int) xE_192 (xE_192.drop 2) [.ref 213, .int a1, .int a2, .int a3, .null, .null, .null, .null, .null] [] s P := by
  unfold w_192_2 at h
  refine g_ld rfl rfl rfl ?_
  refine g_c [.int 2, .int a3] (xo_push (.int 2)) rfl rfl ?_
  refine g_brP rfl rfl ⟨fun hc => ?_, fun hc => ?_⟩
  · replace h := h.1 ((i_le (x := 2) (y := a3) (show (2 : Int32).toInt = 2 by decide) rfl).mp hc)
    exact k_192_37  h
  · replace h := h.2 (fun q => hc ((i_le (x := 2) (y := a3) (show (2 : Int32).toInt = 2 by decide) rfl).mpr q))
    refine g_ld rfl rfl rfl ?_
    refine g_c [.int 1000, .int a1] (xo_push (.int 1000)) rfl rfl ?_
    refine g_brP rfl rfl ⟨fun hc => ?_, fun hc => ?_⟩
    · replace h := h.1 ((i_lt (x := a1) (y := 1000) rfl (show (1000 : Int32).toInt = 1000 by decide)).mp hc)
      exact k_192_37  h
    · replace h := h.2 (fun q => hc ((i_lt (x := a1) (y := 1000) rfl (show (1000 : Int32).toInt = 1000 by decide)).mpr q))
      refine g_c [.int 2] (xo_push (.int 2)) rfl rfl ?_
      refine g_ld rfl rfl rfl ?_
      have ex1 := i_mul (x := 2) (y := a2) (show (2 : Int32).toInt = 2 by decide) rfl h.1
      have cx1 := ck_mul (x := 2) (y := a2) (show (2 : Int32).toInt = 2 by decide) rfl h.1
      replace h := h.2 _ ex1
      refine g_ca [.int (2 * a2)] xo_imul rfl rfl (fun _ => cx1) ?_
      refine g_ld rfl rfl rfl ?_
      have ex2 := i_add (x := (2 * a2)) (y := a3) rfl rfl h.1
      have cx2 := ck_add (x := (2 * a2)) (y := a3) rfl rfl h.1
      replace h := h.2 _ ex2
      refine g_ca [.int ((2 * a2) + a3)] xo_iadd rfl rfl (fun _ => cx2) ?_
      refine g_st [.ref 213, .int a1, .int a2, .int a3, .int ((2 * a2) + a3), .null, .null, .null, .null] rfl rfl rfl ?_
      refine g_ld rfl rfl rfl ?_
      refine g_ld rfl rfl rfl ?_
      refine g_get rfl rfl ?_
      change Go _ _ _ _ _ _ [.ref 265, .int a1] _ _
      refine g_ld rfl rfl rfl ?_
      refine g_ial rfl rfl (i_in (x := ((2 * a2) + a3)) rfl h.1) ?_
      change Go _ _ _ _ _ _ [.int (s.2.1 265 ((2 * a2) + a3).toInt.toNat), .int a1] _ _
      replace h := h.2
      have ex3 := i_sub (x := a1) (y := s.2.1 265 ((2 * a2) + a3).toInt.toNat) rfl rfl h.1
      have cx3 := ck_sub (x := a1) (y := s.2.1 265 ((2 * a2) + a3).toInt.toNat) rfl rfl h.1
      replace h := h.2 _ ex3
      refine g_ca [.int (a1 - (s.2.1 265 ((2 * a2) + a3).toInt.toNat))] xo_isub rfl rfl (fun _ => cx3) ?_
      refine g_st [.ref 213, .int a1, .int a2, .int a3, .int ((2 * a2) + a3), .int (a1 - (s.2.1 265 ((2 * a2) + a3).toInt.toNat)), .null, .null, .null] rfl rfl rfl ?_
      refine g_ld rfl rfl rfl ?_
      refine g_brP rfl rfl ⟨fun hc => ?_, fun hc => ?_⟩
      · replace h := h.1 ((i_lt (x := (a1 - (s.2.1 265 ((2 * a2) + a3).toInt.toNat))) (y := 0) rfl (show (0 : Int32).toInt = 0 by decide)).mp hc)
        exact k_192_35 r2 h
      · replace h := h.2 (fun q => hc ((i_lt (x := (a1 - (s.2.1 265 ((2 * a2) + a3).toInt.toNat))) (y := 0) rfl (show (0 : Int32).toInt = 0 by decide)).mpr q))
        refine g_ld rfl rfl rfl ?_
        refine g_ld rfl rfl rfl ?_
        refine g_get rfl rfl ?_
        change Go _ _ _ _ _ _ [.ref 266, .int (a1 - (s.2.1 265 ((2 * a2) + a3).toInt.toNat))] _ _
        refine g_ld rfl rfl rfl ?_
        refine g_ial rfl rfl (i_in (x := ((2 * a2) + a3)) rfl h.1) ?_
        change Go _ _ _ _ _ _ [.int (s.2.1 266 ((2 * a2) + a3).toInt.toNat), .int (a1 - (s.2.1 265 ((2 * a2) + a3).toInt.toNat))] _ _
        replace h := h.2
        refine g_brP rfl rfl ⟨fun hc => ?_, fun hc => ?_⟩
        · replace h := h.1 ((i_le (x := s.2.1 266 ((2 * a2) + a3).toInt.toNat) (y := (a1 - (s.2.1 265 ((2 * a2) + a3).toInt.toNat))) rfl rfl).mp hc)
          exact k_192_35 r2 h
        · replace h := h.2 (fun q => hc ((i_le (x := s.2.1 266 ((2 * a2) + a3).toInt.toNat) (y := (a1 - (s.2.1 265 ((2 * a2) + a3).toInt.toNat))) rfl rfl).mpr q))
          refine g_c [.int 6] (xo_push (.int 6)) rfl rfl ?_
          refine g_ld rfl rfl rfl ?_
          have ex4 := i_mul (x := 6) (y := ((2 * a2) + a3)) (show (6 : Int32).toInt = 6 by decide) rfl h.1
          have cx4 := ck_mul (x := 6) (y := ((2 * a2) + a3)) (show (6 : Int32).toInt = 6 by decide) rfl h.1
          replace h := h.2 _ ex4
          refine g_ca [.int (6 * ((2 * a2) + a3))] xo_imul rfl rfl (fun _ => cx4) ?_
          refine g_ld rfl rfl rfl ?_
          have ex5 := i_add (x := (6 * ((2 * a2) + a3))) (y := (a1 - (s.2.1 265 ((2 * a2) + a3).toInt.toNat))) rfl rfl h.1
          have cx5 := ck_add (x := (6 * ((2 * a2) + a3))) (y := (a1 - (s.2.1 265 ((2 * a2) + a3).toInt.toNat))) rfl rfl h.1
          replace h := h.2 _ ex5
          refine g_ca [.int ((6 * ((2 * a2) + a3)) + (a1 - (s.2.1 265 ((2 * a2) + a3).toInt.toNat)))] xo_iadd rfl rfl (fun _ => cx5) ?_
          exact g_retI rfl h
def wl_192_2 (T : Nat → List Value → yS → (Option Value → yS → Prop) → Prop)  (a1 : Int32) (a2 : Int32) (a3 : Int32) (s : yS) (P : Option Value → yS → Prop) : Prop :=
  ∃ (I : Int32 → Int32 → Int32 → yS → Prop) (μ : Int32 → Int32 → Int32 → yS → Nat), I a1 a2 a3 s ∧ ∀ (a1 : Int32) (a2 : Int32) (a3 : Int32) (s : yS), I a1 a2 a3 s → w_192_2 T (fun a1' a2' a3' s' => I a1' a2' a3' s' ∧ μ a1' a2' a3' s' < μ a1 a2 a3 s) a1 a2 a3 s P
theorem kl_192_2 {d : Nat}  {a1 : Int32} {a2 : Int32} {a3 : Int32} {s : yS} {P : Option Value → yS → Prop}  (h : wl_192_2 (Tot d)  a1 a2 a3 s P) : Go d 6 (some .int) xE_192 (xE_192.drop 2) [.ref 213, .int a1, .int a2, .int a3, .null, .null, .null, .null, .null] [] s P := by
  obtain ⟨I, μ, h0, h1⟩ := h
  have key : ∀ (n : Nat) (a1 : Int32) (a2 : Int32) (a3 : Int32) (s : yS), μ a1 a2 a3 s = n → I a1 a2 a3 s → Go d 6 (some .int) xE_192 (xE_192.drop 2) [.ref 213, .int a1, .int a2, .int a3, .null, .null, .null, .null, .null] [] s P := by
    intro n
    induction n using Nat.strongRecOn with
    | ind n ih =>
      intro a1 a2 a3 s e hI
      exact k_192_2 (fun a1' a2' a3' s' q => ih _ (by rw [← e]; exact q.2) _ _ _ _ rfl q.1) (h1 a1 a2 a3 s hI)
  exact key _ a1 a2 a3 s rfl h0
def w_192_0 (T : Nat → List Value → yS → (Option Value → yS → Prop) → Prop)  (a1 : Int32) (a2 : Int32) (s : yS) (P : Option Value → yS → Prop) : Prop :=
  wl_192_2 T  a1 a2 0  s P
set_option maxRecDepth 20000 in
theorem k_192_0 {d : Nat}  {a1 : Int32} {a2 : Int32} {s : yS} {P : Option Value → yS → Prop}  (h : w_192_0 (Tot d)  a1 a2 s P) : Go d 6 (some .int) xE_192 (xE_192.drop 0) [.ref 213, .int a1, .int a2, .null, .null, .null, .null, .null, .null] [] s P := by
  unfold w_192_0 at h
  refine g_c [.int 0] (xo_push (.int 0)) rfl rfl ?_
  refine g_st [.ref 213, .int a1, .int a2, .int 0, .null, .null, .null, .null, .null] rfl rfl rfl ?_
  exact kl_192_2  h
theorem t_192 {d : Nat} {a1 : Int32} {a2 : Int32} {s : yS} {P : Option Value → yS → Prop} (h : w_192_0 (Tot d) a1 a2 s P) : Tot (d + 1) 192 [.ref 213, .int a1, .int a2] s P := tot_of (E := xE_192) (ml := 6) (ret := some .int) rfl rfl rfl (k_192_0 h)
/-! findHead -/
def w_193_120 (T : Nat → List Value → yS → (Option Value → yS → Prop) → Prop)  (a1 : Int32) (a2 : Int32) (a3 : Int32) (a4 : Int32) (t0 : Int32) (s : yS) (P : Option Value → yS → Prop) : Prop :=
  (t0.toInt = 0 ∨ t0.toInt = 1) ∧ P (some (.int t0)) s
set_option maxRecDepth 20000 in
theorem k_193_120 {d : Nat}  {a1 : Int32} {a2 : Int32} {a3 : Int32} {a4 : Int32} {t0 : Int32} {s : yS} {P : Option Value → yS → Prop}  (h : w_193_120 (Tot d)  a1 a2 a3 a4 t0 s P) : Go d 6 (some .boolean) xE_193 (xE_193.drop 120) [.ref 213, .int a1, .int a2, .int a3, .int a4, .null, .null, .null, .null] [.int t0] s P := by
  unfold w_193_120 at h
  exact g_retZ rfl (i_z (x := t0) rfl h.1) h.2
def w_193_114 (T : Nat → List Value → yS → (Option Value → yS → Prop) → Prop)  (a1 : Int32) (a2 : Int32) (a3 : Int32) (a4 : Int32) (s : yS) (P : Option Value → yS → Prop) : Prop :=
  ((s.1 73).toInt < 0 → w_193_120 T  a1 a2 a3 a4 0 s P) ∧ (¬ ((s.1 73).toInt < 0) → w_193_120 T  a1 a2 a3 a4 1 s P)
set_option maxRecDepth 20000 in
theorem k_193_114 {d : Nat}  {a1 : Int32} {a2 : Int32} {a3 : Int32} {a4 : Int32} {s : yS} {P : Option Value → yS → Prop}  (h : w_193_114 (Tot d)  a1 a2 a3 a4 s P) : Go d 6 (some .boolean) xE_193 (xE_193.drop 114) [.ref 213, .int a1, .int a2, .int a3, .int a4, .null, .null, .null, .null] [] s P := by
  unfold w_193_114 at h
  refine g_ld rfl rfl rfl ?_
  refine g_get rfl rfl ?_
  change Go _ _ _ _ _ _ [.int (s.1 73)] _ _
  refine g_brP rfl rfl ⟨fun hc => ?_, fun hc => ?_⟩
  · replace h := h.1 ((i_lt (x := s.1 73) (y := 0) rfl (show (0 : Int32).toInt = 0 by decide)).mp hc)
    refine g_c [.int 0] (xo_push (.int 0)) rfl rfl ?_
    exact k_193_120  h
  · replace h := h.2 (fun q => hc ((i_lt (x := s.1 73) (y := 0) rfl (show (0 : Int32).toInt = 0 by decide)).mpr q))
    refine g_c [.int 1] (xo_push (.int 1)) rfl rfl ?_
    refine g_go rfl ?_
    exact k_193_120  h
def w_193_112 (T : Nat → List Value → yS → (Option Value → yS → Prop) → Prop) (R78 : Int32 → Int32 → Int32 → Int32 → yS → Prop) (a1 : Int32) (a2 : Int32) (a3 : Int32) (a4 : Int32) (s : yS) (P : Option Value → yS → Prop) : Prop :=
  (-2147483648 ≤ a4.toInt + 1 ∧ a4.toInt + 1 ≤ 2147483647) ∧ (∀ x1 : Int32, x1.toInt = a4.toInt + 1 → R78 a1 a2 a3 x1  s)
set_option maxRecDepth 20000 in
theorem k_193_112 {d : Nat} {R78 : Int32 → Int32 → Int32 → Int32 → yS → Prop} {a1 : Int32} {a2 : Int32} {a3 : Int32} {a4 : Int32} {s : yS} {P : Option Value → yS → Prop} (r78 : ∀ a1 a2 a3 a4 s, R78 a1 a2 a3 a4 s → Go d 6 (some .boolean) xE_193 (xE_193.drop 78) [.ref 213, .int a1, .int a2, .int a3, .int a4, .null, .null, .null, .null] [] s P) (h : w_193_112 (Tot d) R78 a1 a2 a3 a4 s P) : Go d 6 (some .boolean) xE_193 (xE_193.drop 112) [.ref 213, .int a1, .int a2, .int a3, .int a4, .null, .null, .null, .null] [] s P := by
  unfold w_193_112 at h
  have ex1 := i_add (x := a4) (y := 1) rfl (show (1 : Int32).toInt = 1 by decide) h.1
  have cx1 := ck_inc (x := a4) (n := 1) rfl h.1
  replace h := h.2 _ ex1
  refine g_inc [.ref 213, .int a1, .int a2, .int a3, .int (a4 + 1), .null, .null, .null, .null] rfl rfl rfl rfl cx1 ?_
  refine g_go rfl ?_
  exact r78 a1 a2 a3 (a4 + 1)  s h
def w_193_78 (T : Nat → List Value → yS → (Option Value → yS → Prop) → Prop) (R78 : Int32 → Int32 → Int32 → Int32 → yS → Prop) (a1 : Int32) (a2 : Int32) (a3 : Int32) (a4 : Int32) (s : yS) (P : Option Value → yS → Prop) : Prop :=
  (0 ≤ a3.toInt ∧ a3.toInt < 48) ∧ ((0 ≤ a3.toInt ∧ a3.toInt < 48) ∧ ((-2147483648 ≤ (s.2.1 242 a3.toInt.toNat).toInt + (s.2.1 243 a3.toInt.toNat).toInt ∧ (s.2.1 242 a3.toInt.toNat).toInt + (s.2.1 243 a3.toInt.toNat).toInt ≤ 2147483647) ∧ (∀ x1 : Int32, x1.toInt = (s.2.1 242 a3.toInt.toNat).toInt + (s.2.1 243 a3.toInt.toNat).toInt → (x1.toInt ≤ a4.toInt → w_193_114 T  a1 a2 a3 a4  s P) ∧ (¬ (x1.toInt ≤ a4.toInt) → (0 ≤ a4.toInt ∧ a4.toInt < 408) ∧ ((0 ≤ (s.2.1 244 a4.toInt.toNat).toInt ∧ (s.2.1 244 a4.toInt.toNat).toInt < 12006) ∧ ((¬ ((s.2.1 217 (s.2.1 244 a4.toInt.toNat).toInt.toNat).toInt = a2.toInt) → w_193_112 T R78 a1 a2 a3 a4  s P) ∧ ((s.2.1 217 (s.2.1 244 a4.toInt.toNat).toInt.toNat).toInt = a2.toInt → ∀ s2, s2 = sf s 73 a4 → (0 ≤ a1.toInt ∧ a1.toInt < 200000) ∧ (T 185 [.int (s2.2.1 264 a1.toInt.toNat)] s2 (fun v4 s3 => ∃ x5, v4 = some (.int x5) ∧ ((-2147483648 ≤ 6 * x5.toInt ∧ 6 * x5.toInt ≤ 2147483647) ∧ (∀ x6 : Int32, x6.toInt = 6 * x5.toInt → (-2147483648 ≤ 1000 + x6.toInt ∧ 1000 + x6.toInt ≤ 2147483647) ∧ (∀ x7 : Int32, x7.toInt = 1000 + x6.toInt → ∀ s8, s8 = sf s3 74 x7 → w_193_112 T R78 a1 a2 a3 a4  s8 P))))))))))))
set_option maxRecDepth 20000 in
theorem k_193_78 {d : Nat} {R78 : Int32 → Int32 → Int32 → Int32 → yS → Prop} {a1 : Int32} {a2 : Int32} {a3 : Int32} {a4 : Int32} {s : yS} {P : Option Value → yS → Prop} (r78 : ∀ a1 a2 a3 a4 s, R78 a1 a2 a3 a4 s → Go d 6 (some .boolean) xE_193 (xE_193.drop 78) [.ref 213, .int a1, .int a2, .int a3, .int a4, .null, .null, .null, .null] [] s P) (h : w_193_78 (Tot d) R78 a1 a2 a3 a4 s P) : Go d 6 (some .boolean) xE_193 (xE_193.drop 78) [.ref 213, .int a1, .int a2, .int a3, .int a4, .null, .null, .null, .null] [] s P := by
  unfold w_193_78 at h
  refine g_ld rfl rfl rfl ?_
  refine g_ld rfl rfl rfl ?_
  refine g_get rfl rfl ?_
  change Go _ _ _ _ _ _ [.ref 242, .int a4] _ _
  refine g_ld rfl rfl rfl ?_
  refine g_ial rfl rfl (i_in (x := a3) rfl h.1) ?_
  change Go _ _ _ _ _ _ [.int (s.2.1 242 a3.toInt.toNat), .int a4] _ _
  replace h := h.2
  refine g_ld rfl rfl rfl ?_
  refine g_get rfl rfl ?_
  change Go _ _ _ _ _ _ [.ref 243, .int (s.2.1 242 a3.toInt.toNat), .int a4] _ _
  refine g_ld rfl rfl rfl ?_
  refine g_ial rfl rfl (i_in (x := a3) rfl h.1) ?_
  change Go _ _ _ _ _ _ [.int (s.2.1 243 a3.toInt.toNat), .int (s.2.1 242 a3.toInt.toNat), .int a4] _ _
  replace h := h.2
  have ex1 := i_add (x := s.2.1 242 a3.toInt.toNat) (y := s.2.1 243 a3.toInt.toNat) rfl rfl h.1
  have cx1 := ck_add (x := s.2.1 242 a3.toInt.toNat) (y := s.2.1 243 a3.toInt.toNat) rfl rfl h.1
  replace h := h.2 _ ex1
  refine g_ca [.int ((s.2.1 242 a3.toInt.toNat) + (s.2.1 243 a3.toInt.toNat)), .int a4] xo_iadd rfl rfl (fun _ => cx1) ?_
  refine g_brP rfl rfl ⟨fun hc => ?_, fun hc => ?_⟩
  · replace h := h.1 ((i_le (x := ((s.2.1 242 a3.toInt.toNat) + (s.2.1 243 a3.toInt.toNat))) (y := a4) rfl rfl).mp hc)
    exact k_193_114  h
  · replace h := h.2 (fun q => hc ((i_le (x := ((s.2.1 242 a3.toInt.toNat) + (s.2.1 243 a3.toInt.toNat))) (y := a4) rfl rfl).mpr q))
    refine g_ld rfl rfl rfl ?_
    refine g_get rfl rfl ?_
    change Go _ _ _ _ _ _ [.ref 217] _ _
    refine g_ld rfl rfl rfl ?_
    refine g_get rfl rfl ?_
    change Go _ _ _ _ _ _ [.ref 244, .ref 217] _ _
    refine g_ld rfl rfl rfl ?_
    refine g_ial rfl rfl (i_in (x := a4) rfl h.1) ?_
    change Go _ _ _ _ _ _ [.int (s.2.1 244 a4.toInt.toNat), .ref 217] _ _
    replace h := h.2
    refine g_ial rfl rfl (i_in (x := s.2.1 244 a4.toInt.toNat) rfl h.1) ?_
    change Go _ _ _ _ _ _ [.int (s.2.1 217 (s.2.1 244 a4.toInt.toNat).toInt.toNat)] _ _
    replace h := h.2
    refine g_ld rfl rfl rfl ?_
    refine g_brN rfl rfl ⟨fun hc => ?_, fun hc => ?_⟩
    · replace h := h.1 (fun q => hc ((i_eq (x := s.2.1 217 (s.2.1 244 a4.toInt.toNat).toInt.toNat) (y := a2) rfl rfl).mpr q))
      exact k_193_112 r78 h
    · replace h := h.2 ((i_eq (x := s.2.1 217 (s.2.1 244 a4.toInt.toNat).toInt.toNat) (y := a2) rfl rfl).mp hc)
      refine g_ld rfl rfl rfl ?_
      refine g_ld rfl rfl rfl ?_
      refine g_put rfl rfl rfl ?_
      replace h := h _ rfl
      refine g_ld rfl rfl rfl ?_
      refine g_c [.int 1000, .ref 213] (xo_push (.int 1000)) rfl rfl ?_
      refine g_c [.int 6, .int 1000, .ref 213] (xo_push (.int 6)) rfl rfl ?_
      refine g_ld rfl rfl rfl ?_
      refine g_get rfl rfl ?_
      change Go _ _ _ _ _ _ [.ref 264, .int 6, .int 1000, .ref 213] _ _
      refine g_ld rfl rfl rfl ?_
      refine g_ial rfl rfl (i_in (x := a1) rfl h.1) ?_
      change Go _ _ _ _ _ _ [.int ((sf s 73 a4).2.1 264 a1.toInt.toNat), .int 6, .int 1000, .ref 213] _ _
      replace h := h.2
      refine g_call [.int ((sf s 73 a4).2.1 264 a1.toInt.toNat)] [.int 6, .int 1000, .ref 213] rfl rfl rfl (Tot.imp h (fun v4 s3 h => ?_))
      obtain ⟨x5, rfl, h⟩ := h
      change Go _ _ _ _ _ _ [.int x5, .int 6, .int 1000, .ref 213] _ _
      have ex6 := i_mul (x := 6) (y := x5) (show (6 : Int32).toInt = 6 by decide) rfl h.1
      have cx6 := ck_mul (x := 6) (y := x5) (show (6 : Int32).toInt = 6 by decide) rfl h.1
      replace h := h.2 _ ex6
      refine g_ca [.int (6 * x5), .int 1000, .ref 213] xo_imul rfl rfl (fun _ => cx6) ?_
      have ex7 := i_add (x := 1000) (y := (6 * x5)) (show (1000 : Int32).toInt = 1000 by decide) rfl h.1
      have cx7 := ck_add (x := 1000) (y := (6 * x5)) (show (1000 : Int32).toInt = 1000 by decide) rfl h.1
      replace h := h.2 _ ex7
      refine g_ca [.int (1000 + (6 * x5)), .ref 213] xo_iadd rfl rfl (fun _ => cx7) ?_
      refine g_put rfl rfl rfl ?_
      replace h := h _ rfl
      exact k_193_112 r78 h
def wl_193_78 (T : Nat → List Value → yS → (Option Value → yS → Prop) → Prop)  (a1 : Int32) (a2 : Int32) (a3 : Int32) (a4 : Int32) (s : yS) (P : Option Value → yS → Prop) : Prop :=
  ∃ (I : Int32 → Int32 → Int32 → Int32 → yS → Prop) (μ : Int32 → Int32 → Int32 → Int32 → yS → Nat), I a1 a2 a3 a4 s ∧ ∀ (a1 : Int32) (a2 : Int32) (a3 : Int32) (a4 : Int32) (s : yS), I a1 a2 a3 a4 s → w_193_78 T (fun a1' a2' a3' a4' s' => I a1' a2' a3' a4' s' ∧ μ a1' a2' a3' a4' s' < μ a1 a2 a3 a4 s) a1 a2 a3 a4 s P
theorem kl_193_78 {d : Nat}  {a1 : Int32} {a2 : Int32} {a3 : Int32} {a4 : Int32} {s : yS} {P : Option Value → yS → Prop}  (h : wl_193_78 (Tot d)  a1 a2 a3 a4 s P) : Go d 6 (some .boolean) xE_193 (xE_193.drop 78) [.ref 213, .int a1, .int a2, .int a3, .int a4, .null, .null, .null, .null] [] s P := by
  obtain ⟨I, μ, h0, h1⟩ := h
  have key : ∀ (n : Nat) (a1 : Int32) (a2 : Int32) (a3 : Int32) (a4 : Int32) (s : yS), μ a1 a2 a3 a4 s = n → I a1 a2 a3 a4 s → Go d 6 (some .boolean) xE_193 (xE_193.drop 78) [.ref 213, .int a1, .int a2, .int a3, .int a4, .null, .null, .null, .null] [] s P := by
    intro n
    induction n using Nat.strongRecOn with
    | ind n ih =>
      intro a1 a2 a3 a4 s e hI
      exact k_193_78 (fun a1' a2' a3' a4' s' q => ih _ (by rw [← e]; exact q.2) _ _ _ _ _ rfl q.1) (h1 a1 a2 a3 a4 s hI)
  exact key _ a1 a2 a3 a4 s rfl h0
def w_193_70 (T : Nat → List Value → yS → (Option Value → yS → Prop) → Prop) (R21 : Int32 → Int32 → Int32 → Int32 → yS → Prop) (a1 : Int32) (a2 : Int32) (a3 : Int32) (a4 : Int32) (a5 : Int32) (s : yS) (P : Option Value → yS → Prop) : Prop :=
  (-2147483648 ≤ a4.toInt + 1 ∧ a4.toInt + 1 ≤ 2147483647) ∧ (∀ x1 : Int32, x1.toInt = a4.toInt + 1 → R21 a1 a2 a3 x1  s)
set_option maxRecDepth 20000 in
theorem k_193_70 {d : Nat} {R21 : Int32 → Int32 → Int32 → Int32 → yS → Prop} {a1 : Int32} {a2 : Int32} {a3 : Int32} {a4 : Int32} {a5 : Int32} {s : yS} {P : Option Value → yS → Prop} (r21 : ∀ a1 a2 a3 a4 s, R21 a1 a2 a3 a4 s → Go d 6 (some .boolean) xE_193 (xE_193.drop 21) [.ref 213, .int a1, .int a2, .int a3, .int a4, .null, .null, .null, .null] [] s P) (h : w_193_70 (Tot d) R21 a1 a2 a3 a4 a5 s P) : Go d 6 (some .boolean) xE_193 (xE_193.drop 70) [.ref 213, .int a1, .int a2, .int a3, .int a4, .int a5, .null, .null, .null] [] s P := by
  unfold w_193_70 at h
  have ex1 := i_add (x := a4) (y := 1) rfl (show (1 : Int32).toInt = 1 by decide) h.1
  have cx1 := ck_inc (x := a4) (n := 1) rfl h.1
  replace h := h.2 _ ex1
  refine g_inc [.ref 213, .int a1, .int a2, .int a3, .int (a4 + 1), .int a5, .null, .null, .null] rfl rfl rfl rfl cx1 ?_
  refine g_go rfl ?_
  refine g_fg 5 ?_
  exact r21 a1 a2 a3 (a4 + 1)  s h
def w_193_21 (T : Nat → List Value → yS → (Option Value → yS → Prop) → Prop) (R21 : Int32 → Int32 → Int32 → Int32 → yS → Prop) (a1 : Int32) (a2 : Int32) (a3 : Int32) (a4 : Int32) (s : yS) (P : Option Value → yS → Prop) : Prop :=
  (0 ≤ (s.1 75).toInt ∧ (s.1 75).toInt < 2) ∧ (((s.2.1 252 (s.1 75).toInt.toNat).toInt ≤ a4.toInt → w_193_114 T  a1 a2 a3 a4  s P) ∧ (¬ ((s.2.1 252 (s.1 75).toInt.toNat).toInt ≤ a4.toInt) → (-2147483648 ≤ 60 * (s.1 75).toInt ∧ 60 * (s.1 75).toInt ≤ 2147483647) ∧ (∀ x1 : Int32, x1.toInt = 60 * (s.1 75).toInt → (-2147483648 ≤ x1.toInt + a4.toInt ∧ x1.toInt + a4.toInt ≤ 2147483647) ∧ (∀ x2 : Int32, x2.toInt = x1.toInt + a4.toInt → (0 ≤ x2.toInt ∧ x2.toInt < 120) ∧ ((0 ≤ a1.toInt ∧ a1.toInt < 200000) ∧ (T 185 [.int (s.2.1 264 a1.toInt.toNat)] s (fun v4 s3 => ∃ x5, v4 = some (.int x5) ∧ ((¬ ((s.2.1 261 x2.toInt.toNat).toInt = x5.toInt) → w_193_70 T R21 a1 a2 a3 a4 x2  s3 P) ∧ ((s.2.1 261 x2.toInt.toNat).toInt = x5.toInt → (0 ≤ x2.toInt ∧ x2.toInt < 120) ∧ ((0 ≤ (s3.2.1 257 x2.toInt.toNat).toInt ∧ (s3.2.1 257 x2.toInt.toNat).toInt < 408) ∧ ((0 ≤ (s3.2.1 244 (s3.2.1 257 x2.toInt.toNat).toInt.toNat).toInt ∧ (s3.2.1 244 (s3.2.1 257 x2.toInt.toNat).toInt.toNat).toInt < 12006) ∧ ((¬ ((s3.2.1 217 (s3.2.1 244 (s3.2.1 257 x2.toInt.toNat).toInt.toNat).toInt.toNat).toInt = a2.toInt) → w_193_70 T R21 a1 a2 a3 a4 x2  s3 P) ∧ ((s3.2.1 217 (s3.2.1 244 (s3.2.1 257 x2.toInt.toNat).toInt.toNat).toInt.toNat).toInt = a2.toInt → (0 ≤ x2.toInt ∧ x2.toInt < 120) ∧ (∀ s6, s6 = sf s3 73 (s3.2.1 257 x2.toInt.toNat) → (-2147483648 ≤ 6 * a4.toInt ∧ 6 * a4.toInt ≤ 2147483647) ∧ (∀ x7 : Int32, x7.toInt = 6 * a4.toInt → (-2147483648 ≤ 4000 + x7.toInt ∧ 4000 + x7.toInt ≤ 2147483647) ∧ (∀ x8 : Int32, x8.toInt = 4000 + x7.toInt → ∀ s9, s9 = sf s6 74 x8 → w_193_70 T R21 a1 a2 a3 a4 x2  s9 P))))))))))))))))
set_option maxRecDepth 20000 in
theorem k_193_21 {d : Nat} {R21 : Int32 → Int32 → Int32 → Int32 → yS → Prop} {a1 : Int32} {a2 : Int32} {a3 : Int32} {a4 : Int32} {s : yS} {P : Option Value → yS → Prop} (r21 : ∀ a1 a2 a3 a4 s, R21 a1 a2 a3 a4 s → Go d 6 (some .boolean) xE_193 (xE_193.drop 21) [.ref 213, .int a1, .int a2, .int a3, .int a4, .null, .null, .null, .null] [] s P) (h : w_193_21 (Tot d) R21 a1 a2 a3 a4 s P) : Go d 6 (some .boolean) xE_193 (xE_193.drop 21) [.ref 213, .int a1, .int a2, .int a3, .int a4, .null, .null, .null, .null] [] s P := by
  unfold w_193_21 at h
  refine g_ld rfl rfl rfl ?_
  refine g_ld rfl rfl rfl ?_
  refine g_get rfl rfl ?_
  change Go _ _ _ _ _ _ [.ref 252, .int a4] _ _
  refine g_ld rfl rfl rfl ?_
  refine g_get rfl rfl ?_
  change Go _ _ _ _ _ _ [.int (s.1 75), .ref 252, .int a4] _ _
  refine g_ial rfl rfl (i_in (x := s.1 75) rfl h.1) ?_
  change Go _ _ _ _ _ _ [.int (s.2.1 252 (s.1 75).toInt.toNat), .int a4] _ _
  replace h := h.2
  refine g_brP rfl rfl ⟨fun hc => ?_, fun hc => ?_⟩
  · replace h := h.1 ((i_le (x := s.2.1 252 (s.1 75).toInt.toNat) (y := a4) rfl rfl).mp hc)
    refine g_go rfl ?_
    exact k_193_114  h
  · replace h := h.2 (fun q => hc ((i_le (x := s.2.1 252 (s.1 75).toInt.toNat) (y := a4) rfl rfl).mpr q))
    refine g_c [.int 60] (xo_push (.int 60)) rfl rfl ?_
    refine g_ld rfl rfl rfl ?_
    refine g_get rfl rfl ?_
    change Go _ _ _ _ _ _ [.int (s.1 75), .int 60] _ _
    have ex1 := i_mul (x := 60) (y := s.1 75) (show (60 : Int32).toInt = 60 by decide) rfl h.1
    have cx1 := ck_mul (x := 60) (y := s.1 75) (show (60 : Int32).toInt = 60 by decide) rfl h.1
    replace h := h.2 _ ex1
    refine g_ca [.int (60 * (s.1 75))] xo_imul rfl rfl (fun _ => cx1) ?_
    refine g_ld rfl rfl rfl ?_
    have ex2 := i_add (x := (60 * (s.1 75))) (y := a4) rfl rfl h.1
    have cx2 := ck_add (x := (60 * (s.1 75))) (y := a4) rfl rfl h.1
    replace h := h.2 _ ex2
    refine g_ca [.int ((60 * (s.1 75)) + a4)] xo_iadd rfl rfl (fun _ => cx2) ?_
    refine g_st [.ref 213, .int a1, .int a2, .int a3, .int a4, .int ((60 * (s.1 75)) + a4), .null, .null, .null] rfl rfl rfl ?_
    refine g_ld rfl rfl rfl ?_
    refine g_get rfl rfl ?_
    change Go _ _ _ _ _ _ [.ref 261] _ _
    refine g_ld rfl rfl rfl ?_
    refine g_ial rfl rfl (i_in (x := ((60 * (s.1 75)) + a4)) rfl h.1) ?_
    change Go _ _ _ _ _ _ [.int (s.2.1 261 ((60 * (s.1 75)) + a4).toInt.toNat)] _ _
    replace h := h.2
    refine g_ld rfl rfl rfl ?_
    refine g_get rfl rfl ?_
    change Go _ _ _ _ _ _ [.ref 264, .int (s.2.1 261 ((60 * (s.1 75)) + a4).toInt.toNat)] _ _
    refine g_ld rfl rfl rfl ?_
    refine g_ial rfl rfl (i_in (x := a1) rfl h.1) ?_
    change Go _ _ _ _ _ _ [.int (s.2.1 264 a1.toInt.toNat), .int (s.2.1 261 ((60 * (s.1 75)) + a4).toInt.toNat)] _ _
    replace h := h.2
    refine g_call [.int (s.2.1 264 a1.toInt.toNat)] [.int (s.2.1 261 ((60 * (s.1 75)) + a4).toInt.toNat)] rfl rfl rfl (Tot.imp h (fun v4 s3 h => ?_))
    obtain ⟨x5, rfl, h⟩ := h
    change Go _ _ _ _ _ _ [.int x5, .int (s.2.1 261 ((60 * (s.1 75)) + a4).toInt.toNat)] _ _
    refine g_brN rfl rfl ⟨fun hc => ?_, fun hc => ?_⟩
    · replace h := h.1 (fun q => hc ((i_eq (x := s.2.1 261 ((60 * (s.1 75)) + a4).toInt.toNat) (y := x5) rfl rfl).mpr q))
      exact k_193_70 r21 h
    · replace h := h.2 ((i_eq (x := s.2.1 261 ((60 * (s.1 75)) + a4).toInt.toNat) (y := x5) rfl rfl).mp hc)
      refine g_ld rfl rfl rfl ?_
      refine g_get rfl rfl ?_
      change Go _ _ _ _ _ _ [.ref 217] _ _
      refine g_ld rfl rfl rfl ?_
      refine g_get rfl rfl ?_
      change Go _ _ _ _ _ _ [.ref 244, .ref 217] _ _
      refine g_ld rfl rfl rfl ?_
      refine g_get rfl rfl ?_
      change Go _ _ _ _ _ _ [.ref 257, .ref 244, .ref 217] _ _
      refine g_ld rfl rfl rfl ?_
      refine g_ial rfl rfl (i_in (x := ((60 * (s.1 75)) + a4)) rfl h.1) ?_
      change Go _ _ _ _ _ _ [.int (s3.2.1 257 ((60 * (s.1 75)) + a4).toInt.toNat), .ref 244, .ref 217] _ _
      replace h := h.2
      refine g_ial rfl rfl (i_in (x := s3.2.1 257 ((60 * (s.1 75)) + a4).toInt.toNat) rfl h.1) ?_
      change Go _ _ _ _ _ _ [.int (s3.2.1 244 (s3.2.1 257 ((60 * (s.1 75)) + a4).toInt.toNat).toInt.toNat), .ref 217] _ _
      replace h := h.2
      refine g_ial rfl rfl (i_in (x := s3.2.1 244 (s3.2.1 257 ((60 * (s.1 75)) + a4).toInt.toNat).toInt.toNat) rfl h.1) ?_
      change Go _ _ _ _ _ _ [.int (s3.2.1 217 (s3.2.1 244 (s3.2.1 257 ((60 * (s.1 75)) + a4).toInt.toNat).toInt.toNat).toInt.toNat)] _ _
      replace h := h.2
      refine g_ld rfl rfl rfl ?_
      refine g_brN rfl rfl ⟨fun hc => ?_, fun hc => ?_⟩
      · replace h := h.1 (fun q => hc ((i_eq (x := s3.2.1 217 (s3.2.1 244 (s3.2.1 257 ((60 * (s.1 75)) + a4).toInt.toNat).toInt.toNat).toInt.toNat) (y := a2) rfl rfl).mpr q))
        exact k_193_70 r21 h
      · replace h := h.2 ((i_eq (x := s3.2.1 217 (s3.2.1 244 (s3.2.1 257 ((60 * (s.1 75)) + a4).toInt.toNat).toInt.toNat).toInt.toNat) (y := a2) rfl rfl).mp hc)
        refine g_ld rfl rfl rfl ?_
        refine g_ld rfl rfl rfl ?_
        refine g_get rfl rfl ?_
        change Go _ _ _ _ _ _ [.ref 257, .ref 213] _ _
        refine g_ld rfl rfl rfl ?_
        refine g_ial rfl rfl (i_in (x := ((60 * (s.1 75)) + a4)) rfl h.1) ?_
        change Go _ _ _ _ _ _ [.int (s3.2.1 257 ((60 * (s.1 75)) + a4).toInt.toNat), .ref 213] _ _
        replace h := h.2
        refine g_put rfl rfl rfl ?_
        replace h := h _ rfl
        refine g_ld rfl rfl rfl ?_
        refine g_c [.int 4000, .ref 213] (xo_push (.int 4000)) rfl rfl ?_
        refine g_c [.int 6, .int 4000, .ref 213] (xo_push (.int 6)) rfl rfl ?_
        refine g_ld rfl rfl rfl ?_
        have ex7 := i_mul (x := 6) (y := a4) (show (6 : Int32).toInt = 6 by decide) rfl h.1
        have cx7 := ck_mul (x := 6) (y := a4) (show (6 : Int32).toInt = 6 by decide) rfl h.1
        replace h := h.2 _ ex7
        refine g_ca [.int (6 * a4), .int 4000, .ref 213] xo_imul rfl rfl (fun _ => cx7) ?_
        have ex8 := i_add (x := 4000) (y := (6 * a4)) (show (4000 : Int32).toInt = 4000 by decide) rfl h.1
        have cx8 := ck_add (x := 4000) (y := (6 * a4)) (show (4000 : Int32).toInt = 4000 by decide) rfl h.1
        replace h := h.2 _ ex8
        refine g_ca [.int (4000 + (6 * a4)), .ref 213] xo_iadd rfl rfl (fun _ => cx8) ?_
        refine g_put rfl rfl rfl ?_
        replace h := h _ rfl
        exact k_193_70 r21 h
def wl_193_21 (T : Nat → List Value → yS → (Option Value → yS → Prop) → Prop)  (a1 : Int32) (a2 : Int32) (a3 : Int32) (a4 : Int32) (s : yS) (P : Option Value → yS → Prop) : Prop :=
  ∃ (I : Int32 → Int32 → Int32 → Int32 → yS → Prop) (μ : Int32 → Int32 → Int32 → Int32 → yS → Nat), I a1 a2 a3 a4 s ∧ ∀ (a1 : Int32) (a2 : Int32) (a3 : Int32) (a4 : Int32) (s : yS), I a1 a2 a3 a4 s → w_193_21 T (fun a1' a2' a3' a4' s' => I a1' a2' a3' a4' s' ∧ μ a1' a2' a3' a4' s' < μ a1 a2 a3 a4 s) a1 a2 a3 a4 s P
theorem kl_193_21 {d : Nat}  {a1 : Int32} {a2 : Int32} {a3 : Int32} {a4 : Int32} {s : yS} {P : Option Value → yS → Prop}  (h : wl_193_21 (Tot d)  a1 a2 a3 a4 s P) : Go d 6 (some .boolean) xE_193 (xE_193.drop 21) [.ref 213, .int a1, .int a2, .int a3, .int a4, .null, .null, .null, .null] [] s P := by
  obtain ⟨I, μ, h0, h1⟩ := h
  have key : ∀ (n : Nat) (a1 : Int32) (a2 : Int32) (a3 : Int32) (a4 : Int32) (s : yS), μ a1 a2 a3 a4 s = n → I a1 a2 a3 a4 s → Go d 6 (some .boolean) xE_193 (xE_193.drop 21) [.ref 213, .int a1, .int a2, .int a3, .int a4, .null, .null, .null, .null] [] s P := by
    intro n
    induction n using Nat.strongRecOn with
    | ind n ih =>
      intro a1 a2 a3 a4 s e hI
      exact k_193_21 (fun a1' a2' a3' a4' s' q => ih _ (by rw [← e]; exact q.2) _ _ _ _ _ rfl q.1) (h1 a1 a2 a3 a4 s hI)
  exact key _ a1 a2 a3 a4 s rfl h0
def w_193_0 (T : Nat → List Value → yS → (Option Value → yS → Prop) → Prop)  (a1 : Int32) (a2 : Int32) (s : yS) (P : Option Value → yS → Prop) : Prop :=
  (-2147483648 ≤ 24 * (s.1 75).toInt ∧ 24 * (s.1 75).toInt ≤ 2147483647) ∧ (∀ x1 : Int32, x1.toInt = 24 * (s.1 75).toInt → (0 ≤ a1.toInt ∧ a1.toInt < 200000) ∧ (T 185 [.int (s.2.1 264 a1.toInt.toNat)] s (fun v3 s2 => ∃ x4, v3 = some (.int x4) ∧ ((-2147483648 ≤ x1.toInt + x4.toInt ∧ x1.toInt + x4.toInt ≤ 2147483647) ∧ (∀ x5 : Int32, x5.toInt = x1.toInt + x4.toInt → ∀ s6, s6 = sf s2 73 (-1) → (0 ≤ x5.toInt ∧ x5.toInt < 48) ∧ (((s6.2.1 235 x5.toInt.toNat).toInt = 0 → (0 ≤ x5.toInt ∧ x5.toInt < 48) ∧ (wl_193_78 T  a1 a2 x5 (s6.2.1 242 x5.toInt.toNat)  s6 P)) ∧ (¬ ((s6.2.1 235 x5.toInt.toNat).toInt = 0) → wl_193_21 T  a1 a2 x5 0  s6 P)))))))
set_option maxRecDepth 20000 in
theorem k_193_0 {d : Nat}  {a1 : Int32} {a2 : Int32} {s : yS} {P : Option Value → yS → Prop}  (h : w_193_0 (Tot d)  a1 a2 s P) : Go d 6 (some .boolean) xE_193 (xE_193.drop 0) [.ref 213, .int a1, .int a2, .null, .null, .null, .null, .null, .null] [] s P := by
  unfold w_193_0 at h
  refine g_c [.int 24] (xo_push (.int 24)) rfl rfl ?_
  refine g_ld rfl rfl rfl ?_
  refine g_get rfl rfl ?_
  change Go _ _ _ _ _ _ [.int (s.1 75), .int 24] _ _
  have ex1 := i_mul (x := 24) (y := s.1 75) (show (24 : Int32).toInt = 24 by decide) rfl h.1
  have cx1 := ck_mul (x := 24) (y := s.1 75) (show (24 : Int32).toInt = 24 by decide) rfl h.1
  replace h := h.2 _ ex1
  refine g_ca [.int (24 * (s.1 75))] xo_imul rfl rfl (fun _ => cx1) ?_
  refine g_ld rfl rfl rfl ?_
  refine g_get rfl rfl ?_
  change Go _ _ _ _ _ _ [.ref 264, .int (24 * (s.1 75))] _ _
  refine g_ld rfl rfl rfl ?_
  refine g_ial rfl rfl (i_in (x := a1) rfl h.1) ?_
  change Go _ _ _ _ _ _ [.int (s.2.1 264 a1.toInt.toNat), .int (24 * (s.1 75))] _ _
  replace h := h.2
  refine g_call [.int (s.2.1 264 a1.toInt.toNat)] [.int (24 * (s.1 75))] rfl rfl rfl (Tot.imp h (fun v3 s2 h => ?_))
  obtain ⟨x4, rfl, h⟩ := h
  change Go _ _ _ _ _ _ [.int x4, .int (24 * (s.1 75))] _ _
  have ex5 := i_add (x := (24 * (s.1 75))) (y := x4) rfl rfl h.1
  have cx5 := ck_add (x := (24 * (s.1 75))) (y := x4) rfl rfl h.1
  replace h := h.2 _ ex5
  refine g_ca [.int ((24 * (s.1 75)) + x4)] xo_iadd rfl rfl (fun _ => cx5) ?_
  refine g_st [.ref 213, .int a1, .int a2, .int ((24 * (s.1 75)) + x4), .null, .null, .null, .null, .null] rfl rfl rfl ?_
  refine g_ld rfl rfl rfl ?_
  refine g_c [.int (-1), .ref 213] (xo_push (.int (-1))) rfl rfl ?_
  refine g_put rfl rfl rfl ?_
  replace h := h _ rfl
  refine g_ld rfl rfl rfl ?_
  refine g_get rfl rfl ?_
  change Go _ _ _ _ _ _ [.ref 235] _ _
  refine g_ld rfl rfl rfl ?_
  refine g_zal rfl rfl (i_in (x := ((24 * (s.1 75)) + x4)) rfl h.1) ?_
  change Go _ _ _ _ _ _ [.int ((sf s2 73 (-1)).2.1 235 ((24 * (s.1 75)) + x4).toInt.toNat)] _ _
  replace h := h.2
  refine g_brP rfl rfl ⟨fun hc => ?_, fun hc => ?_⟩
  · replace h := h.1 ((i_eq (x := (sf s2 73 (-1)).2.1 235 ((24 * (s.1 75)) + x4).toInt.toNat) (y := 0) rfl (show (0 : Int32).toInt = 0 by decide)).mp hc)
    refine g_ld rfl rfl rfl ?_
    refine g_get rfl rfl ?_
    change Go _ _ _ _ _ _ [.ref 242] _ _
    refine g_ld rfl rfl rfl ?_
    refine g_ial rfl rfl (i_in (x := ((24 * (s.1 75)) + x4)) rfl h.1) ?_
    change Go _ _ _ _ _ _ [.int ((sf s2 73 (-1)).2.1 242 ((24 * (s.1 75)) + x4).toInt.toNat)] _ _
    replace h := h.2
    refine g_st [.ref 213, .int a1, .int a2, .int ((24 * (s.1 75)) + x4), .int ((sf s2 73 (-1)).2.1 242 ((24 * (s.1 75)) + x4).toInt.toNat), .null, .null, .null, .null] rfl rfl rfl ?_
    exact kl_193_78  h
  · replace h := h.2 (fun q => hc ((i_eq (x := (sf s2 73 (-1)).2.1 235 ((24 * (s.1 75)) + x4).toInt.toNat) (y := 0) rfl (show (0 : Int32).toInt = 0 by decide)).mpr q))
    refine g_c [.int 0] (xo_push (.int 0)) rfl rfl ?_
    refine g_st [.ref 213, .int a1, .int a2, .int ((24 * (s.1 75)) + x4), .int 0, .null, .null, .null, .null] rfl rfl rfl ?_
    exact kl_193_21  h
theorem t_193 {d : Nat} {a1 : Int32} {a2 : Int32} {s : yS} {P : Option Value → yS → Prop} (h : w_193_0 (Tot d) a1 a2 s P) : Tot (d + 1) 193 [.ref 213, .int a1, .int a2] s P := tot_of (E := xE_193) (ml := 6) (ret := some .boolean) rfl rfl rfl (k_193_0 h)
/-! bound -/
def w_194_147 (T : Nat → List Value → yS → (Option Value → yS → Prop) → Prop)  (a1 : Int32) (a2 : Int32) (a3 : Int32) (s : yS) (P : Option Value → yS → Prop) : Prop :=
  (0 ≤ a3.toInt ∧ a3.toInt < 12006) ∧ ((0 ≤ a3.toInt ∧ a3.toInt < 12006) ∧ (T 191 [.ref 213, .int (s.2.1 231 a3.toInt.toNat), .int (s.2.1 232 a3.toInt.toNat), .int a2] s (fun v2 s1 => ∃ x3, v2 = some (.int x3) ∧ ((-2147483648 ≤ (s1.1 70).toInt - 1 ∧ (s1.1 70).toInt - 1 ≤ 2147483647) ∧ (∀ x4 : Int32, x4.toInt = (s1.1 70).toInt - 1 → ∀ s5, s5 = sf s1 70 x4 → P none s5)))))
set_option maxRecDepth 20000 in
theorem k_194_147 {d : Nat}  {a1 : Int32} {a2 : Int32} {a3 : Int32} {s : yS} {P : Option Value → yS → Prop}  (h : w_194_147 (Tot d)  a1 a2 a3 s P) : Go d 8 (none) xE_194 (xE_194.drop 147) [.ref 213, .int a1, .int a2, .int a3, .null, .null, .null, .null, .null, .null] [] s P := by
  unfold w_194_147 at h
  refine g_ld rfl rfl rfl ?_
  refine g_ld rfl rfl rfl ?_
  refine g_get rfl rfl ?_
  change Go _ _ _ _ _ _ [.ref 231, .ref 213] _ _
  refine g_ld rfl rfl rfl ?_
  refine g_ial rfl rfl (i_in (x := a3) rfl h.1) ?_
  change Go _ _ _ _ _ _ [.int (s.2.1 231 a3.toInt.toNat), .ref 213] _ _
  replace h := h.2
  refine g_ld rfl rfl rfl ?_
  refine g_get rfl rfl ?_
  change Go _ _ _ _ _ _ [.ref 232, .int (s.2.1 231 a3.toInt.toNat), .ref 213] _ _
  refine g_ld rfl rfl rfl ?_
  refine g_ial rfl rfl (i_in (x := a3) rfl h.1) ?_
  change Go _ _ _ _ _ _ [.int (s.2.1 232 a3.toInt.toNat), .int (s.2.1 231 a3.toInt.toNat), .ref 213] _ _
  replace h := h.2
  refine g_ld rfl rfl rfl ?_
  refine g_call [.ref 213, .int (s.2.1 231 a3.toInt.toNat), .int (s.2.1 232 a3.toInt.toNat), .int a2] [] rfl rfl rfl (Tot.imp h (fun v2 s1 h => ?_))
  obtain ⟨x3, rfl, h⟩ := h
  change Go _ _ _ _ _ _ [.int x3] _ _
  refine g_st [.ref 213, .int a1, .int a2, .int a3, .int x3, .null, .null, .null, .null, .null] rfl rfl rfl ?_
  refine g_ld rfl rfl rfl ?_
  refine g_c [.ref 213, .ref 213] xo_dup rfl rfl ?_
  refine g_get rfl rfl ?_
  change Go _ _ _ _ _ _ [.int (s1.1 70), .ref 213] _ _
  refine g_c [.int 1, .int (s1.1 70), .ref 213] (xo_push (.int 1)) rfl rfl ?_
  have ex4 := i_sub (x := s1.1 70) (y := 1) rfl (show (1 : Int32).toInt = 1 by decide) h.1
  have cx4 := ck_sub (x := s1.1 70) (y := 1) rfl (show (1 : Int32).toInt = 1 by decide) h.1
  replace h := h.2 _ ex4
  refine g_ca [.int ((s1.1 70) - 1), .ref 213] xo_isub rfl rfl (fun _ => cx4) ?_
  refine g_put rfl rfl rfl ?_
  replace h := h _ rfl
  exact g_ret0 rfl h
def w_194_58 (T : Nat → List Value → yS → (Option Value → yS → Prop) → Prop) (R58 : Int32 → Int32 → Int32 → Int32 → Int32 → Int32 → yS → Prop) (a1 : Int32) (a2 : Int32) (a4 : Int32) (a5 : Int32) (a6 : Int32) (a7 : Int32) (s : yS) (P : Option Value → yS → Prop) : Prop :=
  (0 ≤ a5.toInt ∧ a5.toInt < 48) ∧ (((s.2.1 236 a5.toInt.toNat).toInt ≤ a7.toInt → (-2147483648 ≤ 6 * a5.toInt ∧ 6 * a5.toInt ≤ 2147483647) ∧ (∀ x1 : Int32, x1.toInt = 6 * a5.toInt → (-2147483648 ≤ a1.toInt - 4000 ∧ a1.toInt - 4000 ≤ 2147483647) ∧ (∀ x2 : Int32, x2.toInt = a1.toInt - 4000 → 0 ≤ x2.toInt ∧ (∀ x3 : Int32, x3.toInt = x2.toInt % 6 → (-2147483648 ≤ x1.toInt + x3.toInt ∧ x1.toInt + x3.toInt ≤ 2147483647) ∧ (∀ x4 : Int32, x4.toInt = x1.toInt + x3.toInt → (0 ≤ x4.toInt ∧ x4.toInt < 288) ∧ (w_194_147 T  a1 a2 (s.2.1 238 x4.toInt.toNat)  s P)))))) ∧ (¬ ((s.2.1 236 a5.toInt.toNat).toInt ≤ a7.toInt) → (-2147483648 ≤ 6 * a4.toInt ∧ 6 * a4.toInt ≤ 2147483647) ∧ (∀ x5 : Int32, x5.toInt = 6 * a4.toInt → (-2147483648 ≤ 4000 + x5.toInt ∧ 4000 + x5.toInt ≤ 2147483647) ∧ (∀ x6 : Int32, x6.toInt = 4000 + x5.toInt → (-2147483648 ≤ x6.toInt + a7.toInt ∧ x6.toInt + a7.toInt ≤ 2147483647) ∧ (∀ x7 : Int32, x7.toInt = x6.toInt + a7.toInt → (-2147483648 ≤ 8 * x7.toInt ∧ 8 * x7.toInt ≤ 2147483647) ∧ (∀ x8 : Int32, x8.toInt = 8 * x7.toInt → (0 ≤ (s.1 64).toInt ∧ (s.1 64).toInt < 200000) ∧ (∀ s9, s9 = sa s 264 (s.1 64).toInt.toNat x8 → (-2147483648 ≤ 6 * a6.toInt ∧ 6 * a6.toInt ≤ 2147483647) ∧ (∀ x10 : Int32, x10.toInt = 6 * a6.toInt → (-2147483648 ≤ x10.toInt + a7.toInt ∧ x10.toInt + a7.toInt ≤ 2147483647) ∧ (∀ x11 : Int32, x11.toInt = x10.toInt + a7.toInt → (0 ≤ x11.toInt ∧ x11.toInt < 3600) ∧ (∀ s12, s12 = sa s9 267 x11.toInt.toNat (s9.1 64) → (-2147483648 ≤ 6 * a6.toInt ∧ 6 * a6.toInt ≤ 2147483647) ∧ (∀ x13 : Int32, x13.toInt = 6 * a6.toInt → (-2147483648 ≤ x13.toInt + a7.toInt ∧ x13.toInt + a7.toInt ≤ 2147483647) ∧ (∀ x14 : Int32, x14.toInt = x13.toInt + a7.toInt → (0 ≤ x14.toInt ∧ x14.toInt < 3600) ∧ (∀ s15, s15 = sa s12 268 x14.toInt.toNat 1 → (-2147483648 ≤ (s15.1 64).toInt + 1 ∧ (s15.1 64).toInt + 1 ≤ 2147483647) ∧ (∀ x16 : Int32, x16.toInt = (s15.1 64).toInt + 1 → ∀ s17, s17 = sf s15 64 x16 → (-2147483648 ≤ a7.toInt + 1 ∧ a7.toInt + 1 ≤ 2147483647) ∧ (∀ x18 : Int32, x18.toInt = a7.toInt + 1 → R58 a1 a2 a4 a5 a6 x18  s17)))))))))))))))
set_option maxRecDepth 20000 in
theorem k_194_58 {d : Nat} {R58 : Int32 → Int32 → Int32 → Int32 → Int32 → Int32 → yS → Prop} {a1 : Int32} {a2 : Int32} {a4 : Int32} {a5 : Int32} {a6 : Int32} {a7 : Int32} {s : yS} {P : Option Value → yS → Prop} (r58 : ∀ a1 a2 a4 a5 a6 a7 s, R58 a1 a2 a4 a5 a6 a7 s → Go d 8 (none) xE_194 (xE_194.drop 58) [.ref 213, .int a1, .int a2, .null, .int a4, .int a5, .int a6, .int a7, .null, .null] [] s P) (h : w_194_58 (Tot d) R58 a1 a2 a4 a5 a6 a7 s P) : Go d 8 (none) xE_194 (xE_194.drop 58) [.ref 213, .int a1, .int a2, .null, .int a4, .int a5, .int a6, .int a7, .null, .null] [] s P := by
  unfold w_194_58 at h
  refine g_ld rfl rfl rfl ?_
  refine g_ld rfl rfl rfl ?_
  refine g_get rfl rfl ?_
  change Go _ _ _ _ _ _ [.ref 236, .int a7] _ _
  refine g_ld rfl rfl rfl ?_
  refine g_ial rfl rfl (i_in (x := a5) rfl h.1) ?_
  change Go _ _ _ _ _ _ [.int (s.2.1 236 a5.toInt.toNat), .int a7] _ _
  replace h := h.2
  refine g_brP rfl rfl ⟨fun hc => ?_, fun hc => ?_⟩
  · replace h := h.1 ((i_le (x := s.2.1 236 a5.toInt.toNat) (y := a7) rfl rfl).mp hc)
    refine g_ld rfl rfl rfl ?_
    refine g_get rfl rfl ?_
    change Go _ _ _ _ _ _ [.ref 238] _ _
    refine g_c [.int 6, .ref 238] (xo_push (.int 6)) rfl rfl ?_
    refine g_ld rfl rfl rfl ?_
    have ex1 := i_mul (x := 6) (y := a5) (show (6 : Int32).toInt = 6 by decide) rfl h.1
    have cx1 := ck_mul (x := 6) (y := a5) (show (6 : Int32).toInt = 6 by decide) rfl h.1
    replace h := h.2 _ ex1
    refine g_ca [.int (6 * a5), .ref 238] xo_imul rfl rfl (fun _ => cx1) ?_
    refine g_ld rfl rfl rfl ?_
    refine g_c [.int 4000, .int a1, .int (6 * a5), .ref 238] (xo_push (.int 4000)) rfl rfl ?_
    have ex2 := i_sub (x := a1) (y := 4000) rfl (show (4000 : Int32).toInt = 4000 by decide) h.1
    have cx2 := ck_sub (x := a1) (y := 4000) rfl (show (4000 : Int32).toInt = 4000 by decide) h.1
    replace h := h.2 _ ex2
    refine g_ca [.int (a1 - 4000), .int (6 * a5), .ref 238] xo_isub rfl rfl (fun _ => cx2) ?_
    refine g_c [.int 6, .int (a1 - 4000), .int (6 * a5), .ref 238] (xo_push (.int 6)) rfl rfl ?_
    have ex3 := i_rem6 (x := (a1 - 4000)) rfl h.1
    have cx3 := ck_d6 (x := (a1 - 4000)) (y := 6) rfl h.1
    replace h := h.2 _ ex3
    refine g_ca [.int ((a1 - 4000) - (a1 - 4000) / 6 * 6), .int (6 * a5), .ref 238] xo_irem rfl (o_irem (by decide)) (fun _ => cx3) ?_
    have ex4 := i_add (x := (6 * a5)) (y := ((a1 - 4000) - (a1 - 4000) / 6 * 6)) rfl rfl h.1
    have cx4 := ck_add (x := (6 * a5)) (y := ((a1 - 4000) - (a1 - 4000) / 6 * 6)) rfl rfl h.1
    replace h := h.2 _ ex4
    refine g_ca [.int ((6 * a5) + ((a1 - 4000) - (a1 - 4000) / 6 * 6)), .ref 238] xo_iadd rfl rfl (fun _ => cx4) ?_
    refine g_ial rfl rfl (i_in (x := ((6 * a5) + ((a1 - 4000) - (a1 - 4000) / 6 * 6))) rfl h.1) ?_
    change Go _ _ _ _ _ _ [.int (s.2.1 238 ((6 * a5) + ((a1 - 4000) - (a1 - 4000) / 6 * 6)).toInt.toNat)] _ _
    replace h := h.2
    refine g_st [.ref 213, .int a1, .int a2, .int (s.2.1 238 ((6 * a5) + ((a1 - 4000) - (a1 - 4000) / 6 * 6)).toInt.toNat), .int a4, .int a5, .int a6, .int a7, .null, .null] rfl rfl rfl ?_
    refine g_go rfl ?_
    refine g_fg 4 ?_
    refine g_fg 5 ?_
    refine g_fg 6 ?_
    refine g_fg 7 ?_
    exact k_194_147  h
  · replace h := h.2 (fun q => hc ((i_le (x := s.2.1 236 a5.toInt.toNat) (y := a7) rfl rfl).mpr q))
    refine g_ld rfl rfl rfl ?_
    refine g_get rfl rfl ?_
    change Go _ _ _ _ _ _ [.ref 264] _ _
    refine g_ld rfl rfl rfl ?_
    refine g_get rfl rfl ?_
    change Go _ _ _ _ _ _ [.int (s.1 64), .ref 264] _ _
    refine g_c [.int 8, .int (s.1 64), .ref 264] (xo_push (.int 8)) rfl rfl ?_
    refine g_c [.int 4000, .int 8, .int (s.1 64), .ref 264] (xo_push (.int 4000)) rfl rfl ?_
    refine g_c [.int 6, .int 4000, .int 8, .int (s.1 64), .ref 264] (xo_push (.int 6)) rfl rfl ?_
    refine g_ld rfl rfl rfl ?_
    have ex5 := i_mul (x := 6) (y := a4) (show (6 : Int32).toInt = 6 by decide) rfl h.1
    have cx5 := ck_mul (x := 6) (y := a4) (show (6 : Int32).toInt = 6 by decide) rfl h.1
    replace h := h.2 _ ex5
    refine g_ca [.int (6 * a4), .int 4000, .int 8, .int (s.1 64), .ref 264] xo_imul rfl rfl (fun _ => cx5) ?_
    have ex6 := i_add (x := 4000) (y := (6 * a4)) (show (4000 : Int32).toInt = 4000 by decide) rfl h.1
    have cx6 := ck_add (x := 4000) (y := (6 * a4)) (show (4000 : Int32).toInt = 4000 by decide) rfl h.1
    replace h := h.2 _ ex6
    refine g_ca [.int (4000 + (6 * a4)), .int 8, .int (s.1 64), .ref 264] xo_iadd rfl rfl (fun _ => cx6) ?_
    refine g_ld rfl rfl rfl ?_
    have ex7 := i_add (x := (4000 + (6 * a4))) (y := a7) rfl rfl h.1
    have cx7 := ck_add (x := (4000 + (6 * a4))) (y := a7) rfl rfl h.1
    replace h := h.2 _ ex7
    refine g_ca [.int ((4000 + (6 * a4)) + a7), .int 8, .int (s.1 64), .ref 264] xo_iadd rfl rfl (fun _ => cx7) ?_
    have ex8 := i_mul (x := 8) (y := ((4000 + (6 * a4)) + a7)) (show (8 : Int32).toInt = 8 by decide) rfl h.1
    have cx8 := ck_mul (x := 8) (y := ((4000 + (6 * a4)) + a7)) (show (8 : Int32).toInt = 8 by decide) rfl h.1
    replace h := h.2 _ ex8
    refine g_ca [.int (8 * ((4000 + (6 * a4)) + a7)), .int (s.1 64), .ref 264] xo_imul rfl rfl (fun _ => cx8) ?_
    refine g_ias rfl rfl (i_in (x := s.1 64) rfl h.1) ?_
    replace h := h.2
    replace h := h _ rfl
    refine g_ld rfl rfl rfl ?_
    refine g_get rfl rfl ?_
    change Go _ _ _ _ _ _ [.ref 267] _ _
    refine g_c [.int 6, .ref 267] (xo_push (.int 6)) rfl rfl ?_
    refine g_ld rfl rfl rfl ?_
    have ex10 := i_mul (x := 6) (y := a6) (show (6 : Int32).toInt = 6 by decide) rfl h.1
    have cx10 := ck_mul (x := 6) (y := a6) (show (6 : Int32).toInt = 6 by decide) rfl h.1
    replace h := h.2 _ ex10
    refine g_ca [.int (6 * a6), .ref 267] xo_imul rfl rfl (fun _ => cx10) ?_
    refine g_ld rfl rfl rfl ?_
    have ex11 := i_add (x := (6 * a6)) (y := a7) rfl rfl h.1
    have cx11 := ck_add (x := (6 * a6)) (y := a7) rfl rfl h.1
    replace h := h.2 _ ex11
    refine g_ca [.int ((6 * a6) + a7), .ref 267] xo_iadd rfl rfl (fun _ => cx11) ?_
    refine g_ld rfl rfl rfl ?_
    refine g_get rfl rfl ?_
    change Go _ _ _ _ _ _ [.int ((sa s 264 (s.1 64).toInt.toNat (8 * ((4000 + (6 * a4)) + a7))).1 64), .int ((6 * a6) + a7), .ref 267] _ _
    refine g_ias rfl rfl (i_in (x := ((6 * a6) + a7)) rfl h.1) ?_
    replace h := h.2
    replace h := h _ rfl
    refine g_ld rfl rfl rfl ?_
    refine g_get rfl rfl ?_
    change Go _ _ _ _ _ _ [.ref 268] _ _
    refine g_c [.int 6, .ref 268] (xo_push (.int 6)) rfl rfl ?_
    refine g_ld rfl rfl rfl ?_
    have ex13 := i_mul (x := 6) (y := a6) (show (6 : Int32).toInt = 6 by decide) rfl h.1
    have cx13 := ck_mul (x := 6) (y := a6) (show (6 : Int32).toInt = 6 by decide) rfl h.1
    replace h := h.2 _ ex13
    refine g_ca [.int (6 * a6), .ref 268] xo_imul rfl rfl (fun _ => cx13) ?_
    refine g_ld rfl rfl rfl ?_
    have ex14 := i_add (x := (6 * a6)) (y := a7) rfl rfl h.1
    have cx14 := ck_add (x := (6 * a6)) (y := a7) rfl rfl h.1
    replace h := h.2 _ ex14
    refine g_ca [.int ((6 * a6) + a7), .ref 268] xo_iadd rfl rfl (fun _ => cx14) ?_
    refine g_c [.int 1, .int ((6 * a6) + a7), .ref 268] (xo_push (.int 1)) rfl rfl ?_
    refine g_ias rfl rfl (i_in (x := ((6 * a6) + a7)) rfl h.1) ?_
    replace h := h.2
    replace h := h _ rfl
    refine g_ld rfl rfl rfl ?_
    refine g_c [.ref 213, .ref 213] xo_dup rfl rfl ?_
    refine g_get rfl rfl ?_
    change Go _ _ _ _ _ _ [.int ((sa (sa (sa s 264 (s.1 64).toInt.toNat (8 * ((4000 + (6 * a4)) + a7))) 267 ((6 * a6) + a7).toInt.toNat ((sa s 264 (s.1 64).toInt.toNat (8 * ((4000 + (6 * a4)) + a7))).1 64)) 268 ((6 * a6) + a7).toInt.toNat 1).1 64), .ref 213] _ _
    refine g_c [.int 1, .int ((sa (sa (sa s 264 (s.1 64).toInt.toNat (8 * ((4000 + (6 * a4)) + a7))) 267 ((6 * a6) + a7).toInt.toNat ((sa s 264 (s.1 64).toInt.toNat (8 * ((4000 + (6 * a4)) + a7))).1 64)) 268 ((6 * a6) + a7).toInt.toNat 1).1 64), .ref 213] (xo_push (.int 1)) rfl rfl ?_
    have ex16 := i_add (x := (sa (sa (sa s 264 (s.1 64).toInt.toNat (8 * ((4000 + (6 * a4)) + a7))) 267 ((6 * a6) + a7).toInt.toNat ((sa s 264 (s.1 64).toInt.toNat (8 * ((4000 + (6 * a4)) + a7))).1 64)) 268 ((6 * a6) + a7).toInt.toNat 1).1 64) (y := 1) rfl (show (1 : Int32).toInt = 1 by decide) h.1
    have cx16 := ck_add (x := (sa (sa (sa s 264 (s.1 64).toInt.toNat (8 * ((4000 + (6 * a4)) + a7))) 267 ((6 * a6) + a7).toInt.toNat ((sa s 264 (s.1 64).toInt.toNat (8 * ((4000 + (6 * a4)) + a7))).1 64)) 268 ((6 * a6) + a7).toInt.toNat 1).1 64) (y := 1) rfl (show (1 : Int32).toInt = 1 by decide) h.1
    replace h := h.2 _ ex16
    refine g_ca [.int (((sa (sa (sa s 264 (s.1 64).toInt.toNat (8 * ((4000 + (6 * a4)) + a7))) 267 ((6 * a6) + a7).toInt.toNat ((sa s 264 (s.1 64).toInt.toNat (8 * ((4000 + (6 * a4)) + a7))).1 64)) 268 ((6 * a6) + a7).toInt.toNat 1).1 64) + 1), .ref 213] xo_iadd rfl rfl (fun _ => cx16) ?_
    refine g_put rfl rfl rfl ?_
    replace h := h _ rfl
    have ex18 := i_add (x := a7) (y := 1) rfl (show (1 : Int32).toInt = 1 by decide) h.1
    have cx18 := ck_inc (x := a7) (n := 1) rfl h.1
    replace h := h.2 _ ex18
    refine g_inc [.ref 213, .int a1, .int a2, .null, .int a4, .int a5, .int a6, .int (a7 + 1), .null, .null] rfl rfl rfl rfl cx18 ?_
    refine g_go rfl ?_
    exact r58 a1 a2 a4 a5 a6 (a7 + 1)  (sf (sa (sa (sa s 264 (s.1 64).toInt.toNat (8 * ((4000 + (6 * a4)) + a7))) 267 ((6 * a6) + a7).toInt.toNat ((sa s 264 (s.1 64).toInt.toNat (8 * ((4000 + (6 * a4)) + a7))).1 64)) 268 ((6 * a6) + a7).toInt.toNat 1) 64 (((sa (sa (sa s 264 (s.1 64).toInt.toNat (8 * ((4000 + (6 * a4)) + a7))) 267 ((6 * a6) + a7).toInt.toNat ((sa s 264 (s.1 64).toInt.toNat (8 * ((4000 + (6 * a4)) + a7))).1 64)) 268 ((6 * a6) + a7).toInt.toNat 1).1 64) + 1)) h
def wl_194_58 (T : Nat → List Value → yS → (Option Value → yS → Prop) → Prop)  (a1 : Int32) (a2 : Int32) (a4 : Int32) (a5 : Int32) (a6 : Int32) (a7 : Int32) (s : yS) (P : Option Value → yS → Prop) : Prop :=
  ∃ (I : Int32 → Int32 → Int32 → Int32 → Int32 → Int32 → yS → Prop) (μ : Int32 → Int32 → Int32 → Int32 → Int32 → Int32 → yS → Nat), I a1 a2 a4 a5 a6 a7 s ∧ ∀ (a1 : Int32) (a2 : Int32) (a4 : Int32) (a5 : Int32) (a6 : Int32) (a7 : Int32) (s : yS), I a1 a2 a4 a5 a6 a7 s → w_194_58 T (fun a1' a2' a4' a5' a6' a7' s' => I a1' a2' a4' a5' a6' a7' s' ∧ μ a1' a2' a4' a5' a6' a7' s' < μ a1 a2 a4 a5 a6 a7 s) a1 a2 a4 a5 a6 a7 s P
theorem kl_194_58 {d : Nat}  {a1 : Int32} {a2 : Int32} {a4 : Int32} {a5 : Int32} {a6 : Int32} {a7 : Int32} {s : yS} {P : Option Value → yS → Prop}  (h : wl_194_58 (Tot d)  a1 a2 a4 a5 a6 a7 s P) : Go d 8 (none) xE_194 (xE_194.drop 58) [.ref 213, .int a1, .int a2, .null, .int a4, .int a5, .int a6, .int a7, .null, .null] [] s P := by
  obtain ⟨I, μ, h0, h1⟩ := h
  have key : ∀ (n : Nat) (a1 : Int32) (a2 : Int32) (a4 : Int32) (a5 : Int32) (a6 : Int32) (a7 : Int32) (s : yS), μ a1 a2 a4 a5 a6 a7 s = n → I a1 a2 a4 a5 a6 a7 s → Go d 8 (none) xE_194 (xE_194.drop 58) [.ref 213, .int a1, .int a2, .null, .int a4, .int a5, .int a6, .int a7, .null, .null] [] s P := by
    intro n
    induction n using Nat.strongRecOn with
    | ind n ih =>
      intro a1 a2 a4 a5 a6 a7 s e hI
      exact k_194_58 (fun a1' a2' a4' a5' a6' a7' s' q => ih _ (by rw [← e]; exact q.2) _ _ _ _ _ _ _ rfl q.1) (h1 a1 a2 a4 a5 a6 a7 s hI)
  exact key _ a1 a2 a4 a5 a6 a7 s rfl h0
def w_194_0 (T : Nat → List Value → yS → (Option Value → yS → Prop) → Prop)  (a1 : Int32) (s : yS) (P : Option Value → yS → Prop) : Prop :=
  T 188 [.ref 213] s (fun v2 s1 => ∃ x3, v2 = some (.int x3) ∧ ((a1.toInt < 4000 → (a1.toInt < 2000 → (-2147483648 ≤ 144 * (s1.1 75).toInt ∧ 144 * (s1.1 75).toInt ≤ 2147483647) ∧ (∀ x4 : Int32, x4.toInt = 144 * (s1.1 75).toInt → (-2147483648 ≤ x4.toInt + a1.toInt ∧ x4.toInt + a1.toInt ≤ 2147483647) ∧ (∀ x5 : Int32, x5.toInt = x4.toInt + a1.toInt → (-2147483648 ≤ x5.toInt - 1000 ∧ x5.toInt - 1000 ≤ 2147483647) ∧ (∀ x6 : Int32, x6.toInt = x5.toInt - 1000 → (0 ≤ x6.toInt ∧ x6.toInt < 288) ∧ (w_194_147 T  a1 x3 (s1.2.1 238 x6.toInt.toNat)  s1 P))))) ∧ (¬ (a1.toInt < 2000) → (-2147483648 ≤ 1224 * (s1.1 75).toInt ∧ 1224 * (s1.1 75).toInt ≤ 2147483647) ∧ (∀ x7 : Int32, x7.toInt = 1224 * (s1.1 75).toInt → (-2147483648 ≤ x7.toInt + a1.toInt ∧ x7.toInt + a1.toInt ≤ 2147483647) ∧ (∀ x8 : Int32, x8.toInt = x7.toInt + a1.toInt → (-2147483648 ≤ x8.toInt - 2000 ∧ x8.toInt - 2000 ≤ 2147483647) ∧ (∀ x9 : Int32, x9.toInt = x8.toInt - 2000 → (0 ≤ x9.toInt ∧ x9.toInt < 2448) ∧ (w_194_147 T  a1 x3 (s1.2.1 247 x9.toInt.toNat)  s1 P)))))) ∧ (¬ (a1.toInt < 4000) → (-2147483648 ≤ a1.toInt - 4000 ∧ a1.toInt - 4000 ≤ 2147483647) ∧ (∀ x10 : Int32, x10.toInt = a1.toInt - 4000 → 0 ≤ x10.toInt ∧ (∀ x11 : Int32, x11.toInt = x10.toInt / 6 → (-2147483648 ≤ 24 * (s1.1 75).toInt ∧ 24 * (s1.1 75).toInt ≤ 2147483647) ∧ (∀ x12 : Int32, x12.toInt = 24 * (s1.1 75).toInt → (-2147483648 ≤ 60 * (s1.1 75).toInt ∧ 60 * (s1.1 75).toInt ≤ 2147483647) ∧ (∀ x13 : Int32, x13.toInt = 60 * (s1.1 75).toInt → (-2147483648 ≤ x13.toInt + x11.toInt ∧ x13.toInt + x11.toInt ≤ 2147483647) ∧ (∀ x14 : Int32, x14.toInt = x13.toInt + x11.toInt → (0 ≤ x14.toInt ∧ x14.toInt < 120) ∧ ((-2147483648 ≤ x12.toInt + (s1.2.1 261 x14.toInt.toNat).toInt ∧ x12.toInt + (s1.2.1 261 x14.toInt.toNat).toInt ≤ 2147483647) ∧ (∀ x15 : Int32, x15.toInt = x12.toInt + (s1.2.1 261 x14.toInt.toNat).toInt → (-2147483648 ≤ 2 * x3.toInt ∧ 2 * x3.toInt ≤ 2147483647) ∧ (∀ x16 : Int32, x16.toInt = 2 * x3.toInt → (-2147483648 ≤ 60 * (s1.1 75).toInt ∧ 60 * (s1.1 75).toInt ≤ 2147483647) ∧ (∀ x17 : Int32, x17.toInt = 60 * (s1.1 75).toInt → (-2147483648 ≤ x17.toInt + x11.toInt ∧ x17.toInt + x11.toInt ≤ 2147483647) ∧ (∀ x18 : Int32, x18.toInt = x17.toInt + x11.toInt → (0 ≤ x18.toInt ∧ x18.toInt < 120) ∧ ((-2147483648 ≤ 6 * (s1.2.1 261 x18.toInt.toNat).toInt ∧ 6 * (s1.2.1 261 x18.toInt.toNat).toInt ≤ 2147483647) ∧ (∀ x19 : Int32, x19.toInt = 6 * (s1.2.1 261 x18.toInt.toNat).toInt → (-2147483648 ≤ 1000 + x19.toInt ∧ 1000 + x19.toInt ≤ 2147483647) ∧ (∀ x20 : Int32, x20.toInt = 1000 + x19.toInt → (0 ≤ x16.toInt ∧ x16.toInt < 600) ∧ (∀ s21, s21 = sa s1 265 x16.toInt.toNat x20 → (0 ≤ x15.toInt ∧ x15.toInt < 48) ∧ ((0 ≤ x16.toInt ∧ x16.toInt < 600) ∧ (∀ s22, s22 = sa s21 266 x16.toInt.toNat (s21.2.1 236 x15.toInt.toNat) → wl_194_58 T  a1 x3 x11 x15 x16 0  s22 P)))))))))))))))))))
set_option maxRecDepth 20000 in
theorem k_194_0 {d : Nat}  {a1 : Int32} {s : yS} {P : Option Value → yS → Prop}  (h : w_194_0 (Tot d)  a1 s P) : Go d 8 (none) xE_194 (xE_194.drop 0) [.ref 213, .int a1, .null, .null, .null, .null, .null, .null, .null, .null] [] s P := by
  unfold w_194_0 at h
  refine g_ld rfl rfl rfl ?_
  refine g_call [.ref 213] [] rfl rfl rfl (Tot.imp h (fun v2 s1 h => ?_))
  obtain ⟨x3, rfl, h⟩ := h
  change Go _ _ _ _ _ _ [.int x3] _ _
  refine g_st [.ref 213, .int a1, .int x3, .null, .null, .null, .null, .null, .null, .null] rfl rfl rfl ?_
  refine g_ld rfl rfl rfl ?_
  refine g_c [.int 4000, .int a1] (xo_push (.int 4000)) rfl rfl ?_
  refine g_brP rfl rfl ⟨fun hc => ?_, fun hc => ?_⟩
  · replace h := h.1 ((i_lt (x := a1) (y := 4000) rfl (show (4000 : Int32).toInt = 4000 by decide)).mp hc)
    refine g_ld rfl rfl rfl ?_
    refine g_c [.int 2000, .int a1] (xo_push (.int 2000)) rfl rfl ?_
    refine g_brP rfl rfl ⟨fun hc => ?_, fun hc => ?_⟩
    · replace h := h.1 ((i_lt (x := a1) (y := 2000) rfl (show (2000 : Int32).toInt = 2000 by decide)).mp hc)
      refine g_ld rfl rfl rfl ?_
      refine g_get rfl rfl ?_
      change Go _ _ _ _ _ _ [.ref 238] _ _
      refine g_c [.int 144, .ref 238] (xo_push (.int 144)) rfl rfl ?_
      refine g_ld rfl rfl rfl ?_
      refine g_get rfl rfl ?_
      change Go _ _ _ _ _ _ [.int (s1.1 75), .int 144, .ref 238] _ _
      have ex4 := i_mul (x := 144) (y := s1.1 75) (show (144 : Int32).toInt = 144 by decide) rfl h.1
      have cx4 := ck_mul (x := 144) (y := s1.1 75) (show (144 : Int32).toInt = 144 by decide) rfl h.1
      replace h := h.2 _ ex4
      refine g_ca [.int (144 * (s1.1 75)), .ref 238] xo_imul rfl rfl (fun _ => cx4) ?_
      refine g_ld rfl rfl rfl ?_
      have ex5 := i_add (x := (144 * (s1.1 75))) (y := a1) rfl rfl h.1
      have cx5 := ck_add (x := (144 * (s1.1 75))) (y := a1) rfl rfl h.1
      replace h := h.2 _ ex5
      refine g_ca [.int ((144 * (s1.1 75)) + a1), .ref 238] xo_iadd rfl rfl (fun _ => cx5) ?_
      refine g_c [.int 1000, .int ((144 * (s1.1 75)) + a1), .ref 238] (xo_push (.int 1000)) rfl rfl ?_
      have ex6 := i_sub (x := ((144 * (s1.1 75)) + a1)) (y := 1000) rfl (show (1000 : Int32).toInt = 1000 by decide) h.1
      have cx6 := ck_sub (x := ((144 * (s1.1 75)) + a1)) (y := 1000) rfl (show (1000 : Int32).toInt = 1000 by decide) h.1
      replace h := h.2 _ ex6
      refine g_ca [.int (((144 * (s1.1 75)) + a1) - 1000), .ref 238] xo_isub rfl rfl (fun _ => cx6) ?_
      refine g_ial rfl rfl (i_in (x := (((144 * (s1.1 75)) + a1) - 1000)) rfl h.1) ?_
      change Go _ _ _ _ _ _ [.int (s1.2.1 238 (((144 * (s1.1 75)) + a1) - 1000).toInt.toNat)] _ _
      replace h := h.2
      refine g_st [.ref 213, .int a1, .int x3, .int (s1.2.1 238 (((144 * (s1.1 75)) + a1) - 1000).toInt.toNat), .null, .null, .null, .null, .null, .null] rfl rfl rfl ?_
      exact k_194_147  h
    · replace h := h.2 (fun q => hc ((i_lt (x := a1) (y := 2000) rfl (show (2000 : Int32).toInt = 2000 by decide)).mpr q))
      refine g_ld rfl rfl rfl ?_
      refine g_get rfl rfl ?_
      change Go _ _ _ _ _ _ [.ref 247] _ _
      refine g_c [.int 1224, .ref 247] (xo_push (.int 1224)) rfl rfl ?_
      refine g_ld rfl rfl rfl ?_
      refine g_get rfl rfl ?_
      change Go _ _ _ _ _ _ [.int (s1.1 75), .int 1224, .ref 247] _ _
      have ex7 := i_mul (x := 1224) (y := s1.1 75) (show (1224 : Int32).toInt = 1224 by decide) rfl h.1
      have cx7 := ck_mul (x := 1224) (y := s1.1 75) (show (1224 : Int32).toInt = 1224 by decide) rfl h.1
      replace h := h.2 _ ex7
      refine g_ca [.int (1224 * (s1.1 75)), .ref 247] xo_imul rfl rfl (fun _ => cx7) ?_
      refine g_ld rfl rfl rfl ?_
      have ex8 := i_add (x := (1224 * (s1.1 75))) (y := a1) rfl rfl h.1
      have cx8 := ck_add (x := (1224 * (s1.1 75))) (y := a1) rfl rfl h.1
      replace h := h.2 _ ex8
      refine g_ca [.int ((1224 * (s1.1 75)) + a1), .ref 247] xo_iadd rfl rfl (fun _ => cx8) ?_
      refine g_c [.int 2000, .int ((1224 * (s1.1 75)) + a1), .ref 247] (xo_push (.int 2000)) rfl rfl ?_
      have ex9 := i_sub (x := ((1224 * (s1.1 75)) + a1)) (y := 2000) rfl (show (2000 : Int32).toInt = 2000 by decide) h.1
      have cx9 := ck_sub (x := ((1224 * (s1.1 75)) + a1)) (y := 2000) rfl (show (2000 : Int32).toInt = 2000 by decide) h.1
      replace h := h.2 _ ex9
      refine g_ca [.int (((1224 * (s1.1 75)) + a1) - 2000), .ref 247] xo_isub rfl rfl (fun _ => cx9) ?_
      refine g_ial rfl rfl (i_in (x := (((1224 * (s1.1 75)) + a1) - 2000)) rfl h.1) ?_
      change Go _ _ _ _ _ _ [.int (s1.2.1 247 (((1224 * (s1.1 75)) + a1) - 2000).toInt.toNat)] _ _
      replace h := h.2
      refine g_st [.ref 213, .int a1, .int x3, .int (s1.2.1 247 (((1224 * (s1.1 75)) + a1) - 2000).toInt.toNat), .null, .null, .null, .null, .null, .null] rfl rfl rfl ?_
      refine g_go rfl ?_
      exact k_194_147  h
  · replace h := h.2 (fun q => hc ((i_lt (x := a1) (y := 4000) rfl (show (4000 : Int32).toInt = 4000 by decide)).mpr q))
    refine g_ld rfl rfl rfl ?_
    refine g_c [.int 4000, .int a1] (xo_push (.int 4000)) rfl rfl ?_
    have ex10 := i_sub (x := a1) (y := 4000) rfl (show (4000 : Int32).toInt = 4000 by decide) h.1
    have cx10 := ck_sub (x := a1) (y := 4000) rfl (show (4000 : Int32).toInt = 4000 by decide) h.1
    replace h := h.2 _ ex10
    refine g_ca [.int (a1 - 4000)] xo_isub rfl rfl (fun _ => cx10) ?_
    refine g_c [.int 6, .int (a1 - 4000)] (xo_push (.int 6)) rfl rfl ?_
    have ex11 := i_div6 (x := (a1 - 4000)) rfl h.1
    have cx11 := ck_d6 (x := (a1 - 4000)) (y := 6) rfl h.1
    replace h := h.2 _ ex11
    refine g_ca [.int ((a1 - 4000) / 6)] xo_idiv rfl (o_idiv (by decide)) (fun _ => cx11) ?_
    refine g_st [.ref 213, .int a1, .int x3, .null, .int ((a1 - 4000) / 6), .null, .null, .null, .null, .null] rfl rfl rfl ?_
    refine g_c [.int 24] (xo_push (.int 24)) rfl rfl ?_
    refine g_ld rfl rfl rfl ?_
    refine g_get rfl rfl ?_
    change Go _ _ _ _ _ _ [.int (s1.1 75), .int 24] _ _
    have ex12 := i_mul (x := 24) (y := s1.1 75) (show (24 : Int32).toInt = 24 by decide) rfl h.1
    have cx12 := ck_mul (x := 24) (y := s1.1 75) (show (24 : Int32).toInt = 24 by decide) rfl h.1
    replace h := h.2 _ ex12
    refine g_ca [.int (24 * (s1.1 75))] xo_imul rfl rfl (fun _ => cx12) ?_
    refine g_ld rfl rfl rfl ?_
    refine g_get rfl rfl ?_
    change Go _ _ _ _ _ _ [.ref 261, .int (24 * (s1.1 75))] _ _
    refine g_c [.int 60, .ref 261, .int (24 * (s1.1 75))] (xo_push (.int 60)) rfl rfl ?_
    refine g_ld rfl rfl rfl ?_
    refine g_get rfl rfl ?_
    change Go _ _ _ _ _ _ [.int (s1.1 75), .int 60, .ref 261, .int (24 * (s1.1 75))] _ _
    have ex13 := i_mul (x := 60) (y := s1.1 75) (show (60 : Int32).toInt = 60 by decide) rfl h.1
    have cx13 := ck_mul (x := 60) (y := s1.1 75) (show (60 : Int32).toInt = 60 by decide) rfl h.1
    replace h := h.2 _ ex13
    refine g_ca [.int (60 * (s1.1 75)), .ref 261, .int (24 * (s1.1 75))] xo_imul rfl rfl (fun _ => cx13) ?_
    refine g_ld rfl rfl rfl ?_
    have ex14 := i_add (x := (60 * (s1.1 75))) (y := ((a1 - 4000) / 6)) rfl rfl h.1
    have cx14 := ck_add (x := (60 * (s1.1 75))) (y := ((a1 - 4000) / 6)) rfl rfl h.1
    replace h := h.2 _ ex14
    refine g_ca [.int ((60 * (s1.1 75)) + ((a1 - 4000) / 6)), .ref 261, .int (24 * (s1.1 75))] xo_iadd rfl rfl (fun _ => cx14) ?_
    refine g_ial rfl rfl (i_in (x := ((60 * (s1.1 75)) + ((a1 - 4000) / 6))) rfl h.1) ?_
    change Go _ _ _ _ _ _ [.int (s1.2.1 261 ((60 * (s1.1 75)) + ((a1 - 4000) / 6)).toInt.toNat), .int (24 * (s1.1 75))] _ _
    replace h := h.2
    have ex15 := i_add (x := (24 * (s1.1 75))) (y := s1.2.1 261 ((60 * (s1.1 75)) + ((a1 - 4000) / 6)).toInt.toNat) rfl rfl h.1
    have cx15 := ck_add (x := (24 * (s1.1 75))) (y := s1.2.1 261 ((60 * (s1.1 75)) + ((a1 - 4000) / 6)).toInt.toNat) rfl rfl h.1
    replace h := h.2 _ ex15
    refine g_ca [.int ((24 * (s1.1 75)) + (s1.2.1 261 ((60 * (s1.1 75)) + ((a1 - 4000) / 6)).toInt.toNat))] xo_iadd rfl rfl (fun _ => cx15) ?_
    refine g_st [.ref 213, .int a1, .int x3, .null, .int ((a1 - 4000) / 6), .int ((24 * (s1.1 75)) + (s1.2.1 261 ((60 * (s1.1 75)) + ((a1 - 4000) / 6)).toInt.toNat)), .null, .null, .null, .null] rfl rfl rfl ?_
    refine g_c [.int 2] (xo_push (.int 2)) rfl rfl ?_
    refine g_ld rfl rfl rfl ?_
    have ex16 := i_mul (x := 2) (y := x3) (show (2 : Int32).toInt = 2 by decide) rfl h.1
    have cx16 := ck_mul (x := 2) (y := x3) (show (2 : Int32).toInt = 2 by decide) rfl h.1
    replace h := h.2 _ ex16
    refine g_ca [.int (2 * x3)] xo_imul rfl rfl (fun _ => cx16) ?_
    refine g_st [.ref 213, .int a1, .int x3, .null, .int ((a1 - 4000) / 6), .int ((24 * (s1.1 75)) + (s1.2.1 261 ((60 * (s1.1 75)) + ((a1 - 4000) / 6)).toInt.toNat)), .int (2 * x3), .null, .null, .null] rfl rfl rfl ?_
    refine g_ld rfl rfl rfl ?_
    refine g_get rfl rfl ?_
    change Go _ _ _ _ _ _ [.ref 265] _ _
    refine g_ld rfl rfl rfl ?_
    refine g_c [.int 1000, .int (2 * x3), .ref 265] (xo_push (.int 1000)) rfl rfl ?_
    refine g_c [.int 6, .int 1000, .int (2 * x3), .ref 265] (xo_push (.int 6)) rfl rfl ?_
    refine g_ld rfl rfl rfl ?_
    refine g_get rfl rfl ?_
    change Go _ _ _ _ _ _ [.ref 261, .int 6, .int 1000, .int (2 * x3), .ref 265] _ _
    refine g_c [.int 60, .ref 261, .int 6, .int 1000, .int (2 * x3), .ref 265] (xo_push (.int 60)) rfl rfl ?_
    refine g_ld rfl rfl rfl ?_
    refine g_get rfl rfl ?_
    change Go _ _ _ _ _ _ [.int (s1.1 75), .int 60, .ref 261, .int 6, .int 1000, .int (2 * x3), .ref 265] _ _
    have ex17 := i_mul (x := 60) (y := s1.1 75) (show (60 : Int32).toInt = 60 by decide) rfl h.1
    have cx17 := ck_mul (x := 60) (y := s1.1 75) (show (60 : Int32).toInt = 60 by decide) rfl h.1
    replace h := h.2 _ ex17
    refine g_ca [.int (60 * (s1.1 75)), .ref 261, .int 6, .int 1000, .int (2 * x3), .ref 265] xo_imul rfl rfl (fun _ => cx17) ?_
    refine g_ld rfl rfl rfl ?_
    have ex18 := i_add (x := (60 * (s1.1 75))) (y := ((a1 - 4000) / 6)) rfl rfl h.1
    have cx18 := ck_add (x := (60 * (s1.1 75))) (y := ((a1 - 4000) / 6)) rfl rfl h.1
    replace h := h.2 _ ex18
    refine g_ca [.int ((60 * (s1.1 75)) + ((a1 - 4000) / 6)), .ref 261, .int 6, .int 1000, .int (2 * x3), .ref 265] xo_iadd rfl rfl (fun _ => cx18) ?_
    refine g_ial rfl rfl (i_in (x := ((60 * (s1.1 75)) + ((a1 - 4000) / 6))) rfl h.1) ?_
    change Go _ _ _ _ _ _ [.int (s1.2.1 261 ((60 * (s1.1 75)) + ((a1 - 4000) / 6)).toInt.toNat), .int 6, .int 1000, .int (2 * x3), .ref 265] _ _
    replace h := h.2
    have ex19 := i_mul (x := 6) (y := s1.2.1 261 ((60 * (s1.1 75)) + ((a1 - 4000) / 6)).toInt.toNat) (show (6 : Int32).toInt = 6 by decide) rfl h.1
    have cx19 := ck_mul (x := 6) (y := s1.2.1 261 ((60 * (s1.1 75)) + ((a1 - 4000) / 6)).toInt.toNat) (show (6 : Int32).toInt = 6 by decide) rfl h.1
    replace h := h.2 _ ex19
    refine g_ca [.int (6 * (s1.2.1 261 ((60 * (s1.1 75)) + ((a1 - 4000) / 6)).toInt.toNat)), .int 1000, .int (2 * x3), .ref 265] xo_imul rfl rfl (fun _ => cx19) ?_
    have ex20 := i_add (x := 1000) (y := (6 * (s1.2.1 261 ((60 * (s1.1 75)) + ((a1 - 4000) / 6)).toInt.toNat))) (show (1000 : Int32).toInt = 1000 by decide) rfl h.1
    have cx20 := ck_add (x := 1000) (y := (6 * (s1.2.1 261 ((60 * (s1.1 75)) + ((a1 - 4000) / 6)).toInt.toNat))) (show (1000 : Int32).toInt = 1000 by decide) rfl h.1
    replace h := h.2 _ ex20
    refine g_ca [.int (1000 + (6 * (s1.2.1 261 ((60 * (s1.1 75)) + ((a1 - 4000) / 6)).toInt.toNat))), .int (2 * x3), .ref 265] xo_iadd rfl rfl (fun _ => cx20) ?_
    refine g_ias rfl rfl (i_in (x := (2 * x3)) rfl h.1) ?_
    replace h := h.2
    replace h := h _ rfl
    refine g_ld rfl rfl rfl ?_
    refine g_get rfl rfl ?_
    change Go _ _ _ _ _ _ [.ref 266] _ _
    refine g_ld rfl rfl rfl ?_
    refine g_ld rfl rfl rfl ?_
    refine g_get rfl rfl ?_
    change Go _ _ _ _ _ _ [.ref 236, .int (2 * x3), .ref 266] _ _
    refine g_ld rfl rfl rfl ?_
    refine g_ial rfl rfl (i_in (x := ((24 * (s1.1 75)) + (s1.2.1 261 ((60 * (s1.1 75)) + ((a1 - 4000) / 6)).toInt.toNat))) rfl h.1) ?_
    change Go _ _ _ _ _ _ [.int ((sa s1 265 (2 * x3).toInt.toNat (1000 + (6 * (s1.2.1 261 ((60 * (s1.1 75)) + ((a1 - 4000) / 6)).toInt.toNat)))).2.1 236 ((24 * (s1.1 75)) + (s1.2.1 261 ((60 * (s1.1 75)) + ((a1 - 4000) / 6)).toInt.toNat)).toInt.toNat), .int (2 * x3), .ref 266] _ _
    replace h := h.2
    refine g_ias rfl rfl (i_in (x := (2 * x3)) rfl h.1) ?_
    replace h := h.2
    replace h := h _ rfl
    refine g_c [.int 0] (xo_push (.int 0)) rfl rfl ?_
    refine g_st [.ref 213, .int a1, .int x3, .null, .int ((a1 - 4000) / 6), .int ((24 * (s1.1 75)) + (s1.2.1 261 ((60 * (s1.1 75)) + ((a1 - 4000) / 6)).toInt.toNat)), .int (2 * x3), .int 0, .null, .null] rfl rfl rfl ?_
    exact kl_194_58  h
theorem t_194 {d : Nat} {a1 : Int32} {s : yS} {P : Option Value → yS → Prop} (h : w_194_0 (Tot d) a1 s P) : Tot (d + 1) 194 [.ref 213, .int a1] s P := tot_of (E := xE_194) (ml := 8) (ret := none) rfl rfl rfl (k_194_0 h)
/-! implement -/
def w_195_103 (T : Nat → List Value → yS → (Option Value → yS → Prop) → Prop)  (a1 : Int32) (a2 : Int32) (a3 : Int32) (a4 : Int32) (a5 : Int32) (a6 : Int32) (a7 : Int32) (a8 : Int32) (a9 : Int32) (a10 : Int32) (s : yS) (P : Option Value → yS → Prop) : Prop :=
  ∀ s1, s1 = sf s 64 a6 → P (some (.int a9)) s1
set_option maxRecDepth 20000 in
theorem k_195_103 {d : Nat}  {a1 : Int32} {a2 : Int32} {a3 : Int32} {a4 : Int32} {a5 : Int32} {a6 : Int32} {a7 : Int32} {a8 : Int32} {a9 : Int32} {a10 : Int32} {s : yS} {P : Option Value → yS → Prop}  (h : w_195_103 (Tot d)  a1 a2 a3 a4 a5 a6 a7 a8 a9 a10 s P) : Go d 12 (some .int) xE_195 (xE_195.drop 103) [.ref 213, .int a1, .int a2, .int a3, .int a4, .int a5, .int a6, .int a7, .int a8, .int a9, .int a10, .null, .null, .null, .null, .null, .null] [] s P := by
  unfold w_195_103 at h
  refine g_ld rfl rfl rfl ?_
  refine g_ld rfl rfl rfl ?_
  refine g_put rfl rfl rfl ?_
  replace h := h _ rfl
  refine g_ld rfl rfl rfl ?_
  exact g_retI rfl h
def w_195_100 (T : Nat → List Value → yS → (Option Value → yS → Prop) → Prop) (R63 : Int32 → Int32 → Int32 → Int32 → Int32 → Int32 → Int32 → Int32 → Int32 → Int32 → yS → Prop) (a1 : Int32) (a2 : Int32) (a3 : Int32) (a4 : Int32) (a5 : Int32) (a6 : Int32) (a7 : Int32) (a8 : Int32) (a9 : Int32) (a10 : Int32) (a11 : Int32) (t0 : Int32) (s : yS) (P : Option Value → yS → Prop) : Prop :=
  (-2147483648 ≤ a10.toInt + 1 ∧ a10.toInt + 1 ≤ 2147483647) ∧ (∀ x1 : Int32, x1.toInt = a10.toInt + 1 → R63 a1 a2 a3 a4 a5 a6 a7 a8 t0 x1  s)
set_option maxRecDepth 20000 in
theorem k_195_100 {d : Nat} {R63 : Int32 → Int32 → Int32 → Int32 → Int32 → Int32 → Int32 → Int32 → Int32 → Int32 → yS → Prop} {a1 : Int32} {a2 : Int32} {a3 : Int32} {a4 : Int32} {a5 : Int32} {a6 : Int32} {a7 : Int32} {a8 : Int32} {a9 : Int32} {a10 : Int32} {a11 : Int32} {t0 : Int32} {s : yS} {P : Option Value → yS → Prop} (r63 : ∀ a1 a2 a3 a4 a5 a6 a7 a8 a9 a10 s, R63 a1 a2 a3 a4 a5 a6 a7 a8 a9 a10 s → Go d 12 (some .int) xE_195 (xE_195.drop 63) [.ref 213, .int a1, .int a2, .int a3, .int a4, .int a5, .int a6, .int a7, .int a8, .int a9, .int a10, .null, .null, .null, .null, .null, .null] [] s P) (h : w_195_100 (Tot d) R63 a1 a2 a3 a4 a5 a6 a7 a8 a9 a10 a11 t0 s P) : Go d 12 (some .int) xE_195 (xE_195.drop 100) [.ref 213, .int a1, .int a2, .int a3, .int a4, .int a5, .int a6, .int a7, .int a8, .int a9, .int a10, .int a11, .null, .null, .null, .null, .null] [.int t0] s P := by
  unfold w_195_100 at h
  refine g_st [.ref 213, .int a1, .int a2, .int a3, .int a4, .int a5, .int a6, .int a7, .int a8, .int t0, .int a10, .int a11, .null, .null, .null, .null, .null] rfl rfl rfl ?_
  have ex1 := i_add (x := a10) (y := 1) rfl (show (1 : Int32).toInt = 1 by decide) h.1
  have cx1 := ck_inc (x := a10) (n := 1) rfl h.1
  replace h := h.2 _ ex1
  refine g_inc [.ref 213, .int a1, .int a2, .int a3, .int a4, .int a5, .int a6, .int a7, .int a8, .int t0, .int (a10 + 1), .int a11, .null, .null, .null, .null, .null] rfl rfl rfl rfl cx1 ?_
  refine g_go rfl ?_
  refine g_fg 11 ?_
  exact r63 a1 a2 a3 a4 a5 a6 a7 a8 t0 (a10 + 1)  s h
def w_195_63 (T : Nat → List Value → yS → (Option Value → yS → Prop) → Prop) (R63 : Int32 → Int32 → Int32 → Int32 → Int32 → Int32 → Int32 → Int32 → Int32 → Int32 → yS → Prop) (a1 : Int32) (a2 : Int32) (a3 : Int32) (a4 : Int32) (a5 : Int32) (a6 : Int32) (a7 : Int32) (a8 : Int32) (a9 : Int32) (a10 : Int32) (s : yS) (P : Option Value → yS → Prop) : Prop :=
  (0 ≤ a8.toInt ∧ a8.toInt < 48) ∧ (((s.2.1 243 a8.toInt.toNat).toInt ≤ a10.toInt → w_195_103 T  a1 a2 a3 a4 a5 a6 a7 a8 a9 a10  s P) ∧ (¬ ((s.2.1 243 a8.toInt.toNat).toInt ≤ a10.toInt) → (¬ (a9.toInt = 1) → w_195_103 T  a1 a2 a3 a4 a5 a6 a7 a8 a9 a10  s P) ∧ (a9.toInt = 1 → (0 ≤ a8.toInt ∧ a8.toInt < 48) ∧ ((-2147483648 ≤ (s.2.1 242 a8.toInt.toNat).toInt + a10.toInt ∧ (s.2.1 242 a8.toInt.toNat).toInt + a10.toInt ≤ 2147483647) ∧ (∀ x1 : Int32, x1.toInt = (s.2.1 242 a8.toInt.toNat).toInt + a10.toInt → (0 ≤ x1.toInt ∧ x1.toInt < 408) ∧ ((0 ≤ (s.2.1 244 x1.toInt.toNat).toInt ∧ (s.2.1 244 x1.toInt.toNat).toInt < 12006) ∧ (T 193 [.ref 213, .int a7, .int (s.2.1 217 (s.2.1 244 x1.toInt.toNat).toInt.toNat)] s (fun v3 s2 => ∃ x4, v3 = some (.int x4) ∧ ((x4.toInt = 0 → w_195_100 T R63 a1 a2 a3 a4 a5 a6 a7 a8 a9 a10 x1 0 s2 P) ∧ (¬ (x4.toInt = 0) → T 196 [.ref 213, .int x1, .int a3, .int a5, .int (s2.1 73), .int a7] s2 (fun v6 s5 => ∃ x7, v6 = some (.int x7) ∧ (w_195_100 T R63 a1 a2 a3 a4 a5 a6 a7 a8 a9 a10 x1 x7 s5 P))))))))))))
set_option maxRecDepth 20000 in
theorem k_195_63 {d : Nat} {R63 : Int32 → Int32 → Int32 → Int32 → Int32 → Int32 → Int32 → Int32 → Int32 → Int32 → yS → Prop} {a1 : Int32} {a2 : Int32} {a3 : Int32} {a4 : Int32} {a5 : Int32} {a6 : Int32} {a7 : Int32} {a8 : Int32} {a9 : Int32} {a10 : Int32} {s : yS} {P : Option Value → yS → Prop} (r63 : ∀ a1 a2 a3 a4 a5 a6 a7 a8 a9 a10 s, R63 a1 a2 a3 a4 a5 a6 a7 a8 a9 a10 s → Go d 12 (some .int) xE_195 (xE_195.drop 63) [.ref 213, .int a1, .int a2, .int a3, .int a4, .int a5, .int a6, .int a7, .int a8, .int a9, .int a10, .null, .null, .null, .null, .null, .null] [] s P) (h : w_195_63 (Tot d) R63 a1 a2 a3 a4 a5 a6 a7 a8 a9 a10 s P) : Go d 12 (some .int) xE_195 (xE_195.drop 63) [.ref 213, .int a1, .int a2, .int a3, .int a4, .int a5, .int a6, .int a7, .int a8, .int a9, .int a10, .null, .null, .null, .null, .null, .null] [] s P := by
  unfold w_195_63 at h
  refine g_ld rfl rfl rfl ?_
  refine g_ld rfl rfl rfl ?_
  refine g_get rfl rfl ?_
  change Go _ _ _ _ _ _ [.ref 243, .int a10] _ _
  refine g_ld rfl rfl rfl ?_
  refine g_ial rfl rfl (i_in (x := a8) rfl h.1) ?_
  change Go _ _ _ _ _ _ [.int (s.2.1 243 a8.toInt.toNat), .int a10] _ _
  replace h := h.2
  refine g_brP rfl rfl ⟨fun hc => ?_, fun hc => ?_⟩
  · replace h := h.1 ((i_le (x := s.2.1 243 a8.toInt.toNat) (y := a10) rfl rfl).mp hc)
    exact k_195_103  h
  · replace h := h.2 (fun q => hc ((i_le (x := s.2.1 243 a8.toInt.toNat) (y := a10) rfl rfl).mpr q))
    refine g_ld rfl rfl rfl ?_
    refine g_c [.int 1, .int a9] (xo_push (.int 1)) rfl rfl ?_
    refine g_brN rfl rfl ⟨fun hc => ?_, fun hc => ?_⟩
    · replace h := h.1 (fun q => hc ((i_eq (x := a9) (y := 1) rfl (show (1 : Int32).toInt = 1 by decide)).mpr q))
      exact k_195_103  h
    · replace h := h.2 ((i_eq (x := a9) (y := 1) rfl (show (1 : Int32).toInt = 1 by decide)).mp hc)
      refine g_ld rfl rfl rfl ?_
      refine g_get rfl rfl ?_
      change Go _ _ _ _ _ _ [.ref 242] _ _
      refine g_ld rfl rfl rfl ?_
      refine g_ial rfl rfl (i_in (x := a8) rfl h.1) ?_
      change Go _ _ _ _ _ _ [.int (s.2.1 242 a8.toInt.toNat)] _ _
      replace h := h.2
      refine g_ld rfl rfl rfl ?_
      have ex1 := i_add (x := s.2.1 242 a8.toInt.toNat) (y := a10) rfl rfl h.1
      have cx1 := ck_add (x := s.2.1 242 a8.toInt.toNat) (y := a10) rfl rfl h.1
      replace h := h.2 _ ex1
      refine g_ca [.int ((s.2.1 242 a8.toInt.toNat) + a10)] xo_iadd rfl rfl (fun _ => cx1) ?_
      refine g_st [.ref 213, .int a1, .int a2, .int a3, .int a4, .int a5, .int a6, .int a7, .int a8, .int a9, .int a10, .int ((s.2.1 242 a8.toInt.toNat) + a10), .null, .null, .null, .null, .null] rfl rfl rfl ?_
      refine g_ld rfl rfl rfl ?_
      refine g_ld rfl rfl rfl ?_
      refine g_ld rfl rfl rfl ?_
      refine g_get rfl rfl ?_
      change Go _ _ _ _ _ _ [.ref 217, .int a7, .ref 213] _ _
      refine g_ld rfl rfl rfl ?_
      refine g_get rfl rfl ?_
      change Go _ _ _ _ _ _ [.ref 244, .ref 217, .int a7, .ref 213] _ _
      refine g_ld rfl rfl rfl ?_
      refine g_ial rfl rfl (i_in (x := ((s.2.1 242 a8.toInt.toNat) + a10)) rfl h.1) ?_
      change Go _ _ _ _ _ _ [.int (s.2.1 244 ((s.2.1 242 a8.toInt.toNat) + a10).toInt.toNat), .ref 217, .int a7, .ref 213] _ _
      replace h := h.2
      refine g_ial rfl rfl (i_in (x := s.2.1 244 ((s.2.1 242 a8.toInt.toNat) + a10).toInt.toNat) rfl h.1) ?_
      change Go _ _ _ _ _ _ [.int (s.2.1 217 (s.2.1 244 ((s.2.1 242 a8.toInt.toNat) + a10).toInt.toNat).toInt.toNat), .int a7, .ref 213] _ _
      replace h := h.2
      refine g_call [.ref 213, .int a7, .int (s.2.1 217 (s.2.1 244 ((s.2.1 242 a8.toInt.toNat) + a10).toInt.toNat).toInt.toNat)] [] rfl rfl rfl (Tot.imp h (fun v3 s2 h => ?_))
      obtain ⟨x4, rfl, h⟩ := h
      change Go _ _ _ _ _ _ [.int x4] _ _
      refine g_brP rfl rfl ⟨fun hc => ?_, fun hc => ?_⟩
      · replace h := h.1 ((i_eq (x := x4) (y := 0) rfl (show (0 : Int32).toInt = 0 by decide)).mp hc)
        refine g_c [.int 0] (xo_push (.int 0)) rfl rfl ?_
        exact k_195_100 r63 h
      · replace h := h.2 (fun q => hc ((i_eq (x := x4) (y := 0) rfl (show (0 : Int32).toInt = 0 by decide)).mpr q))
        refine g_ld rfl rfl rfl ?_
        refine g_ld rfl rfl rfl ?_
        refine g_ld rfl rfl rfl ?_
        refine g_ld rfl rfl rfl ?_
        refine g_ld rfl rfl rfl ?_
        refine g_get rfl rfl ?_
        change Go _ _ _ _ _ _ [.int (s2.1 73), .int a5, .int a3, .int ((s.2.1 242 a8.toInt.toNat) + a10), .ref 213] _ _
        refine g_ld rfl rfl rfl ?_
        refine g_call [.ref 213, .int ((s.2.1 242 a8.toInt.toNat) + a10), .int a3, .int a5, .int (s2.1 73), .int a7] [] rfl rfl rfl (Tot.imp h (fun v6 s5 h => ?_))
        obtain ⟨x7, rfl, h⟩ := h
        change Go _ _ _ _ _ _ [.int x7] _ _
        refine g_go rfl ?_
        exact k_195_100 r63 h
def wl_195_63 (T : Nat → List Value → yS → (Option Value → yS → Prop) → Prop)  (a1 : Int32) (a2 : Int32) (a3 : Int32) (a4 : Int32) (a5 : Int32) (a6 : Int32) (a7 : Int32) (a8 : Int32) (a9 : Int32) (a10 : Int32) (s : yS) (P : Option Value → yS → Prop) : Prop :=
  ∃ (I : Int32 → Int32 → Int32 → Int32 → Int32 → Int32 → Int32 → Int32 → Int32 → Int32 → yS → Prop) (μ : Int32 → Int32 → Int32 → Int32 → Int32 → Int32 → Int32 → Int32 → Int32 → Int32 → yS → Nat), I a1 a2 a3 a4 a5 a6 a7 a8 a9 a10 s ∧ ∀ (a1 : Int32) (a2 : Int32) (a3 : Int32) (a4 : Int32) (a5 : Int32) (a6 : Int32) (a7 : Int32) (a8 : Int32) (a9 : Int32) (a10 : Int32) (s : yS), I a1 a2 a3 a4 a5 a6 a7 a8 a9 a10 s → w_195_63 T (fun a1' a2' a3' a4' a5' a6' a7' a8' a9' a10' s' => I a1' a2' a3' a4' a5' a6' a7' a8' a9' a10' s' ∧ μ a1' a2' a3' a4' a5' a6' a7' a8' a9' a10' s' < μ a1 a2 a3 a4 a5 a6 a7 a8 a9 a10 s) a1 a2 a3 a4 a5 a6 a7 a8 a9 a10 s P
theorem kl_195_63 {d : Nat}  {a1 : Int32} {a2 : Int32} {a3 : Int32} {a4 : Int32} {a5 : Int32} {a6 : Int32} {a7 : Int32} {a8 : Int32} {a9 : Int32} {a10 : Int32} {s : yS} {P : Option Value → yS → Prop}  (h : wl_195_63 (Tot d)  a1 a2 a3 a4 a5 a6 a7 a8 a9 a10 s P) : Go d 12 (some .int) xE_195 (xE_195.drop 63) [.ref 213, .int a1, .int a2, .int a3, .int a4, .int a5, .int a6, .int a7, .int a8, .int a9, .int a10, .null, .null, .null, .null, .null, .null] [] s P := by
  obtain ⟨I, μ, h0, h1⟩ := h
  have key : ∀ (n : Nat) (a1 : Int32) (a2 : Int32) (a3 : Int32) (a4 : Int32) (a5 : Int32) (a6 : Int32) (a7 : Int32) (a8 : Int32) (a9 : Int32) (a10 : Int32) (s : yS), μ a1 a2 a3 a4 a5 a6 a7 a8 a9 a10 s = n → I a1 a2 a3 a4 a5 a6 a7 a8 a9 a10 s → Go d 12 (some .int) xE_195 (xE_195.drop 63) [.ref 213, .int a1, .int a2, .int a3, .int a4, .int a5, .int a6, .int a7, .int a8, .int a9, .int a10, .null, .null, .null, .null, .null, .null] [] s P := by
    intro n
    induction n using Nat.strongRecOn with
    | ind n ih =>
      intro a1 a2 a3 a4 a5 a6 a7 a8 a9 a10 s e hI
      exact k_195_63 (fun a1' a2' a3' a4' a5' a6' a7' a8' a9' a10' s' q => ih _ (by rw [← e]; exact q.2) _ _ _ _ _ _ _ _ _ _ _ rfl q.1) (h1 a1 a2 a3 a4 a5 a6 a7 a8 a9 a10 s hI)
  exact key _ a1 a2 a3 a4 a5 a6 a7 a8 a9 a10 s rfl h0
def w_195_52 (T : Nat → List Value → yS → (Option Value → yS → Prop) → Prop)  (a1 : Int32) (a2 : Int32) (a3 : Int32) (a4 : Int32) (a5 : Int32) (a6 : Int32) (a7 : Int32) (s : yS) (P : Option Value → yS → Prop) : Prop :=
  (-2147483648 ≤ 24 * (s.1 75).toInt ∧ 24 * (s.1 75).toInt ≤ 2147483647) ∧ (∀ x1 : Int32, x1.toInt = 24 * (s.1 75).toInt → (-2147483648 ≤ x1.toInt + a5.toInt ∧ x1.toInt + a5.toInt ≤ 2147483647) ∧ (∀ x2 : Int32, x2.toInt = x1.toInt + a5.toInt → wl_195_63 T  a1 a2 a3 a4 a5 a6 a7 x2 1 0  s P))
set_option maxRecDepth 20000 in
theorem k_195_52 {d : Nat}  {a1 : Int32} {a2 : Int32} {a3 : Int32} {a4 : Int32} {a5 : Int32} {a6 : Int32} {a7 : Int32} {s : yS} {P : Option Value → yS → Prop}  (h : w_195_52 (Tot d)  a1 a2 a3 a4 a5 a6 a7 s P) : Go d 12 (some .int) xE_195 (xE_195.drop 52) [.ref 213, .int a1, .int a2, .int a3, .int a4, .int a5, .int a6, .int a7, .null, .null, .null, .null, .null, .null, .null, .null, .null] [] s P := by
  unfold w_195_52 at h
  refine g_c [.int 24] (xo_push (.int 24)) rfl rfl ?_
  refine g_ld rfl rfl rfl ?_
  refine g_get rfl rfl ?_
  change Go _ _ _ _ _ _ [.int (s.1 75), .int 24] _ _
  have ex1 := i_mul (x := 24) (y := s.1 75) (show (24 : Int32).toInt = 24 by decide) rfl h.1
  have cx1 := ck_mul (x := 24) (y := s.1 75) (show (24 : Int32).toInt = 24 by decide) rfl h.1
  replace h := h.2 _ ex1
  refine g_ca [.int (24 * (s.1 75))] xo_imul rfl rfl (fun _ => cx1) ?_
  refine g_ld rfl rfl rfl ?_
  have ex2 := i_add (x := (24 * (s.1 75))) (y := a5) rfl rfl h.1
  have cx2 := ck_add (x := (24 * (s.1 75))) (y := a5) rfl rfl h.1
  replace h := h.2 _ ex2
  refine g_ca [.int ((24 * (s.1 75)) + a5)] xo_iadd rfl rfl (fun _ => cx2) ?_
  refine g_st [.ref 213, .int a1, .int a2, .int a3, .int a4, .int a5, .int a6, .int a7, .int ((24 * (s.1 75)) + a5), .null, .null, .null, .null, .null, .null, .null, .null] rfl rfl rfl ?_
  refine g_c [.int 1] (xo_push (.int 1)) rfl rfl ?_
  refine g_st [.ref 213, .int a1, .int a2, .int a3, .int a4, .int a5, .int a6, .int a7, .int ((24 * (s.1 75)) + a5), .int 1, .null, .null, .null, .null, .null, .null, .null] rfl rfl rfl ?_
  refine g_c [.int 0] (xo_push (.int 0)) rfl rfl ?_
  refine g_st [.ref 213, .int a1, .int a2, .int a3, .int a4, .int a5, .int a6, .int a7, .int ((24 * (s.1 75)) + a5), .int 1, .int 0, .null, .null, .null, .null, .null, .null] rfl rfl rfl ?_
  exact kl_195_63  h
def w_195_29 (T : Nat → List Value → yS → (Option Value → yS → Prop) → Prop)  (a1 : Int32) (a2 : Int32) (a3 : Int32) (a4 : Int32) (a5 : Int32) (t0 : Int32) (s : yS) (P : Option Value → yS → Prop) : Prop :=
  P (some (.int t0)) s
set_option maxRecDepth 20000 in
theorem k_195_29 {d : Nat}  {a1 : Int32} {a2 : Int32} {a3 : Int32} {a4 : Int32} {a5 : Int32} {t0 : Int32} {s : yS} {P : Option Value → yS → Prop}  (h : w_195_29 (Tot d)  a1 a2 a3 a4 a5 t0 s P) : Go d 12 (some .int) xE_195 (xE_195.drop 29) [.ref 213, .int a1, .int a2, .int a3, .int a4, .int a5, .null, .null, .null, .null, .null, .null, .null, .null, .null, .null, .null] [.int t0] s P := by
  unfold w_195_29 at h
  exact g_retI rfl h
def w_195_19 (T : Nat → List Value → yS → (Option Value → yS → Prop) → Prop)  (a1 : Int32) (a2 : Int32) (a3 : Int32) (a4 : Int32) (a5 : Int32) (s : yS) (P : Option Value → yS → Prop) : Prop :=
  T 187 [.ref 213, .int a1, .int a2, .int a3, .int a4] s (fun v2 s1 => ∃ x3, v2 = some (.int x3) ∧ ((x3.toInt = 0 → w_195_29 T  a1 a2 a3 a4 a5 0 s1 P) ∧ (¬ (x3.toInt = 0) → w_195_29 T  a1 a2 a3 a4 a5 1 s1 P)))
set_option maxRecDepth 20000 in
theorem k_195_19 {d : Nat}  {a1 : Int32} {a2 : Int32} {a3 : Int32} {a4 : Int32} {a5 : Int32} {s : yS} {P : Option Value → yS → Prop}  (h : w_195_19 (Tot d)  a1 a2 a3 a4 a5 s P) : Go d 12 (some .int) xE_195 (xE_195.drop 19) [.ref 213, .int a1, .int a2, .int a3, .int a4, .int a5, .null, .null, .null, .null, .null, .null, .null, .null, .null, .null, .null] [] s P := by
  unfold w_195_19 at h
  refine g_ld rfl rfl rfl ?_
  refine g_ld rfl rfl rfl ?_
  refine g_ld rfl rfl rfl ?_
  refine g_ld rfl rfl rfl ?_
  refine g_ld rfl rfl rfl ?_
  refine g_call [.ref 213, .int a1, .int a2, .int a3, .int a4] [] rfl rfl rfl (Tot.imp h (fun v2 s1 h => ?_))
  obtain ⟨x3, rfl, h⟩ := h
  change Go _ _ _ _ _ _ [.int x3] _ _
  refine g_brP rfl rfl ⟨fun hc => ?_, fun hc => ?_⟩
  · replace h := h.1 ((i_eq (x := x3) (y := 0) rfl (show (0 : Int32).toInt = 0 by decide)).mp hc)
    refine g_c [.int 0] (xo_push (.int 0)) rfl rfl ?_
    exact k_195_29  h
  · replace h := h.2 (fun q => hc ((i_eq (x := x3) (y := 0) rfl (show (0 : Int32).toInt = 0 by decide)).mpr q))
    refine g_c [.int 1] (xo_push (.int 1)) rfl rfl ?_
    refine g_go rfl ?_
    exact k_195_29  h
def w_195_0 (T : Nat → List Value → yS → (Option Value → yS → Prop) → Prop)  (a1 : Int32) (a2 : Int32) (a3 : Int32) (a4 : Int32) (s : yS) (P : Option Value → yS → Prop) : Prop :=
  (0 ≤ a3.toInt ∧ a3.toInt < 200000) ∧ (T 185 [.int (s.2.1 264 a3.toInt.toNat)] s (fun v2 s1 => ∃ x3, v2 = some (.int x3) ∧ ((1000 ≤ x3.toInt → w_195_19 T  a1 a2 a3 a4 x3  s1 P) ∧ (¬ (1000 ≤ x3.toInt) → (-2147483648 ≤ 24 * (s1.1 75).toInt ∧ 24 * (s1.1 75).toInt ≤ 2147483647) ∧ (∀ x4 : Int32, x4.toInt = 24 * (s1.1 75).toInt → (-2147483648 ≤ x4.toInt + x3.toInt ∧ x4.toInt + x3.toInt ≤ 2147483647) ∧ (∀ x5 : Int32, x5.toInt = x4.toInt + x3.toInt → (0 ≤ x5.toInt ∧ x5.toInt < 48) ∧ (((s1.2.1 235 x5.toInt.toNat).toInt = 0 → (0 ≤ a1.toInt ∧ a1.toInt < 200000) ∧ (T 185 [.int (s1.2.1 264 a1.toInt.toNat)] s1 (fun v7 s6 => ∃ x8, v7 = some (.int x8) ∧ ((x8.toInt < 1000 → w_195_52 T  a1 a2 a3 a4 x3 (s1.1 64) a1  s6 P) ∧ (¬ (x8.toInt < 1000) → (0 ≤ a1.toInt ∧ a1.toInt < 200000) ∧ (T 185 [.int (s6.2.1 264 a1.toInt.toNat)] s6 (fun v10 s9 => ∃ x11, v10 = some (.int x11) ∧ (T 194 [.ref 213, .int x11] s9 (fun v13 s12 => v13 = none ∧ (w_195_52 T  a1 a2 a3 a4 x3 (s1.1 64) (s12.1 71)  s12 P)))))))))) ∧ (¬ ((s1.2.1 235 x5.toInt.toNat).toInt = 0) → w_195_19 T  a1 a2 a3 a4 x3  s1 P))))))))
set_option maxRecDepth 20000 in
theorem k_195_0 {d : Nat}  {a1 : Int32} {a2 : Int32} {a3 : Int32} {a4 : Int32} {s : yS} {P : Option Value → yS → Prop}  (h : w_195_0 (Tot d)  a1 a2 a3 a4 s P) : Go d 12 (some .int) xE_195 (xE_195.drop 0) [.ref 213, .int a1, .int a2, .int a3, .int a4, .null, .null, .null, .null, .null, .null, .null, .null, .null, .null, .null, .null] [] s P := by
  unfold w_195_0 at h
  refine g_ld rfl rfl rfl ?_
  refine g_get rfl rfl ?_
  change Go _ _ _ _ _ _ [.ref 264] _ _
  refine g_ld rfl rfl rfl ?_
  refine g_ial rfl rfl (i_in (x := a3) rfl h.1) ?_
  change Go _ _ _ _ _ _ [.int (s.2.1 264 a3.toInt.toNat)] _ _
  replace h := h.2
  refine g_call [.int (s.2.1 264 a3.toInt.toNat)] [] rfl rfl rfl (Tot.imp h (fun v2 s1 h => ?_))
  obtain ⟨x3, rfl, h⟩ := h
  change Go _ _ _ _ _ _ [.int x3] _ _
  refine g_st [.ref 213, .int a1, .int a2, .int a3, .int a4, .int x3, .null, .null, .null, .null, .null, .null, .null, .null, .null, .null, .null] rfl rfl rfl ?_
  refine g_ld rfl rfl rfl ?_
  refine g_c [.int 1000, .int x3] (xo_push (.int 1000)) rfl rfl ?_
  refine g_brP rfl rfl ⟨fun hc => ?_, fun hc => ?_⟩
  · replace h := h.1 ((i_le (x := 1000) (y := x3) (show (1000 : Int32).toInt = 1000 by decide) rfl).mp hc)
    exact k_195_19  h
  · replace h := h.2 (fun q => hc ((i_le (x := 1000) (y := x3) (show (1000 : Int32).toInt = 1000 by decide) rfl).mpr q))
    refine g_ld rfl rfl rfl ?_
    refine g_get rfl rfl ?_
    change Go _ _ _ _ _ _ [.ref 235] _ _
    refine g_c [.int 24, .ref 235] (xo_push (.int 24)) rfl rfl ?_
    refine g_ld rfl rfl rfl ?_
    refine g_get rfl rfl ?_
    change Go _ _ _ _ _ _ [.int (s1.1 75), .int 24, .ref 235] _ _
    have ex4 := i_mul (x := 24) (y := s1.1 75) (show (24 : Int32).toInt = 24 by decide) rfl h.1
    have cx4 := ck_mul (x := 24) (y := s1.1 75) (show (24 : Int32).toInt = 24 by decide) rfl h.1
    replace h := h.2 _ ex4
    refine g_ca [.int (24 * (s1.1 75)), .ref 235] xo_imul rfl rfl (fun _ => cx4) ?_
    refine g_ld rfl rfl rfl ?_
    have ex5 := i_add (x := (24 * (s1.1 75))) (y := x3) rfl rfl h.1
    have cx5 := ck_add (x := (24 * (s1.1 75))) (y := x3) rfl rfl h.1
    replace h := h.2 _ ex5
    refine g_ca [.int ((24 * (s1.1 75)) + x3), .ref 235] xo_iadd rfl rfl (fun _ => cx5) ?_
    refine g_zal rfl rfl (i_in (x := ((24 * (s1.1 75)) + x3)) rfl h.1) ?_
    change Go _ _ _ _ _ _ [.int (s1.2.1 235 ((24 * (s1.1 75)) + x3).toInt.toNat)] _ _
    replace h := h.2
    refine g_brP rfl rfl ⟨fun hc => ?_, fun hc => ?_⟩
    · replace h := h.1 ((i_eq (x := s1.2.1 235 ((24 * (s1.1 75)) + x3).toInt.toNat) (y := 0) rfl (show (0 : Int32).toInt = 0 by decide)).mp hc)
      refine g_ld rfl rfl rfl ?_
      refine g_get rfl rfl ?_
      change Go _ _ _ _ _ _ [.int (s1.1 64)] _ _
      refine g_st [.ref 213, .int a1, .int a2, .int a3, .int a4, .int x3, .int (s1.1 64), .null, .null, .null, .null, .null, .null, .null, .null, .null, .null] rfl rfl rfl ?_
      refine g_ld rfl rfl rfl ?_
      refine g_st [.ref 213, .int a1, .int a2, .int a3, .int a4, .int x3, .int (s1.1 64), .int a1, .null, .null, .null, .null, .null, .null, .null, .null, .null] rfl rfl rfl ?_
      refine g_ld rfl rfl rfl ?_
      refine g_get rfl rfl ?_
      change Go _ _ _ _ _ _ [.ref 264] _ _
      refine g_ld rfl rfl rfl ?_
      refine g_ial rfl rfl (i_in (x := a1) rfl h.1) ?_
      change Go _ _ _ _ _ _ [.int (s1.2.1 264 a1.toInt.toNat)] _ _
      replace h := h.2
      refine g_call [.int (s1.2.1 264 a1.toInt.toNat)] [] rfl rfl rfl (Tot.imp h (fun v7 s6 h => ?_))
      obtain ⟨x8, rfl, h⟩ := h
      change Go _ _ _ _ _ _ [.int x8] _ _
      refine g_c [.int 1000, .int x8] (xo_push (.int 1000)) rfl rfl ?_
      refine g_brP rfl rfl ⟨fun hc => ?_, fun hc => ?_⟩
      · replace h := h.1 ((i_lt (x := x8) (y := 1000) rfl (show (1000 : Int32).toInt = 1000 by decide)).mp hc)
        exact k_195_52  h
      · replace h := h.2 (fun q => hc ((i_lt (x := x8) (y := 1000) rfl (show (1000 : Int32).toInt = 1000 by decide)).mpr q))
        refine g_ld rfl rfl rfl ?_
        refine g_ld rfl rfl rfl ?_
        refine g_get rfl rfl ?_
        change Go _ _ _ _ _ _ [.ref 264, .ref 213] _ _
        refine g_ld rfl rfl rfl ?_
        refine g_ial rfl rfl (i_in (x := a1) rfl h.1) ?_
        change Go _ _ _ _ _ _ [.int (s6.2.1 264 a1.toInt.toNat), .ref 213] _ _
        replace h := h.2
        refine g_call [.int (s6.2.1 264 a1.toInt.toNat)] [.ref 213] rfl rfl rfl (Tot.imp h (fun v10 s9 h => ?_))
        obtain ⟨x11, rfl, h⟩ := h
        change Go _ _ _ _ _ _ [.int x11, .ref 213] _ _
        refine g_call [.ref 213, .int x11] [] rfl rfl rfl (Tot.imp h (fun v13 s12 h => ?_))
        obtain ⟨rfl, h⟩ := h
        change Go _ _ _ _ _ _ [] _ _
        refine g_ld rfl rfl rfl ?_
        refine g_get rfl rfl ?_
        change Go _ _ _ _ _ _ [.int (s12.1 71)] _ _
        refine g_st [.ref 213, .int a1, .int a2, .int a3, .int a4, .int x3, .int (s1.1 64), .int (s12.1 71), .null, .null, .null, .null, .null, .null, .null, .null, .null] rfl rfl rfl ?_
        exact k_195_52  h
    · replace h := h.2 (fun q => hc ((i_eq (x := s1.2.1 235 ((24 * (s1.1 75)) + x3).toInt.toNat) (y := 0) rfl (show (0 : Int32).toInt = 0 by decide)).mpr q))
      exact k_195_19  h
theorem t_195 {d : Nat} {a1 : Int32} {a2 : Int32} {a3 : Int32} {a4 : Int32} {s : yS} {P : Option Value → yS → Prop} (h : w_195_0 (Tot d) a1 a2 a3 a4 s P) : Tot (d + 1) 195 [.ref 213, .int a1, .int a2, .int a3, .int a4] s P := tot_of (E := xE_195) (ml := 12) (ret := some .int) rfl rfl rfl (k_195_0 h)
/-! alike -/
def w_196_171 (T : Nat → List Value → yS → (Option Value → yS → Prop) → Prop)  (a1 : Int32) (a2 : Int32) (a3 : Int32) (a4 : Int32) (a5 : Int32) (a6 : Int32) (a7 : Int32) (a8 : Int32) (a9 : Int32) (t0 : Int32) (s : yS) (P : Option Value → yS → Prop) : Prop :=
  (-2147483648 ≤ (s.1 70).toInt - 2 ∧ (s.1 70).toInt - 2 ≤ 2147483647) ∧ (∀ x1 : Int32, x1.toInt = (s.1 70).toInt - 2 → ∀ s2, s2 = sf s 70 x1 → P (some (.int t0)) s2)
set_option maxRecDepth 20000 in
theorem k_196_171 {d : Nat}  {a1 : Int32} {a2 : Int32} {a3 : Int32} {a4 : Int32} {a5 : Int32} {a6 : Int32} {a7 : Int32} {a8 : Int32} {a9 : Int32} {t0 : Int32} {s : yS} {P : Option Value → yS → Prop}  (h : w_196_171 (Tot d)  a1 a2 a3 a4 a5 a6 a7 a8 a9 t0 s P) : Go d 10 (some .int) xE_196 (xE_196.drop 171) [.ref 213, .int a1, .int a2, .int a3, .int a4, .int a5, .int a6, .int a7, .int a8, .int a9, .null, .null, .null, .null, .null, .null] [.int t0] s P := by
  unfold w_196_171 at h
  refine g_st [.ref 213, .int a1, .int a2, .int a3, .int a4, .int a5, .int a6, .int a7, .int t0, .int a9, .null, .null, .null, .null, .null, .null] rfl rfl rfl ?_
  refine g_ld rfl rfl rfl ?_
  refine g_c [.ref 213, .ref 213] xo_dup rfl rfl ?_
  refine g_get rfl rfl ?_
  change Go _ _ _ _ _ _ [.int (s.1 70), .ref 213] _ _
  refine g_c [.int 2, .int (s.1 70), .ref 213] (xo_push (.int 2)) rfl rfl ?_
  have ex1 := i_sub (x := s.1 70) (y := 2) rfl (show (2 : Int32).toInt = 2 by decide) h.1
  have cx1 := ck_sub (x := s.1 70) (y := 2) rfl (show (2 : Int32).toInt = 2 by decide) h.1
  replace h := h.2 _ ex1
  refine g_ca [.int ((s.1 70) - 2), .ref 213] xo_isub rfl rfl (fun _ => cx1) ?_
  refine g_put rfl rfl rfl ?_
  replace h := h _ rfl
  refine g_ld rfl rfl rfl ?_
  exact g_retI rfl h
def w_196_154 (T : Nat → List Value → yS → (Option Value → yS → Prop) → Prop)  (a1 : Int32) (a2 : Int32) (a3 : Int32) (a4 : Int32) (a5 : Int32) (a6 : Int32) (a7 : Int32) (a8 : Int32) (a9 : Int32) (s : yS) (P : Option Value → yS → Prop) : Prop :=
  (¬ (a8.toInt = 1) → w_196_171 T  a1 a2 a3 a4 a5 a6 a7 a8 a9 a8 s P) ∧ (a8.toInt = 1 → (0 ≤ a1.toInt ∧ a1.toInt < 408) ∧ ((0 ≤ a4.toInt ∧ a4.toInt < 408) ∧ (T 197 [.ref 213, .int (s.2.1 251 a1.toInt.toNat), .int a6, .int (s.2.1 251 a4.toInt.toNat), .int a7] s (fun v2 s1 => ∃ x3, v2 = some (.int x3) ∧ (w_196_171 T  a1 a2 a3 a4 a5 a6 a7 a8 a9 x3 s1 P)))))
set_option maxRecDepth 20000 in
theorem k_196_154 {d : Nat}  {a1 : Int32} {a2 : Int32} {a3 : Int32} {a4 : Int32} {a5 : Int32} {a6 : Int32} {a7 : Int32} {a8 : Int32} {a9 : Int32} {s : yS} {P : Option Value → yS → Prop}  (h : w_196_154 (Tot d)  a1 a2 a3 a4 a5 a6 a7 a8 a9 s P) : Go d 10 (some .int) xE_196 (xE_196.drop 154) [.ref 213, .int a1, .int a2, .int a3, .int a4, .int a5, .int a6, .int a7, .int a8, .int a9, .null, .null, .null, .null, .null, .null] [] s P := by
  unfold w_196_154 at h
  refine g_ld rfl rfl rfl ?_
  refine g_c [.int 1, .int a8] (xo_push (.int 1)) rfl rfl ?_
  refine g_brN rfl rfl ⟨fun hc => ?_, fun hc => ?_⟩
  · replace h := h.1 (fun q => hc ((i_eq (x := a8) (y := 1) rfl (show (1 : Int32).toInt = 1 by decide)).mpr q))
    refine g_ld rfl rfl rfl ?_
    exact k_196_171  h
  · replace h := h.2 ((i_eq (x := a8) (y := 1) rfl (show (1 : Int32).toInt = 1 by decide)).mp hc)
    refine g_ld rfl rfl rfl ?_
    refine g_ld rfl rfl rfl ?_
    refine g_get rfl rfl ?_
    change Go _ _ _ _ _ _ [.ref 251, .ref 213] _ _
    refine g_ld rfl rfl rfl ?_
    refine g_ial rfl rfl (i_in (x := a1) rfl h.1) ?_
    change Go _ _ _ _ _ _ [.int (s.2.1 251 a1.toInt.toNat), .ref 213] _ _
    replace h := h.2
    refine g_ld rfl rfl rfl ?_
    refine g_ld rfl rfl rfl ?_
    refine g_get rfl rfl ?_
    change Go _ _ _ _ _ _ [.ref 251, .int a6, .int (s.2.1 251 a1.toInt.toNat), .ref 213] _ _
    refine g_ld rfl rfl rfl ?_
    refine g_ial rfl rfl (i_in (x := a4) rfl h.1) ?_
    change Go _ _ _ _ _ _ [.int (s.2.1 251 a4.toInt.toNat), .int a6, .int (s.2.1 251 a1.toInt.toNat), .ref 213] _ _
    replace h := h.2
    refine g_ld rfl rfl rfl ?_
    refine g_call [.ref 213, .int (s.2.1 251 a1.toInt.toNat), .int a6, .int (s.2.1 251 a4.toInt.toNat), .int a7] [] rfl rfl rfl (Tot.imp h (fun v2 s1 h => ?_))
    obtain ⟨x3, rfl, h⟩ := h
    change Go _ _ _ _ _ _ [.int x3] _ _
    refine g_go rfl ?_
    exact k_196_171  h
def w_196_122 (T : Nat → List Value → yS → (Option Value → yS → Prop) → Prop) (R122 : Int32 → Int32 → Int32 → Int32 → Int32 → Int32 → Int32 → Int32 → Int32 → yS → Prop) (a1 : Int32) (a2 : Int32) (a3 : Int32) (a4 : Int32) (a5 : Int32) (a6 : Int32) (a7 : Int32) (a8 : Int32) (a9 : Int32) (s : yS) (P : Option Value → yS → Prop) : Prop :=
  (0 ≤ a1.toInt ∧ a1.toInt < 408) ∧ (((s.2.1 248 a1.toInt.toNat).toInt ≤ a9.toInt → w_196_154 T  a1 a2 a3 a4 a5 a6 a7 a8 a9  s P) ∧ (¬ ((s.2.1 248 a1.toInt.toNat).toInt ≤ a9.toInt) → (¬ (a8.toInt = 1) → w_196_154 T  a1 a2 a3 a4 a5 a6 a7 a8 a9  s P) ∧ (a8.toInt = 1 → (-2147483648 ≤ 6 * a1.toInt ∧ 6 * a1.toInt ≤ 2147483647) ∧ (∀ x1 : Int32, x1.toInt = 6 * a1.toInt → (-2147483648 ≤ x1.toInt + a9.toInt ∧ x1.toInt + a9.toInt ≤ 2147483647) ∧ (∀ x2 : Int32, x2.toInt = x1.toInt + a9.toInt → (0 ≤ x2.toInt ∧ x2.toInt < 2448) ∧ ((-2147483648 ≤ 6 * a4.toInt ∧ 6 * a4.toInt ≤ 2147483647) ∧ (∀ x3 : Int32, x3.toInt = 6 * a4.toInt → (-2147483648 ≤ x3.toInt + a9.toInt ∧ x3.toInt + a9.toInt ≤ 2147483647) ∧ (∀ x4 : Int32, x4.toInt = x3.toInt + a9.toInt → (0 ≤ x4.toInt ∧ x4.toInt < 2448) ∧ (T 197 [.ref 213, .int (s.2.1 250 x2.toInt.toNat), .int a6, .int (s.2.1 250 x4.toInt.toNat), .int a7] s (fun v6 s5 => ∃ x7, v6 = some (.int x7) ∧ ((-2147483648 ≤ a9.toInt + 1 ∧ a9.toInt + 1 ≤ 2147483647) ∧ (∀ x8 : Int32, x8.toInt = a9.toInt + 1 → R122 a1 a2 a3 a4 a5 a6 a7 x7 x8  s5))))))))))))
set_option maxRecDepth 20000 in
theorem k_196_122 {d : Nat} {R122 : Int32 → Int32 → Int32 → Int32 → Int32 → Int32 → Int32 → Int32 → Int32 → yS → Prop} {a1 : Int32} {a2 : Int32} {a3 : Int32} {a4 : Int32} {a5 : Int32} {a6 : Int32} {a7 : Int32} {a8 : Int32} {a9 : Int32} {s : yS} {P : Option Value → yS → Prop} (r122 : ∀ a1 a2 a3 a4 a5 a6 a7 a8 a9 s, R122 a1 a2 a3 a4 a5 a6 a7 a8 a9 s → Go d 10 (some .int) xE_196 (xE_196.drop 122) [.ref 213, .int a1, .int a2, .int a3, .int a4, .int a5, .int a6, .int a7, .int a8, .int a9, .null, .null, .null, .null, .null, .null] [] s P) (h : w_196_122 (Tot d) R122 a1 a2 a3 a4 a5 a6 a7 a8 a9 s P) : Go d 10 (some .int) xE_196 (xE_196.drop 122) [.ref 213, .int a1, .int a2, .int a3, .int a4, .int a5, .int a6, .int a7, .int a8, .int a9, .null, .null, .null, .null, .null, .null] [] s P := by
  unfold w_196_122 at h
  refine g_ld rfl rfl rfl ?_
  refine g_ld rfl rfl rfl ?_
  refine g_get rfl rfl ?_
  change Go _ _ _ _ _ _ [.ref 248, .int a9] _ _
  refine g_ld rfl rfl rfl ?_
  refine g_ial rfl rfl (i_in (x := a1) rfl h.1) ?_
  change Go _ _ _ _ _ _ [.int (s.2.1 248 a1.toInt.toNat), .int a9] _ _
  replace h := h.2
  refine g_brP rfl rfl ⟨fun hc => ?_, fun hc => ?_⟩
  · replace h := h.1 ((i_le (x := s.2.1 248 a1.toInt.toNat) (y := a9) rfl rfl).mp hc)
    exact k_196_154  h
  · replace h := h.2 (fun q => hc ((i_le (x := s.2.1 248 a1.toInt.toNat) (y := a9) rfl rfl).mpr q))
    refine g_ld rfl rfl rfl ?_
    refine g_c [.int 1, .int a8] (xo_push (.int 1)) rfl rfl ?_
    refine g_brN rfl rfl ⟨fun hc => ?_, fun hc => ?_⟩
    · replace h := h.1 (fun q => hc ((i_eq (x := a8) (y := 1) rfl (show (1 : Int32).toInt = 1 by decide)).mpr q))
      exact k_196_154  h
    · replace h := h.2 ((i_eq (x := a8) (y := 1) rfl (show (1 : Int32).toInt = 1 by decide)).mp hc)
      refine g_ld rfl rfl rfl ?_
      refine g_ld rfl rfl rfl ?_
      refine g_get rfl rfl ?_
      change Go _ _ _ _ _ _ [.ref 250, .ref 213] _ _
      refine g_c [.int 6, .ref 250, .ref 213] (xo_push (.int 6)) rfl rfl ?_
      refine g_ld rfl rfl rfl ?_
      have ex1 := i_mul (x := 6) (y := a1) (show (6 : Int32).toInt = 6 by decide) rfl h.1
      have cx1 := ck_mul (x := 6) (y := a1) (show (6 : Int32).toInt = 6 by decide) rfl h.1
      replace h := h.2 _ ex1
      refine g_ca [.int (6 * a1), .ref 250, .ref 213] xo_imul rfl rfl (fun _ => cx1) ?_
      refine g_ld rfl rfl rfl ?_
      have ex2 := i_add (x := (6 * a1)) (y := a9) rfl rfl h.1
      have cx2 := ck_add (x := (6 * a1)) (y := a9) rfl rfl h.1
      replace h := h.2 _ ex2
      refine g_ca [.int ((6 * a1) + a9), .ref 250, .ref 213] xo_iadd rfl rfl (fun _ => cx2) ?_
      refine g_ial rfl rfl (i_in (x := ((6 * a1) + a9)) rfl h.1) ?_
      change Go _ _ _ _ _ _ [.int (s.2.1 250 ((6 * a1) + a9).toInt.toNat), .ref 213] _ _
      replace h := h.2
      refine g_ld rfl rfl rfl ?_
      refine g_ld rfl rfl rfl ?_
      refine g_get rfl rfl ?_
      change Go _ _ _ _ _ _ [.ref 250, .int a6, .int (s.2.1 250 ((6 * a1) + a9).toInt.toNat), .ref 213] _ _
      refine g_c [.int 6, .ref 250, .int a6, .int (s.2.1 250 ((6 * a1) + a9).toInt.toNat), .ref 213] (xo_push (.int 6)) rfl rfl ?_
      refine g_ld rfl rfl rfl ?_
      have ex3 := i_mul (x := 6) (y := a4) (show (6 : Int32).toInt = 6 by decide) rfl h.1
      have cx3 := ck_mul (x := 6) (y := a4) (show (6 : Int32).toInt = 6 by decide) rfl h.1
      replace h := h.2 _ ex3
      refine g_ca [.int (6 * a4), .ref 250, .int a6, .int (s.2.1 250 ((6 * a1) + a9).toInt.toNat), .ref 213] xo_imul rfl rfl (fun _ => cx3) ?_
      refine g_ld rfl rfl rfl ?_
      have ex4 := i_add (x := (6 * a4)) (y := a9) rfl rfl h.1
      have cx4 := ck_add (x := (6 * a4)) (y := a9) rfl rfl h.1
      replace h := h.2 _ ex4
      refine g_ca [.int ((6 * a4) + a9), .ref 250, .int a6, .int (s.2.1 250 ((6 * a1) + a9).toInt.toNat), .ref 213] xo_iadd rfl rfl (fun _ => cx4) ?_
      refine g_ial rfl rfl (i_in (x := ((6 * a4) + a9)) rfl h.1) ?_
      change Go _ _ _ _ _ _ [.int (s.2.1 250 ((6 * a4) + a9).toInt.toNat), .int a6, .int (s.2.1 250 ((6 * a1) + a9).toInt.toNat), .ref 213] _ _
      replace h := h.2
      refine g_ld rfl rfl rfl ?_
      refine g_call [.ref 213, .int (s.2.1 250 ((6 * a1) + a9).toInt.toNat), .int a6, .int (s.2.1 250 ((6 * a4) + a9).toInt.toNat), .int a7] [] rfl rfl rfl (Tot.imp h (fun v6 s5 h => ?_))
      obtain ⟨x7, rfl, h⟩ := h
      change Go _ _ _ _ _ _ [.int x7] _ _
      refine g_st [.ref 213, .int a1, .int a2, .int a3, .int a4, .int a5, .int a6, .int a7, .int x7, .int a9, .null, .null, .null, .null, .null, .null] rfl rfl rfl ?_
      have ex8 := i_add (x := a9) (y := 1) rfl (show (1 : Int32).toInt = 1 by decide) h.1
      have cx8 := ck_inc (x := a9) (n := 1) rfl h.1
      replace h := h.2 _ ex8
      refine g_inc [.ref 213, .int a1, .int a2, .int a3, .int a4, .int a5, .int a6, .int a7, .int x7, .int (a9 + 1), .null, .null, .null, .null, .null, .null] rfl rfl rfl rfl cx8 ?_
      refine g_go rfl ?_
      exact r122 a1 a2 a3 a4 a5 a6 a7 x7 (a9 + 1)  s5 h
def wl_196_122 (T : Nat → List Value → yS → (Option Value → yS → Prop) → Prop)  (a1 : Int32) (a2 : Int32) (a3 : Int32) (a4 : Int32) (a5 : Int32) (a6 : Int32) (a7 : Int32) (a8 : Int32) (a9 : Int32) (s : yS) (P : Option Value → yS → Prop) : Prop :=
  ∃ (I : Int32 → Int32 → Int32 → Int32 → Int32 → Int32 → Int32 → Int32 → Int32 → yS → Prop) (μ : Int32 → Int32 → Int32 → Int32 → Int32 → Int32 → Int32 → Int32 → Int32 → yS → Nat), I a1 a2 a3 a4 a5 a6 a7 a8 a9 s ∧ ∀ (a1 : Int32) (a2 : Int32) (a3 : Int32) (a4 : Int32) (a5 : Int32) (a6 : Int32) (a7 : Int32) (a8 : Int32) (a9 : Int32) (s : yS), I a1 a2 a3 a4 a5 a6 a7 a8 a9 s → w_196_122 T (fun a1' a2' a3' a4' a5' a6' a7' a8' a9' s' => I a1' a2' a3' a4' a5' a6' a7' a8' a9' s' ∧ μ a1' a2' a3' a4' a5' a6' a7' a8' a9' s' < μ a1 a2 a3 a4 a5 a6 a7 a8 a9 s) a1 a2 a3 a4 a5 a6 a7 a8 a9 s P
theorem kl_196_122 {d : Nat}  {a1 : Int32} {a2 : Int32} {a3 : Int32} {a4 : Int32} {a5 : Int32} {a6 : Int32} {a7 : Int32} {a8 : Int32} {a9 : Int32} {s : yS} {P : Option Value → yS → Prop}  (h : wl_196_122 (Tot d)  a1 a2 a3 a4 a5 a6 a7 a8 a9 s P) : Go d 10 (some .int) xE_196 (xE_196.drop 122) [.ref 213, .int a1, .int a2, .int a3, .int a4, .int a5, .int a6, .int a7, .int a8, .int a9, .null, .null, .null, .null, .null, .null] [] s P := by
  obtain ⟨I, μ, h0, h1⟩ := h
  have key : ∀ (n : Nat) (a1 : Int32) (a2 : Int32) (a3 : Int32) (a4 : Int32) (a5 : Int32) (a6 : Int32) (a7 : Int32) (a8 : Int32) (a9 : Int32) (s : yS), μ a1 a2 a3 a4 a5 a6 a7 a8 a9 s = n → I a1 a2 a3 a4 a5 a6 a7 a8 a9 s → Go d 10 (some .int) xE_196 (xE_196.drop 122) [.ref 213, .int a1, .int a2, .int a3, .int a4, .int a5, .int a6, .int a7, .int a8, .int a9, .null, .null, .null, .null, .null, .null] [] s P := by
    intro n
    induction n using Nat.strongRecOn with
    | ind n ih =>
      intro a1 a2 a3 a4 a5 a6 a7 a8 a9 s e hI
      exact k_196_122 (fun a1' a2' a3' a4' a5' a6' a7' a8' a9' s' q => ih _ (by rw [← e]; exact q.2) _ _ _ _ _ _ _ _ _ _ rfl q.1) (h1 a1 a2 a3 a4 a5 a6 a7 a8 a9 s hI)
  exact key _ a1 a2 a3 a4 a5 a6 a7 a8 a9 s rfl h0
def w_196_119 (T : Nat → List Value → yS → (Option Value → yS → Prop) → Prop)  (a1 : Int32) (a2 : Int32) (a3 : Int32) (a4 : Int32) (a5 : Int32) (a6 : Int32) (a7 : Int32) (a8 : Int32) (a9 : Int32) (t0 : Int32) (s : yS) (P : Option Value → yS → Prop) : Prop :=
  wl_196_122 T  a1 a2 a3 a4 a5 a6 a7 t0 0  s P
set_option maxRecDepth 20000 in
theorem k_196_119 {d : Nat}  {a1 : Int32} {a2 : Int32} {a3 : Int32} {a4 : Int32} {a5 : Int32} {a6 : Int32} {a7 : Int32} {a8 : Int32} {a9 : Int32} {t0 : Int32} {s : yS} {P : Option Value → yS → Prop}  (h : w_196_119 (Tot d)  a1 a2 a3 a4 a5 a6 a7 a8 a9 t0 s P) : Go d 10 (some .int) xE_196 (xE_196.drop 119) [.ref 213, .int a1, .int a2, .int a3, .int a4, .int a5, .int a6, .int a7, .int a8, .int a9, .null, .null, .null, .null, .null, .null] [.int t0] s P := by
  unfold w_196_119 at h
  refine g_st [.ref 213, .int a1, .int a2, .int a3, .int a4, .int a5, .int a6, .int a7, .int t0, .int a9, .null, .null, .null, .null, .null, .null] rfl rfl rfl ?_
  refine g_c [.int 0] (xo_push (.int 0)) rfl rfl ?_
  refine g_st [.ref 213, .int a1, .int a2, .int a3, .int a4, .int a5, .int a6, .int a7, .int t0, .int 0, .null, .null, .null, .null, .null, .null] rfl rfl rfl ?_
  exact kl_196_122  h
def w_196_118 (T : Nat → List Value → yS → (Option Value → yS → Prop) → Prop)  (a1 : Int32) (a2 : Int32) (a3 : Int32) (a4 : Int32) (a5 : Int32) (a6 : Int32) (a7 : Int32) (a8 : Int32) (a9 : Int32) (s : yS) (P : Option Value → yS → Prop) : Prop :=
  w_196_119 T  a1 a2 a3 a4 a5 a6 a7 a8 a9 a8 s P
set_option maxRecDepth 20000 in
theorem k_196_118 {d : Nat}  {a1 : Int32} {a2 : Int32} {a3 : Int32} {a4 : Int32} {a5 : Int32} {a6 : Int32} {a7 : Int32} {a8 : Int32} {a9 : Int32} {s : yS} {P : Option Value → yS → Prop}  (h : w_196_118 (Tot d)  a1 a2 a3 a4 a5 a6 a7 a8 a9 s P) : Go d 10 (some .int) xE_196 (xE_196.drop 118) [.ref 213, .int a1, .int a2, .int a3, .int a4, .int a5, .int a6, .int a7, .int a8, .int a9, .null, .null, .null, .null, .null, .null] [] s P := by
  unfold w_196_118 at h
  refine g_ld rfl rfl rfl ?_
  exact k_196_119  h
def w_196_104 (T : Nat → List Value → yS → (Option Value → yS → Prop) → Prop)  (a1 : Int32) (a2 : Int32) (a3 : Int32) (a4 : Int32) (a5 : Int32) (a6 : Int32) (a7 : Int32) (a8 : Int32) (a9 : Int32) (s : yS) (P : Option Value → yS → Prop) : Prop :=
  (¬ (a8.toInt = 1) → w_196_118 T  a1 a2 a3 a4 a5 a6 a7 a8 a9  s P) ∧ (a8.toInt = 1 → (0 ≤ a1.toInt ∧ a1.toInt < 408) ∧ ((0 ≤ a4.toInt ∧ a4.toInt < 408) ∧ (((s.2.1 248 a1.toInt.toNat).toInt = (s.2.1 248 a4.toInt.toNat).toInt → w_196_118 T  a1 a2 a3 a4 a5 a6 a7 a8 a9  s P) ∧ (¬ ((s.2.1 248 a1.toInt.toNat).toInt = (s.2.1 248 a4.toInt.toNat).toInt) → w_196_119 T  a1 a2 a3 a4 a5 a6 a7 a8 a9 0 s P))))
set_option maxRecDepth 20000 in
theorem k_196_104 {d : Nat}  {a1 : Int32} {a2 : Int32} {a3 : Int32} {a4 : Int32} {a5 : Int32} {a6 : Int32} {a7 : Int32} {a8 : Int32} {a9 : Int32} {s : yS} {P : Option Value → yS → Prop}  (h : w_196_104 (Tot d)  a1 a2 a3 a4 a5 a6 a7 a8 a9 s P) : Go d 10 (some .int) xE_196 (xE_196.drop 104) [.ref 213, .int a1, .int a2, .int a3, .int a4, .int a5, .int a6, .int a7, .int a8, .int a9, .null, .null, .null, .null, .null, .null] [] s P := by
  unfold w_196_104 at h
  refine g_ld rfl rfl rfl ?_
  refine g_c [.int 1, .int a8] (xo_push (.int 1)) rfl rfl ?_
  refine g_brN rfl rfl ⟨fun hc => ?_, fun hc => ?_⟩
  · replace h := h.1 (fun q => hc ((i_eq (x := a8) (y := 1) rfl (show (1 : Int32).toInt = 1 by decide)).mpr q))
    exact k_196_118  h
  · replace h := h.2 ((i_eq (x := a8) (y := 1) rfl (show (1 : Int32).toInt = 1 by decide)).mp hc)
    refine g_ld rfl rfl rfl ?_
    refine g_get rfl rfl ?_
    change Go _ _ _ _ _ _ [.ref 248] _ _
    refine g_ld rfl rfl rfl ?_
    refine g_ial rfl rfl (i_in (x := a1) rfl h.1) ?_
    change Go _ _ _ _ _ _ [.int (s.2.1 248 a1.toInt.toNat)] _ _
    replace h := h.2
    refine g_ld rfl rfl rfl ?_
    refine g_get rfl rfl ?_
    change Go _ _ _ _ _ _ [.ref 248, .int (s.2.1 248 a1.toInt.toNat)] _ _
    refine g_ld rfl rfl rfl ?_
    refine g_ial rfl rfl (i_in (x := a4) rfl h.1) ?_
    change Go _ _ _ _ _ _ [.int (s.2.1 248 a4.toInt.toNat), .int (s.2.1 248 a1.toInt.toNat)] _ _
    replace h := h.2
    refine g_brP rfl rfl ⟨fun hc => ?_, fun hc => ?_⟩
    · replace h := h.1 ((i_eq (x := s.2.1 248 a1.toInt.toNat) (y := s.2.1 248 a4.toInt.toNat) rfl rfl).mp hc)
      exact k_196_118  h
    · replace h := h.2 (fun q => hc ((i_eq (x := s.2.1 248 a1.toInt.toNat) (y := s.2.1 248 a4.toInt.toNat) rfl rfl).mpr q))
      refine g_c [.int 0] (xo_push (.int 0)) rfl rfl ?_
      refine g_go rfl ?_
      exact k_196_119  h
def w_196_72 (T : Nat → List Value → yS → (Option Value → yS → Prop) → Prop) (R72 : Int32 → Int32 → Int32 → Int32 → Int32 → Int32 → Int32 → Int32 → Int32 → yS → Prop) (a1 : Int32) (a2 : Int32) (a3 : Int32) (a4 : Int32) (a5 : Int32) (a6 : Int32) (a7 : Int32) (a8 : Int32) (a9 : Int32) (s : yS) (P : Option Value → yS → Prop) : Prop :=
  (0 ≤ a1.toInt ∧ a1.toInt < 408) ∧ (((s.2.1 245 a1.toInt.toNat).toInt ≤ a9.toInt → w_196_104 T  a1 a2 a3 a4 a5 a6 a7 a8 a9  s P) ∧ (¬ ((s.2.1 245 a1.toInt.toNat).toInt ≤ a9.toInt) → (¬ (a8.toInt = 1) → w_196_104 T  a1 a2 a3 a4 a5 a6 a7 a8 a9  s P) ∧ (a8.toInt = 1 → (-2147483648 ≤ 6 * a1.toInt ∧ 6 * a1.toInt ≤ 2147483647) ∧ (∀ x1 : Int32, x1.toInt = 6 * a1.toInt → (-2147483648 ≤ x1.toInt + a9.toInt ∧ x1.toInt + a9.toInt ≤ 2147483647) ∧ (∀ x2 : Int32, x2.toInt = x1.toInt + a9.toInt → (0 ≤ x2.toInt ∧ x2.toInt < 2448) ∧ ((-2147483648 ≤ 6 * a4.toInt ∧ 6 * a4.toInt ≤ 2147483647) ∧ (∀ x3 : Int32, x3.toInt = 6 * a4.toInt → (-2147483648 ≤ x3.toInt + a9.toInt ∧ x3.toInt + a9.toInt ≤ 2147483647) ∧ (∀ x4 : Int32, x4.toInt = x3.toInt + a9.toInt → (0 ≤ x4.toInt ∧ x4.toInt < 2448) ∧ (T 197 [.ref 213, .int (s.2.1 247 x2.toInt.toNat), .int a6, .int (s.2.1 247 x4.toInt.toNat), .int a7] s (fun v6 s5 => ∃ x7, v6 = some (.int x7) ∧ ((-2147483648 ≤ a9.toInt + 1 ∧ a9.toInt + 1 ≤ 2147483647) ∧ (∀ x8 : Int32, x8.toInt = a9.toInt + 1 → R72 a1 a2 a3 a4 a5 a6 a7 x7 x8  s5))))))))))))
set_option maxRecDepth 20000 in
theorem k_196_72 {d : Nat} {R72 : Int32 → Int32 → Int32 → Int32 → Int32 → Int32 → Int32 → Int32 → Int32 → yS → Prop} {a1 : Int32} {a2 : Int32} {a3 : Int32} {a4 : Int32} {a5 : Int32} {a6 : Int32} {a7 : Int32} {a8 : Int32} {a9 : Int32} {s : yS} {P : Option Value → yS → Prop} (r72 : ∀ a1 a2 a3 a4 a5 a6 a7 a8 a9 s, R72 a1 a2 a3 a4 a5 a6 a7 a8 a9 s → Go d 10 (some .int) xE_196 (xE_196.drop 72) [.ref 213, .int a1, .int a2, .int a3, .int a4, .int a5, .int a6, .int a7, .int a8, .int a9, .null, .null, .null, .null, .null, .null] [] s P) (h : w_196_72 (Tot d) R72 a1 a2 a3 a4 a5 a6 a7 a8 a9 s P) : Go d 10 (some .int) xE_196 (xE_196.drop 72) [.ref 213, .int a1, .int a2, .int a3, .int a4, .int a5, .int a6, .int a7, .int a8, .int a9, .null, .null, .null, .null, .null, .null] [] s P := by
  unfold w_196_72 at h
  refine g_ld rfl rfl rfl ?_
  refine g_ld rfl rfl rfl ?_
  refine g_get rfl rfl ?_
  change Go _ _ _ _ _ _ [.ref 245, .int a9] _ _
  refine g_ld rfl rfl rfl ?_
  refine g_ial rfl rfl (i_in (x := a1) rfl h.1) ?_
  change Go _ _ _ _ _ _ [.int (s.2.1 245 a1.toInt.toNat), .int a9] _ _
  replace h := h.2
  refine g_brP rfl rfl ⟨fun hc => ?_, fun hc => ?_⟩
  · replace h := h.1 ((i_le (x := s.2.1 245 a1.toInt.toNat) (y := a9) rfl rfl).mp hc)
    exact k_196_104  h
  · replace h := h.2 (fun q => hc ((i_le (x := s.2.1 245 a1.toInt.toNat) (y := a9) rfl rfl).mpr q))
    refine g_ld rfl rfl rfl ?_
    refine g_c [.int 1, .int a8] (xo_push (.int 1)) rfl rfl ?_
    refine g_brN rfl rfl ⟨fun hc => ?_, fun hc => ?_⟩
    · replace h := h.1 (fun q => hc ((i_eq (x := a8) (y := 1) rfl (show (1 : Int32).toInt = 1 by decide)).mpr q))
      exact k_196_104  h
    · replace h := h.2 ((i_eq (x := a8) (y := 1) rfl (show (1 : Int32).toInt = 1 by decide)).mp hc)
      refine g_ld rfl rfl rfl ?_
      refine g_ld rfl rfl rfl ?_
      refine g_get rfl rfl ?_
      change Go _ _ _ _ _ _ [.ref 247, .ref 213] _ _
      refine g_c [.int 6, .ref 247, .ref 213] (xo_push (.int 6)) rfl rfl ?_
      refine g_ld rfl rfl rfl ?_
      have ex1 := i_mul (x := 6) (y := a1) (show (6 : Int32).toInt = 6 by decide) rfl h.1
      have cx1 := ck_mul (x := 6) (y := a1) (show (6 : Int32).toInt = 6 by decide) rfl h.1
      replace h := h.2 _ ex1
      refine g_ca [.int (6 * a1), .ref 247, .ref 213] xo_imul rfl rfl (fun _ => cx1) ?_
      refine g_ld rfl rfl rfl ?_
      have ex2 := i_add (x := (6 * a1)) (y := a9) rfl rfl h.1
      have cx2 := ck_add (x := (6 * a1)) (y := a9) rfl rfl h.1
      replace h := h.2 _ ex2
      refine g_ca [.int ((6 * a1) + a9), .ref 247, .ref 213] xo_iadd rfl rfl (fun _ => cx2) ?_
      refine g_ial rfl rfl (i_in (x := ((6 * a1) + a9)) rfl h.1) ?_
      change Go _ _ _ _ _ _ [.int (s.2.1 247 ((6 * a1) + a9).toInt.toNat), .ref 213] _ _
      replace h := h.2
      refine g_ld rfl rfl rfl ?_
      refine g_ld rfl rfl rfl ?_
      refine g_get rfl rfl ?_
      change Go _ _ _ _ _ _ [.ref 247, .int a6, .int (s.2.1 247 ((6 * a1) + a9).toInt.toNat), .ref 213] _ _
      refine g_c [.int 6, .ref 247, .int a6, .int (s.2.1 247 ((6 * a1) + a9).toInt.toNat), .ref 213] (xo_push (.int 6)) rfl rfl ?_
      refine g_ld rfl rfl rfl ?_
      have ex3 := i_mul (x := 6) (y := a4) (show (6 : Int32).toInt = 6 by decide) rfl h.1
      have cx3 := ck_mul (x := 6) (y := a4) (show (6 : Int32).toInt = 6 by decide) rfl h.1
      replace h := h.2 _ ex3
      refine g_ca [.int (6 * a4), .ref 247, .int a6, .int (s.2.1 247 ((6 * a1) + a9).toInt.toNat), .ref 213] xo_imul rfl rfl (fun _ => cx3) ?_
      refine g_ld rfl rfl rfl ?_
      have ex4 := i_add (x := (6 * a4)) (y := a9) rfl rfl h.1
      have cx4 := ck_add (x := (6 * a4)) (y := a9) rfl rfl h.1
      replace h := h.2 _ ex4
      refine g_ca [.int ((6 * a4) + a9), .ref 247, .int a6, .int (s.2.1 247 ((6 * a1) + a9).toInt.toNat), .ref 213] xo_iadd rfl rfl (fun _ => cx4) ?_
      refine g_ial rfl rfl (i_in (x := ((6 * a4) + a9)) rfl h.1) ?_
      change Go _ _ _ _ _ _ [.int (s.2.1 247 ((6 * a4) + a9).toInt.toNat), .int a6, .int (s.2.1 247 ((6 * a1) + a9).toInt.toNat), .ref 213] _ _
      replace h := h.2
      refine g_ld rfl rfl rfl ?_
      refine g_call [.ref 213, .int (s.2.1 247 ((6 * a1) + a9).toInt.toNat), .int a6, .int (s.2.1 247 ((6 * a4) + a9).toInt.toNat), .int a7] [] rfl rfl rfl (Tot.imp h (fun v6 s5 h => ?_))
      obtain ⟨x7, rfl, h⟩ := h
      change Go _ _ _ _ _ _ [.int x7] _ _
      refine g_st [.ref 213, .int a1, .int a2, .int a3, .int a4, .int a5, .int a6, .int a7, .int x7, .int a9, .null, .null, .null, .null, .null, .null] rfl rfl rfl ?_
      have ex8 := i_add (x := a9) (y := 1) rfl (show (1 : Int32).toInt = 1 by decide) h.1
      have cx8 := ck_inc (x := a9) (n := 1) rfl h.1
      replace h := h.2 _ ex8
      refine g_inc [.ref 213, .int a1, .int a2, .int a3, .int a4, .int a5, .int a6, .int a7, .int x7, .int (a9 + 1), .null, .null, .null, .null, .null, .null] rfl rfl rfl rfl cx8 ?_
      refine g_go rfl ?_
      exact r72 a1 a2 a3 a4 a5 a6 a7 x7 (a9 + 1)  s5 h
def wl_196_72 (T : Nat → List Value → yS → (Option Value → yS → Prop) → Prop)  (a1 : Int32) (a2 : Int32) (a3 : Int32) (a4 : Int32) (a5 : Int32) (a6 : Int32) (a7 : Int32) (a8 : Int32) (a9 : Int32) (s : yS) (P : Option Value → yS → Prop) : Prop :=
  ∃ (I : Int32 → Int32 → Int32 → Int32 → Int32 → Int32 → Int32 → Int32 → Int32 → yS → Prop) (μ : Int32 → Int32 → Int32 → Int32 → Int32 → Int32 → Int32 → Int32 → Int32 → yS → Nat), I a1 a2 a3 a4 a5 a6 a7 a8 a9 s ∧ ∀ (a1 : Int32) (a2 : Int32) (a3 : Int32) (a4 : Int32) (a5 : Int32) (a6 : Int32) (a7 : Int32) (a8 : Int32) (a9 : Int32) (s : yS), I a1 a2 a3 a4 a5 a6 a7 a8 a9 s → w_196_72 T (fun a1' a2' a3' a4' a5' a6' a7' a8' a9' s' => I a1' a2' a3' a4' a5' a6' a7' a8' a9' s' ∧ μ a1' a2' a3' a4' a5' a6' a7' a8' a9' s' < μ a1 a2 a3 a4 a5 a6 a7 a8 a9 s) a1 a2 a3 a4 a5 a6 a7 a8 a9 s P
theorem kl_196_72 {d : Nat}  {a1 : Int32} {a2 : Int32} {a3 : Int32} {a4 : Int32} {a5 : Int32} {a6 : Int32} {a7 : Int32} {a8 : Int32} {a9 : Int32} {s : yS} {P : Option Value → yS → Prop}  (h : wl_196_72 (Tot d)  a1 a2 a3 a4 a5 a6 a7 a8 a9 s P) : Go d 10 (some .int) xE_196 (xE_196.drop 72) [.ref 213, .int a1, .int a2, .int a3, .int a4, .int a5, .int a6, .int a7, .int a8, .int a9, .null, .null, .null, .null, .null, .null] [] s P := by
  obtain ⟨I, μ, h0, h1⟩ := h
  have key : ∀ (n : Nat) (a1 : Int32) (a2 : Int32) (a3 : Int32) (a4 : Int32) (a5 : Int32) (a6 : Int32) (a7 : Int32) (a8 : Int32) (a9 : Int32) (s : yS), μ a1 a2 a3 a4 a5 a6 a7 a8 a9 s = n → I a1 a2 a3 a4 a5 a6 a7 a8 a9 s → Go d 10 (some .int) xE_196 (xE_196.drop 72) [.ref 213, .int a1, .int a2, .int a3, .int a4, .int a5, .int a6, .int a7, .int a8, .int a9, .null, .null, .null, .null, .null, .null] [] s P := by
    intro n
    induction n using Nat.strongRecOn with
    | ind n ih =>
      intro a1 a2 a3 a4 a5 a6 a7 a8 a9 s e hI
      exact k_196_72 (fun a1' a2' a3' a4' a5' a6' a7' a8' a9' s' q => ih _ (by rw [← e]; exact q.2) _ _ _ _ _ _ _ _ _ _ rfl q.1) (h1 a1 a2 a3 a4 a5 a6 a7 a8 a9 s hI)
  exact key _ a1 a2 a3 a4 a5 a6 a7 a8 a9 s rfl h0
def w_196_0 (T : Nat → List Value → yS → (Option Value → yS → Prop) → Prop)  (a1 : Int32) (a2 : Int32) (a3 : Int32) (a4 : Int32) (a5 : Int32) (s : yS) (P : Option Value → yS → Prop) : Prop :=
  (0 ≤ a1.toInt ∧ a1.toInt < 408) ∧ ((0 ≤ a4.toInt ∧ a4.toInt < 408) ∧ (((s.2.1 245 a1.toInt.toNat).toInt = (s.2.1 245 a4.toInt.toNat).toInt → T 188 [.ref 213] s (fun v2 s1 => ∃ x3, v2 = some (.int x3) ∧ ((-2147483648 ≤ 6 * a3.toInt ∧ 6 * a3.toInt ≤ 2147483647) ∧ (∀ x4 : Int32, x4.toInt = 6 * a3.toInt → (-2147483648 ≤ 1000 + x4.toInt ∧ 1000 + x4.toInt ≤ 2147483647) ∧ (∀ x5 : Int32, x5.toInt = 1000 + x4.toInt → T 189 [.ref 213, .int x3, .int 0, .int x5, .int a2] s1 (fun v7 s6 => v7 = none ∧ ((-2147483648 ≤ 204 * (s6.1 75).toInt ∧ 204 * (s6.1 75).toInt ≤ 2147483647) ∧ (∀ x8 : Int32, x8.toInt = 204 * (s6.1 75).toInt → (-2147483648 ≤ a1.toInt - x8.toInt ∧ a1.toInt - x8.toInt ≤ 2147483647) ∧ (∀ x9 : Int32, x9.toInt = a1.toInt - x8.toInt → (-2147483648 ≤ 6 * x9.toInt ∧ 6 * x9.toInt ≤ 2147483647) ∧ (∀ x10 : Int32, x10.toInt = 6 * x9.toInt → (-2147483648 ≤ 2000 + x10.toInt ∧ 2000 + x10.toInt ≤ 2147483647) ∧ (∀ x11 : Int32, x11.toInt = 2000 + x10.toInt → (0 ≤ a1.toInt ∧ a1.toInt < 408) ∧ (T 190 [.ref 213, .int x3, .int x11, .int (s6.2.1 245 a1.toInt.toNat)] s6 (fun v13 s12 => v13 = none ∧ (T 188 [.ref 213] s12 (fun v15 s14 => ∃ x16, v15 = some (.int x16) ∧ (T 189 [.ref 213, .int x16, .int 0, .int (s14.1 74), .int a5] s14 (fun v18 s17 => v18 = none ∧ ((-2147483648 ≤ 204 * (s17.1 75).toInt ∧ 204 * (s17.1 75).toInt ≤ 2147483647) ∧ (∀ x19 : Int32, x19.toInt = 204 * (s17.1 75).toInt → (-2147483648 ≤ a4.toInt - x19.toInt ∧ a4.toInt - x19.toInt ≤ 2147483647) ∧ (∀ x20 : Int32, x20.toInt = a4.toInt - x19.toInt → (-2147483648 ≤ 6 * x20.toInt ∧ 6 * x20.toInt ≤ 2147483647) ∧ (∀ x21 : Int32, x21.toInt = 6 * x20.toInt → (-2147483648 ≤ 2000 + x21.toInt ∧ 2000 + x21.toInt ≤ 2147483647) ∧ (∀ x22 : Int32, x22.toInt = 2000 + x21.toInt → (0 ≤ a4.toInt ∧ a4.toInt < 408) ∧ (T 190 [.ref 213, .int x16, .int x22, .int (s17.2.1 245 a4.toInt.toNat)] s17 (fun v24 s23 => v24 = none ∧ (wl_196_72 T  a1 a2 a3 a4 a5 x3 x16 1 0  s23 P))))))))))))))))))))))))) ∧ (¬ ((s.2.1 245 a1.toInt.toNat).toInt = (s.2.1 245 a4.toInt.toNat).toInt) → P (some (.int 0)) s)))
set_option maxRecDepth 20000 in
theorem k_196_0 {d : Nat}  {a1 : Int32} {a2 : Int32} {a3 : Int32} {a4 : Int32} {a5 : Int32} {s : yS} {P : Option Value → yS → Prop}  (h : w_196_0 (Tot d)  a1 a2 a3 a4 a5 s P) : Go d 10 (some .int) xE_196 (xE_196.drop 0) [.ref 213, .int a1, .int a2, .int a3, .int a4, .int a5, .null, .null, .null, .null, .null, .null, .null, .null, .null, .null] [] s P := by
  unfold w_196_0 at h
  refine g_ld rfl rfl rfl ?_
  refine g_get rfl rfl ?_
  change Go _ _ _ _ _ _ [.ref 245] _ _
  refine g_ld rfl rfl rfl ?_
  refine g_ial rfl rfl (i_in (x := a1) rfl h.1) ?_
  change Go _ _ _ _ _ _ [.int (s.2.1 245 a1.toInt.toNat)] _ _
  replace h := h.2
  refine g_ld rfl rfl rfl ?_
  refine g_get rfl rfl ?_
  change Go _ _ _ _ _ _ [.ref 245, .int (s.2.1 245 a1.toInt.toNat)] _ _
  refine g_ld rfl rfl rfl ?_
  refine g_ial rfl rfl (i_in (x := a4) rfl h.1) ?_
  change Go _ _ _ _ _ _ [.int (s.2.1 245 a4.toInt.toNat), .int (s.2.1 245 a1.toInt.toNat)] _ _
  replace h := h.2
  refine g_brP rfl rfl ⟨fun hc => ?_, fun hc => ?_⟩
  · replace h := h.1 ((i_eq (x := s.2.1 245 a1.toInt.toNat) (y := s.2.1 245 a4.toInt.toNat) rfl rfl).mp hc)
    refine g_ld rfl rfl rfl ?_
    refine g_call [.ref 213] [] rfl rfl rfl (Tot.imp h (fun v2 s1 h => ?_))
    obtain ⟨x3, rfl, h⟩ := h
    change Go _ _ _ _ _ _ [.int x3] _ _
    refine g_st [.ref 213, .int a1, .int a2, .int a3, .int a4, .int a5, .int x3, .null, .null, .null, .null, .null, .null, .null, .null, .null] rfl rfl rfl ?_
    refine g_ld rfl rfl rfl ?_
    refine g_ld rfl rfl rfl ?_
    refine g_c [.int 0, .int x3, .ref 213] (xo_push (.int 0)) rfl rfl ?_
    refine g_c [.int 1000, .int 0, .int x3, .ref 213] (xo_push (.int 1000)) rfl rfl ?_
    refine g_c [.int 6, .int 1000, .int 0, .int x3, .ref 213] (xo_push (.int 6)) rfl rfl ?_
    refine g_ld rfl rfl rfl ?_
    have ex4 := i_mul (x := 6) (y := a3) (show (6 : Int32).toInt = 6 by decide) rfl h.1
    have cx4 := ck_mul (x := 6) (y := a3) (show (6 : Int32).toInt = 6 by decide) rfl h.1
    replace h := h.2 _ ex4
    refine g_ca [.int (6 * a3), .int 1000, .int 0, .int x3, .ref 213] xo_imul rfl rfl (fun _ => cx4) ?_
    have ex5 := i_add (x := 1000) (y := (6 * a3)) (show (1000 : Int32).toInt = 1000 by decide) rfl h.1
    have cx5 := ck_add (x := 1000) (y := (6 * a3)) (show (1000 : Int32).toInt = 1000 by decide) rfl h.1
    replace h := h.2 _ ex5
    refine g_ca [.int (1000 + (6 * a3)), .int 0, .int x3, .ref 213] xo_iadd rfl rfl (fun _ => cx5) ?_
    refine g_ld rfl rfl rfl ?_
    refine g_call [.ref 213, .int x3, .int 0, .int (1000 + (6 * a3)), .int a2] [] rfl rfl rfl (Tot.imp h (fun v7 s6 h => ?_))
    obtain ⟨rfl, h⟩ := h
    change Go _ _ _ _ _ _ [] _ _
    refine g_ld rfl rfl rfl ?_
    refine g_ld rfl rfl rfl ?_
    refine g_c [.int 2000, .int x3, .ref 213] (xo_push (.int 2000)) rfl rfl ?_
    refine g_c [.int 6, .int 2000, .int x3, .ref 213] (xo_push (.int 6)) rfl rfl ?_
    refine g_ld rfl rfl rfl ?_
    refine g_c [.int 204, .int a1, .int 6, .int 2000, .int x3, .ref 213] (xo_push (.int 204)) rfl rfl ?_
    refine g_ld rfl rfl rfl ?_
    refine g_get rfl rfl ?_
    change Go _ _ _ _ _ _ [.int (s6.1 75), .int 204, .int a1, .int 6, .int 2000, .int x3, .ref 213] _ _
    have ex8 := i_mul (x := 204) (y := s6.1 75) (show (204 : Int32).toInt = 204 by decide) rfl h.1
    have cx8 := ck_mul (x := 204) (y := s6.1 75) (show (204 : Int32).toInt = 204 by decide) rfl h.1
    replace h := h.2 _ ex8
    refine g_ca [.int (204 * (s6.1 75)), .int a1, .int 6, .int 2000, .int x3, .ref 213] xo_imul rfl rfl (fun _ => cx8) ?_
    have ex9 := i_sub (x := a1) (y := (204 * (s6.1 75))) rfl rfl h.1
    have cx9 := ck_sub (x := a1) (y := (204 * (s6.1 75))) rfl rfl h.1
    replace h := h.2 _ ex9
    refine g_ca [.int (a1 - (204 * (s6.1 75))), .int 6, .int 2000, .int x3, .ref 213] xo_isub rfl rfl (fun _ => cx9) ?_
    have ex10 := i_mul (x := 6) (y := (a1 - (204 * (s6.1 75)))) (show (6 : Int32).toInt = 6 by decide) rfl h.1
    have cx10 := ck_mul (x := 6) (y := (a1 - (204 * (s6.1 75)))) (show (6 : Int32).toInt = 6 by decide) rfl h.1
    replace h := h.2 _ ex10
    refine g_ca [.int (6 * (a1 - (204 * (s6.1 75)))), .int 2000, .int x3, .ref 213] xo_imul rfl rfl (fun _ => cx10) ?_
    have ex11 := i_add (x := 2000) (y := (6 * (a1 - (204 * (s6.1 75))))) (show (2000 : Int32).toInt = 2000 by decide) rfl h.1
    have cx11 := ck_add (x := 2000) (y := (6 * (a1 - (204 * (s6.1 75))))) (show (2000 : Int32).toInt = 2000 by decide) rfl h.1
    replace h := h.2 _ ex11
    refine g_ca [.int (2000 + (6 * (a1 - (204 * (s6.1 75))))), .int x3, .ref 213] xo_iadd rfl rfl (fun _ => cx11) ?_
    refine g_ld rfl rfl rfl ?_
    refine g_get rfl rfl ?_
    change Go _ _ _ _ _ _ [.ref 245, .int (2000 + (6 * (a1 - (204 * (s6.1 75))))), .int x3, .ref 213] _ _
    refine g_ld rfl rfl rfl ?_
    refine g_ial rfl rfl (i_in (x := a1) rfl h.1) ?_
    change Go _ _ _ _ _ _ [.int (s6.2.1 245 a1.toInt.toNat), .int (2000 + (6 * (a1 - (204 * (s6.1 75))))), .int x3, .ref 213] _ _
    replace h := h.2
    refine g_call [.ref 213, .int x3, .int (2000 + (6 * (a1 - (204 * (s6.1 75))))), .int (s6.2.1 245 a1.toInt.toNat)] [] rfl rfl rfl (Tot.imp h (fun v13 s12 h => ?_))
    obtain ⟨rfl, h⟩ := h
    change Go _ _ _ _ _ _ [] _ _
    refine g_ld rfl rfl rfl ?_
    refine g_call [.ref 213] [] rfl rfl rfl (Tot.imp h (fun v15 s14 h => ?_))
    obtain ⟨x16, rfl, h⟩ := h
    change Go _ _ _ _ _ _ [.int x16] _ _
    refine g_st [.ref 213, .int a1, .int a2, .int a3, .int a4, .int a5, .int x3, .int x16, .null, .null, .null, .null, .null, .null, .null, .null] rfl rfl rfl ?_
    refine g_ld rfl rfl rfl ?_
    refine g_ld rfl rfl rfl ?_
    refine g_c [.int 0, .int x16, .ref 213] (xo_push (.int 0)) rfl rfl ?_
    refine g_ld rfl rfl rfl ?_
    refine g_get rfl rfl ?_
    change Go _ _ _ _ _ _ [.int (s14.1 74), .int 0, .int x16, .ref 213] _ _
    refine g_ld rfl rfl rfl ?_
    refine g_call [.ref 213, .int x16, .int 0, .int (s14.1 74), .int a5] [] rfl rfl rfl (Tot.imp h (fun v18 s17 h => ?_))
    obtain ⟨rfl, h⟩ := h
    change Go _ _ _ _ _ _ [] _ _
    refine g_ld rfl rfl rfl ?_
    refine g_ld rfl rfl rfl ?_
    refine g_c [.int 2000, .int x16, .ref 213] (xo_push (.int 2000)) rfl rfl ?_
    refine g_c [.int 6, .int 2000, .int x16, .ref 213] (xo_push (.int 6)) rfl rfl ?_
    refine g_ld rfl rfl rfl ?_
    refine g_c [.int 204, .int a4, .int 6, .int 2000, .int x16, .ref 213] (xo_push (.int 204)) rfl rfl ?_
    refine g_ld rfl rfl rfl ?_
    refine g_get rfl rfl ?_
    change Go _ _ _ _ _ _ [.int (s17.1 75), .int 204, .int a4, .int 6, .int 2000, .int x16, .ref 213] _ _
    have ex19 := i_mul (x := 204) (y := s17.1 75) (show (204 : Int32).toInt = 204 by decide) rfl h.1
    have cx19 := ck_mul (x := 204) (y := s17.1 75) (show (204 : Int32).toInt = 204 by decide) rfl h.1
    replace h := h.2 _ ex19
    refine g_ca [.int (204 * (s17.1 75)), .int a4, .int 6, .int 2000, .int x16, .ref 213] xo_imul rfl rfl (fun _ => cx19) ?_
    have ex20 := i_sub (x := a4) (y := (204 * (s17.1 75))) rfl rfl h.1
    have cx20 := ck_sub (x := a4) (y := (204 * (s17.1 75))) rfl rfl h.1
    replace h := h.2 _ ex20
    refine g_ca [.int (a4 - (204 * (s17.1 75))), .int 6, .int 2000, .int x16, .ref 213] xo_isub rfl rfl (fun _ => cx20) ?_
    have ex21 := i_mul (x := 6) (y := (a4 - (204 * (s17.1 75)))) (show (6 : Int32).toInt = 6 by decide) rfl h.1
    have cx21 := ck_mul (x := 6) (y := (a4 - (204 * (s17.1 75)))) (show (6 : Int32).toInt = 6 by decide) rfl h.1
    replace h := h.2 _ ex21
    refine g_ca [.int (6 * (a4 - (204 * (s17.1 75)))), .int 2000, .int x16, .ref 213] xo_imul rfl rfl (fun _ => cx21) ?_
    have ex22 := i_add (x := 2000) (y := (6 * (a4 - (204 * (s17.1 75))))) (show (2000 : Int32).toInt = 2000 by decide) rfl h.1
    have cx22 := ck_add (x := 2000) (y := (6 * (a4 - (204 * (s17.1 75))))) (show (2000 : Int32).toInt = 2000 by decide) rfl h.1
    replace h := h.2 _ ex22
    refine g_ca [.int (2000 + (6 * (a4 - (204 * (s17.1 75))))), .int x16, .ref 213] xo_iadd rfl rfl (fun _ => cx22) ?_
    refine g_ld rfl rfl rfl ?_
    refine g_get rfl rfl ?_
    change Go _ _ _ _ _ _ [.ref 245, .int (2000 + (6 * (a4 - (204 * (s17.1 75))))), .int x16, .ref 213] _ _
    refine g_ld rfl rfl rfl ?_
    refine g_ial rfl rfl (i_in (x := a4) rfl h.1) ?_
    change Go _ _ _ _ _ _ [.int (s17.2.1 245 a4.toInt.toNat), .int (2000 + (6 * (a4 - (204 * (s17.1 75))))), .int x16, .ref 213] _ _
    replace h := h.2
    refine g_call [.ref 213, .int x16, .int (2000 + (6 * (a4 - (204 * (s17.1 75))))), .int (s17.2.1 245 a4.toInt.toNat)] [] rfl rfl rfl (Tot.imp h (fun v24 s23 h => ?_))
    obtain ⟨rfl, h⟩ := h
    change Go _ _ _ _ _ _ [] _ _
    refine g_c [.int 1] (xo_push (.int 1)) rfl rfl ?_
    refine g_st [.ref 213, .int a1, .int a2, .int a3, .int a4, .int a5, .int x3, .int x16, .int 1, .null, .null, .null, .null, .null, .null, .null] rfl rfl rfl ?_
    refine g_c [.int 0] (xo_push (.int 0)) rfl rfl ?_
    refine g_st [.ref 213, .int a1, .int a2, .int a3, .int a4, .int a5, .int x3, .int x16, .int 1, .int 0, .null, .null, .null, .null, .null, .null] rfl rfl rfl ?_
    exact kl_196_72  h
  · replace h := h.2 (fun q => hc ((i_eq (x := s.2.1 245 a1.toInt.toNat) (y := s.2.1 245 a4.toInt.toNat) rfl rfl).mpr q))
    refine g_c [.int 0] (xo_push (.int 0)) rfl rfl ?_
    exact g_retI rfl h
theorem t_196 {d : Nat} {a1 : Int32} {a2 : Int32} {a3 : Int32} {a4 : Int32} {a5 : Int32} {s : yS} {P : Option Value → yS → Prop} (h : w_196_0 (Tot d) a1 a2 a3 a4 a5 s P) : Tot (d + 1) 196 [.ref 213, .int a1, .int a2, .int a3, .int a4, .int a5] s P := tot_of (E := xE_196) (ml := 10) (ret := some .int) rfl rfl rfl (k_196_0 h)
