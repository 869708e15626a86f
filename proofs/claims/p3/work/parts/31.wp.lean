/-! feed -/
def w_154_0 (T : Nat → List Value → yS → (Option Value → yS → Prop) → Prop)  (a1 : Int64) (a3 : Int64) (a5 : Int64) (s : yS) (P : Option Value → yS → Prop) : Prop :=
  ∀ s1, s1 = sf s 0 0 → T 155 [.ref 213, .long a1] s1 (fun v3 s2 => v3 = none ∧ (T 155 [.ref 213, .long a3] s2 (fun v5 s4 => v5 = none ∧ (T 155 [.ref 213, .long a5] s4 (fun v7 s6 => v7 = none ∧ (P (some (.int (s6.1 2))) s6))))))
set_option maxRecDepth 20000 in
theorem k_154_0 {d : Nat}  {a1 : Int64} {a3 : Int64} {a5 : Int64} {s : yS} {P : Option Value → yS → Prop}  (h : w_154_0 (Tot d)  a1 a3 a5 s P) : Go d 7 (some .int) xE_154 (xE_154.drop 0) [.ref 213, .long a1, .null, .long a3, .null, .long a5, .null, .null, .null, .null, .null, .null, .null, .null] [] s P := by
  unfold w_154_0 at h
  refine g_ld rfl rfl rfl ?_
  refine g_c [.int 0, .ref 213] (xo_push (.int 0)) rfl rfl ?_
  refine g_put rfl rfl rfl ?_
  replace h := h _ rfl
  refine g_ld rfl rfl rfl ?_
  refine g_ld rfl rfl rfl ?_
  refine g_call [.ref 213, .long a1] [] rfl rfl rfl (Tot.imp h (fun v3 s2 h => ?_))
  obtain ⟨rfl, h⟩ := h
  change Go _ _ _ _ _ _ [] _ _
  refine g_ld rfl rfl rfl ?_
  refine g_ld rfl rfl rfl ?_
  refine g_call [.ref 213, .long a3] [] rfl rfl rfl (Tot.imp h (fun v5 s4 h => ?_))
  obtain ⟨rfl, h⟩ := h
  change Go _ _ _ _ _ _ [] _ _
  refine g_ld rfl rfl rfl ?_
  refine g_ld rfl rfl rfl ?_
  refine g_call [.ref 213, .long a5] [] rfl rfl rfl (Tot.imp h (fun v7 s6 h => ?_))
  obtain ⟨rfl, h⟩ := h
  change Go _ _ _ _ _ _ [] _ _
  refine g_ld rfl rfl rfl ?_
  refine g_get rfl rfl ?_
  change Go _ _ _ _ _ _ [.int (s6.1 2)] _ _
  exact g_retI rfl h
theorem t_154 {d : Nat} {a1 : Int64} {a3 : Int64} {a5 : Int64} {s : yS} {P : Option Value → yS → Prop} (h : w_154_0 (Tot d) a1 a3 a5 s P) : Tot (d + 1) 154 [.ref 213, .long a1, .long a3, .long a5] s P := tot_of (E := xE_154) (ml := 7) (ret := some .int) rfl rfl rfl (k_154_0 h)
/-! lay -/
def w_155_36 (T : Nat → List Value → yS → (Option Value → yS → Prop) → Prop) (R2 : Int64 → Int32 → yS → Prop) (a1 : Int64) (a3 : Int32) (a4 : Int32) (s : yS) (P : Option Value → yS → Prop) : Prop :=
  (-2147483648 ≤ a3.toInt + (-8) ∧ a3.toInt + (-8) ≤ 2147483647) ∧ (∀ x1 : Int32, x1.toInt = a3.toInt + (-8) → R2 a1 x1  s)
set_option maxRecDepth 20000 in
theorem k_155_36 {d : Nat} {R2 : Int64 → Int32 → yS → Prop} {a1 : Int64} {a3 : Int32} {a4 : Int32} {s : yS} {P : Option Value → yS → Prop} (r2 : ∀ a1 a3 s, R2 a1 a3 s → Go d 5 (none) xE_155 (xE_155.drop 2) [.ref 213, .long a1, .null, .int a3, .null, .null, .null, .null] [] s P) (h : w_155_36 (Tot d) R2 a1 a3 a4 s P) : Go d 5 (none) xE_155 (xE_155.drop 36) [.ref 213, .long a1, .null, .int a3, .int a4, .null, .null, .null] [] s P := by
  unfold w_155_36 at h
  have ex1 := i_add (x := a3) (y := (-8)) rfl (show ((-8) : Int32).toInt = (-8) by decide) h.1
  replace h := h.2 _ ex1
  refine g_inc [.ref 213, .long a1, .null, .int (a3 + (-8)), .int a4, .null, .null, .null] rfl rfl rfl rfl ?_
  refine g_go rfl ?_
  refine g_fg 4 ?_
  exact r2 a1 (a3 + (-8))  s h
def w_155_20 (T : Nat → List Value → yS → (Option Value → yS → Prop) → Prop) (R2 : Int64 → Int32 → yS → Prop) (a1 : Int64) (a3 : Int32) (a4 : Int32) (s : yS) (P : Option Value → yS → Prop) : Prop :=
  (4000 ≤ (s.1 2).toInt → w_155_36 T R2 a1 a3 a4  s P) ∧ (¬ (4000 ≤ (s.1 2).toInt) → (0 ≤ (s.1 2).toInt ∧ (s.1 2).toInt < 4000) ∧ (∀ s1, s1 = sa s 214 (s.1 2).toInt.toNat a4 → (-2147483648 ≤ (s1.1 2).toInt + 1 ∧ (s1.1 2).toInt + 1 ≤ 2147483647) ∧ (∀ x2 : Int32, x2.toInt = (s1.1 2).toInt + 1 → ∀ s3, s3 = sf s1 2 x2 → w_155_36 T R2 a1 a3 a4  s3 P)))
set_option maxRecDepth 20000 in
theorem k_155_20 {d : Nat} {R2 : Int64 → Int32 → yS → Prop} {a1 : Int64} {a3 : Int32} {a4 : Int32} {s : yS} {P : Option Value → yS → Prop} (r2 : ∀ a1 a3 s, R2 a1 a3 s → Go d 5 (none) xE_155 (xE_155.drop 2) [.ref 213, .long a1, .null, .int a3, .null, .null, .null, .null] [] s P) (h : w_155_20 (Tot d) R2 a1 a3 a4 s P) : Go d 5 (none) xE_155 (xE_155.drop 20) [.ref 213, .long a1, .null, .int a3, .int a4, .null, .null, .null] [] s P := by
  unfold w_155_20 at h
  refine g_ld rfl rfl rfl ?_
  refine g_get rfl rfl ?_
  change Go _ _ _ _ _ _ [.int (s.1 2)] _ _
  refine g_c [.int 4000, .int (s.1 2)] (xo_push (.int 4000)) rfl rfl ?_
  refine g_brP rfl rfl ⟨fun hc => ?_, fun hc => ?_⟩
  · replace h := h.1 ((i_le (x := 4000) (y := s.1 2) (show (4000 : Int32).toInt = 4000 by decide) rfl).mp hc)
    exact k_155_36 r2 h
  · replace h := h.2 (fun q => hc ((i_le (x := 4000) (y := s.1 2) (show (4000 : Int32).toInt = 4000 by decide) rfl).mpr q))
    refine g_ld rfl rfl rfl ?_
    refine g_get rfl rfl ?_
    change Go _ _ _ _ _ _ [.ref 214] _ _
    refine g_ld rfl rfl rfl ?_
    refine g_get rfl rfl ?_
    change Go _ _ _ _ _ _ [.int (s.1 2), .ref 214] _ _
    refine g_ld rfl rfl rfl ?_
    refine g_ias rfl rfl (i_in (x := s.1 2) rfl h.1) ?_
    replace h := h.2
    replace h := h _ rfl
    refine g_ld rfl rfl rfl ?_
    refine g_c [.ref 213, .ref 213] xo_dup rfl rfl ?_
    refine g_get rfl rfl ?_
    change Go _ _ _ _ _ _ [.int ((sa s 214 (s.1 2).toInt.toNat a4).1 2), .ref 213] _ _
    refine g_c [.int 1, .int ((sa s 214 (s.1 2).toInt.toNat a4).1 2), .ref 213] (xo_push (.int 1)) rfl rfl ?_
    have ex2 := i_add (x := (sa s 214 (s.1 2).toInt.toNat a4).1 2) (y := 1) rfl (show (1 : Int32).toInt = 1 by decide) h.1
    replace h := h.2 _ ex2
    refine g_c [.int (((sa s 214 (s.1 2).toInt.toNat a4).1 2) + 1), .ref 213] xo_iadd rfl rfl ?_
    refine g_put rfl rfl rfl ?_
    replace h := h _ rfl
    exact k_155_36 r2 h
def w_155_2 (T : Nat → List Value → yS → (Option Value → yS → Prop) → Prop) (R2 : Int64 → Int32 → yS → Prop) (a1 : Int64) (a3 : Int32) (s : yS) (P : Option Value → yS → Prop) : Prop :=
  (a3.toInt < 0 → P none s) ∧ (¬ (a3.toInt < 0) → (((Int64.toInt32 (a1 >>> ((a3 : Int32).toInt64 &&& 63))) &&& 255).toInt = 10 → w_155_20 T R2 a1 a3 ((Int64.toInt32 (a1 >>> ((a3 : Int32).toInt64 &&& 63))) &&& 255)  s P) ∧ (¬ (((Int64.toInt32 (a1 >>> ((a3 : Int32).toInt64 &&& 63))) &&& 255).toInt = 10) → (((Int64.toInt32 (a1 >>> ((a3 : Int32).toInt64 &&& 63))) &&& 255).toInt < 32 → w_155_36 T R2 a1 a3 ((Int64.toInt32 (a1 >>> ((a3 : Int32).toInt64 &&& 63))) &&& 255)  s P) ∧ (¬ (((Int64.toInt32 (a1 >>> ((a3 : Int32).toInt64 &&& 63))) &&& 255).toInt < 32) → (126 < ((Int64.toInt32 (a1 >>> ((a3 : Int32).toInt64 &&& 63))) &&& 255).toInt → w_155_36 T R2 a1 a3 ((Int64.toInt32 (a1 >>> ((a3 : Int32).toInt64 &&& 63))) &&& 255)  s P) ∧ (¬ (126 < ((Int64.toInt32 (a1 >>> ((a3 : Int32).toInt64 &&& 63))) &&& 255).toInt) → w_155_20 T R2 a1 a3 ((Int64.toInt32 (a1 >>> ((a3 : Int32).toInt64 &&& 63))) &&& 255)  s P))))
set_option maxRecDepth 20000 in
theorem k_155_2 {d : Nat} {R2 : Int64 → Int32 → yS → Prop} {a1 : Int64} {a3 : Int32} {s : yS} {P : Option Value → yS → Prop} (r2 : ∀ a1 a3 s, R2 a1 a3 s → Go d 5 (none) xE_155 (xE_155.drop 2) [.ref 213, .long a1, .null, .int a3, .null, .null, .null, .null] [] s P) (h : w_155_2 (Tot d) R2 a1 a3 s P) : Go d 5 (none) xE_155 (xE_155.drop 2) [.ref 213, .long a1, .null, .int a3, .null, .null, .null, .null] [] s P := by
  unfold w_155_2 at h
  refine g_ld rfl rfl rfl ?_
  refine g_brP rfl rfl ⟨fun hc => ?_, fun hc => ?_⟩
  · replace h := h.1 ((i_lt (x := a3) (y := 0) rfl (show (0 : Int32).toInt = 0 by decide)).mp hc)
    exact g_ret0 rfl h
  · replace h := h.2 (fun q => hc ((i_lt (x := a3) (y := 0) rfl (show (0 : Int32).toInt = 0 by decide)).mpr q))
    refine g_ld rfl rfl rfl ?_
    refine g_ld rfl rfl rfl ?_
    refine g_c [.long (a1 >>> ((a3 : Int32).toInt64 &&& 63))] xo_lshr rfl rfl ?_
    refine g_c [.int (Int64.toInt32 (a1 >>> ((a3 : Int32).toInt64 &&& 63)))] xo_l2i rfl rfl ?_
    refine g_c [.int 255, .int (Int64.toInt32 (a1 >>> ((a3 : Int32).toInt64 &&& 63)))] (xo_push (.int 255)) rfl rfl ?_
    refine g_c [.int ((Int64.toInt32 (a1 >>> ((a3 : Int32).toInt64 &&& 63))) &&& 255)] xo_iand rfl rfl ?_
    refine g_st [.ref 213, .long a1, .null, .int a3, .int ((Int64.toInt32 (a1 >>> ((a3 : Int32).toInt64 &&& 63))) &&& 255), .null, .null, .null] rfl rfl rfl ?_
    refine g_ld rfl rfl rfl ?_
    refine g_c [.int 10, .int ((Int64.toInt32 (a1 >>> ((a3 : Int32).toInt64 &&& 63))) &&& 255)] (xo_push (.int 10)) rfl rfl ?_
    refine g_brP rfl rfl ⟨fun hc => ?_, fun hc => ?_⟩
    · replace h := h.1 ((i_eq (x := (Int64.toInt32 (a1 >>> ((a3 : Int32).toInt64 &&& 63))) &&& 255) (y := 10) rfl (show (10 : Int32).toInt = 10 by decide)).mp hc)
      exact k_155_20 r2 h
    · replace h := h.2 (fun q => hc ((i_eq (x := (Int64.toInt32 (a1 >>> ((a3 : Int32).toInt64 &&& 63))) &&& 255) (y := 10) rfl (show (10 : Int32).toInt = 10 by decide)).mpr q))
      refine g_ld rfl rfl rfl ?_
      refine g_c [.int 32, .int ((Int64.toInt32 (a1 >>> ((a3 : Int32).toInt64 &&& 63))) &&& 255)] (xo_push (.int 32)) rfl rfl ?_
      refine g_brP rfl rfl ⟨fun hc => ?_, fun hc => ?_⟩
      · replace h := h.1 ((i_lt (x := (Int64.toInt32 (a1 >>> ((a3 : Int32).toInt64 &&& 63))) &&& 255) (y := 32) rfl (show (32 : Int32).toInt = 32 by decide)).mp hc)
        exact k_155_36 r2 h
      · replace h := h.2 (fun q => hc ((i_lt (x := (Int64.toInt32 (a1 >>> ((a3 : Int32).toInt64 &&& 63))) &&& 255) (y := 32) rfl (show (32 : Int32).toInt = 32 by decide)).mpr q))
        refine g_ld rfl rfl rfl ?_
        refine g_c [.int 126, .int ((Int64.toInt32 (a1 >>> ((a3 : Int32).toInt64 &&& 63))) &&& 255)] (xo_push (.int 126)) rfl rfl ?_
        refine g_brP rfl rfl ⟨fun hc => ?_, fun hc => ?_⟩
        · replace h := h.1 ((i_lt (x := 126) (y := (Int64.toInt32 (a1 >>> ((a3 : Int32).toInt64 &&& 63))) &&& 255) (show (126 : Int32).toInt = 126 by decide) rfl).mp hc)
          exact k_155_36 r2 h
        · replace h := h.2 (fun q => hc ((i_lt (x := 126) (y := (Int64.toInt32 (a1 >>> ((a3 : Int32).toInt64 &&& 63))) &&& 255) (show (126 : Int32).toInt = 126 by decide) rfl).mpr q))
          exact k_155_20 r2 h
def wl_155_2 (T : Nat → List Value → yS → (Option Value → yS → Prop) → Prop)  (a1 : Int64) (a3 : Int32) (s : yS) (P : Option Value → yS → Prop) : Prop :=
  ∃ (I : Int64 → Int32 → yS → Prop) (μ : Int64 → Int32 → yS → Nat), I a1 a3 s ∧ ∀ (a1 : Int64) (a3 : Int32) (s : yS), I a1 a3 s → w_155_2 T (fun a1' a3' s' => I a1' a3' s' ∧ μ a1' a3' s' < μ a1 a3 s) a1 a3 s P
theorem kl_155_2 {d : Nat}  {a1 : Int64} {a3 : Int32} {s : yS} {P : Option Value → yS → Prop}  (h : wl_155_2 (Tot d)  a1 a3 s P) : Go d 5 (none) xE_155 (xE_155.drop 2) [.ref 213, .long a1, .null, .int a3, .null, .null, .null, .null] [] s P := by
  obtain ⟨I, μ, h0, h1⟩ := h
  have key : ∀ (n : Nat) (a1 : Int64) (a3 : Int32) (s : yS), μ a1 a3 s = n → I a1 a3 s → Go d 5 (none) xE_155 (xE_155.drop 2) [.ref 213, .long a1, .null, .int a3, .null, .null, .null, .null] [] s P := by
    intro n
    induction n using Nat.strongRecOn with
    | ind n ih =>
      intro a1 a3 s e hI
      exact k_155_2 (fun a1' a3' s' q => ih _ (by rw [← e]; exact q.2) _ _ _ rfl q.1) (h1 a1 a3 s hI)
  exact key _ a1 a3 s rfl h0
def w_155_0 (T : Nat → List Value → yS → (Option Value → yS → Prop) → Prop)  (a1 : Int64) (s : yS) (P : Option Value → yS → Prop) : Prop :=
  wl_155_2 T  a1 56  s P
set_option maxRecDepth 20000 in
theorem k_155_0 {d : Nat}  {a1 : Int64} {s : yS} {P : Option Value → yS → Prop}  (h : w_155_0 (Tot d)  a1 s P) : Go d 5 (none) xE_155 (xE_155.drop 0) [.ref 213, .long a1, .null, .null, .null, .null, .null, .null] [] s P := by
  unfold w_155_0 at h
  refine g_c [.int 56] (xo_push (.int 56)) rfl rfl ?_
  refine g_st [.ref 213, .long a1, .null, .int 56, .null, .null, .null, .null] rfl rfl rfl ?_
  exact kl_155_2  h
theorem t_155 {d : Nat} {a1 : Int64} {s : yS} {P : Option Value → yS → Prop} (h : w_155_0 (Tot d) a1 s P) : Tot (d + 1) 155 [.ref 213, .long a1] s P := tot_of (E := xE_155) (ml := 5) (ret := none) rfl rfl rfl (k_155_0 h)
/-! isLetter -/
def w_156_15 (T : Nat → List Value → yS → (Option Value → yS → Prop) → Prop)  (a0 : Int32) (t0 : Int32) (s : yS) (P : Option Value → yS → Prop) : Prop :=
  (t0.toInt = 0 ∨ t0.toInt = 1) ∧ P (some (.int t0)) s
set_option maxRecDepth 20000 in
theorem k_156_15 {d : Nat}  {a0 : Int32} {t0 : Int32} {s : yS} {P : Option Value → yS → Prop}  (h : w_156_15 (Tot d)  a0 t0 s P) : Go d 1 (some .boolean) xE_156 (xE_156.drop 15) [.int a0, .null] [.int t0] s P := by
  unfold w_156_15 at h
  exact g_retZ rfl (i_z (x := t0) rfl h.1) h.2
def w_156_14 (T : Nat → List Value → yS → (Option Value → yS → Prop) → Prop)  (a0 : Int32) (s : yS) (P : Option Value → yS → Prop) : Prop :=
  w_156_15 T  a0 0 s P
set_option maxRecDepth 20000 in
theorem k_156_14 {d : Nat}  {a0 : Int32} {s : yS} {P : Option Value → yS → Prop}  (h : w_156_14 (Tot d)  a0 s P) : Go d 1 (some .boolean) xE_156 (xE_156.drop 14) [.int a0, .null] [] s P := by
  unfold w_156_14 at h
  refine g_c [.int 0] (xo_push (.int 0)) rfl rfl ?_
  exact k_156_15  h
def w_156_12 (T : Nat → List Value → yS → (Option Value → yS → Prop) → Prop)  (a0 : Int32) (s : yS) (P : Option Value → yS → Prop) : Prop :=
  w_156_15 T  a0 1 s P
set_option maxRecDepth 20000 in
theorem k_156_12 {d : Nat}  {a0 : Int32} {s : yS} {P : Option Value → yS → Prop}  (h : w_156_12 (Tot d)  a0 s P) : Go d 1 (some .boolean) xE_156 (xE_156.drop 12) [.int a0, .null] [] s P := by
  unfold w_156_12 at h
  refine g_c [.int 1] (xo_push (.int 1)) rfl rfl ?_
  refine g_go rfl ?_
  exact k_156_15  h
def w_156_6 (T : Nat → List Value → yS → (Option Value → yS → Prop) → Prop)  (a0 : Int32) (s : yS) (P : Option Value → yS → Prop) : Prop :=
  (a0.toInt < 65 → w_156_14 T  a0  s P) ∧ (¬ (a0.toInt < 65) → (90 < a0.toInt → w_156_14 T  a0  s P) ∧ (¬ (90 < a0.toInt) → w_156_12 T  a0  s P))
set_option maxRecDepth 20000 in
theorem k_156_6 {d : Nat}  {a0 : Int32} {s : yS} {P : Option Value → yS → Prop}  (h : w_156_6 (Tot d)  a0 s P) : Go d 1 (some .boolean) xE_156 (xE_156.drop 6) [.int a0, .null] [] s P := by
  unfold w_156_6 at h
  refine g_ld rfl rfl rfl ?_
  refine g_c [.int 65, .int a0] (xo_push (.int 65)) rfl rfl ?_
  refine g_brP rfl rfl ⟨fun hc => ?_, fun hc => ?_⟩
  · replace h := h.1 ((i_lt (x := a0) (y := 65) rfl (show (65 : Int32).toInt = 65 by decide)).mp hc)
    exact k_156_14  h
  · replace h := h.2 (fun q => hc ((i_lt (x := a0) (y := 65) rfl (show (65 : Int32).toInt = 65 by decide)).mpr q))
    refine g_ld rfl rfl rfl ?_
    refine g_c [.int 90, .int a0] (xo_push (.int 90)) rfl rfl ?_
    refine g_brP rfl rfl ⟨fun hc => ?_, fun hc => ?_⟩
    · replace h := h.1 ((i_lt (x := 90) (y := a0) (show (90 : Int32).toInt = 90 by decide) rfl).mp hc)
      exact k_156_14  h
    · replace h := h.2 (fun q => hc ((i_lt (x := 90) (y := a0) (show (90 : Int32).toInt = 90 by decide) rfl).mpr q))
      exact k_156_12  h
def w_156_0 (T : Nat → List Value → yS → (Option Value → yS → Prop) → Prop)  (a0 : Int32) (s : yS) (P : Option Value → yS → Prop) : Prop :=
  (a0.toInt < 97 → w_156_6 T  a0  s P) ∧ (¬ (a0.toInt < 97) → (a0.toInt ≤ 122 → w_156_12 T  a0  s P) ∧ (¬ (a0.toInt ≤ 122) → w_156_6 T  a0  s P))
set_option maxRecDepth 20000 in
theorem k_156_0 {d : Nat}  {a0 : Int32} {s : yS} {P : Option Value → yS → Prop}  (h : w_156_0 (Tot d)  a0 s P) : Go d 1 (some .boolean) xE_156 (xE_156.drop 0) [.int a0, .null] [] s P := by
  unfold w_156_0 at h
  refine g_ld rfl rfl rfl ?_
  refine g_c [.int 97, .int a0] (xo_push (.int 97)) rfl rfl ?_
  refine g_brP rfl rfl ⟨fun hc => ?_, fun hc => ?_⟩
  · replace h := h.1 ((i_lt (x := a0) (y := 97) rfl (show (97 : Int32).toInt = 97 by decide)).mp hc)
    exact k_156_6  h
  · replace h := h.2 (fun q => hc ((i_lt (x := a0) (y := 97) rfl (show (97 : Int32).toInt = 97 by decide)).mpr q))
    refine g_ld rfl rfl rfl ?_
    refine g_c [.int 122, .int a0] (xo_push (.int 122)) rfl rfl ?_
    refine g_brP rfl rfl ⟨fun hc => ?_, fun hc => ?_⟩
    · replace h := h.1 ((i_le (x := a0) (y := 122) rfl (show (122 : Int32).toInt = 122 by decide)).mp hc)
      exact k_156_12  h
    · replace h := h.2 (fun q => hc ((i_le (x := a0) (y := 122) rfl (show (122 : Int32).toInt = 122 by decide)).mpr q))
      exact k_156_6  h
theorem t_156 {d : Nat} {a0 : Int32} {s : yS} {P : Option Value → yS → Prop} (h : w_156_0 (Tot d) a0 s P) : Tot (d + 1) 156 [.int a0] s P := tot_of (E := xE_156) (ml := 1) (ret := some .boolean) rfl rfl rfl (k_156_0 h)
/-! isDigit -/
def w_157_9 (T : Nat → List Value → yS → (Option Value → yS → Prop) → Prop)  (a0 : Int32) (t0 : Int32) (s : yS) (P : Option Value → yS → Prop) : Prop :=
  (t0.toInt = 0 ∨ t0.toInt = 1) ∧ P (some (.int t0)) s
set_option maxRecDepth 20000 in
theorem k_157_9 {d : Nat}  {a0 : Int32} {t0 : Int32} {s : yS} {P : Option Value → yS → Prop}  (h : w_157_9 (Tot d)  a0 t0 s P) : Go d 1 (some .boolean) xE_157 (xE_157.drop 9) [.int a0, .null] [.int t0] s P := by
  unfold w_157_9 at h
  exact g_retZ rfl (i_z (x := t0) rfl h.1) h.2
def w_157_8 (T : Nat → List Value → yS → (Option Value → yS → Prop) → Prop)  (a0 : Int32) (s : yS) (P : Option Value → yS → Prop) : Prop :=
  w_157_9 T  a0 0 s P
set_option maxRecDepth 20000 in
theorem k_157_8 {d : Nat}  {a0 : Int32} {s : yS} {P : Option Value → yS → Prop}  (h : w_157_8 (Tot d)  a0 s P) : Go d 1 (some .boolean) xE_157 (xE_157.drop 8) [.int a0, .null] [] s P := by
  unfold w_157_8 at h
  refine g_c [.int 0] (xo_push (.int 0)) rfl rfl ?_
  exact k_157_9  h
def w_157_0 (T : Nat → List Value → yS → (Option Value → yS → Prop) → Prop)  (a0 : Int32) (s : yS) (P : Option Value → yS → Prop) : Prop :=
  (a0.toInt < 48 → w_157_8 T  a0  s P) ∧ (¬ (a0.toInt < 48) → (57 < a0.toInt → w_157_8 T  a0  s P) ∧ (¬ (57 < a0.toInt) → w_157_9 T  a0 1 s P))
set_option maxRecDepth 20000 in
theorem k_157_0 {d : Nat}  {a0 : Int32} {s : yS} {P : Option Value → yS → Prop}  (h : w_157_0 (Tot d)  a0 s P) : Go d 1 (some .boolean) xE_157 (xE_157.drop 0) [.int a0, .null] [] s P := by
  unfold w_157_0 at h
  refine g_ld rfl rfl rfl ?_
  refine g_c [.int 48, .int a0] (xo_push (.int 48)) rfl rfl ?_
  refine g_brP rfl rfl ⟨fun hc => ?_, fun hc => ?_⟩
  · replace h := h.1 ((i_lt (x := a0) (y := 48) rfl (show (48 : Int32).toInt = 48 by decide)).mp hc)
    exact k_157_8  h
  · replace h := h.2 (fun q => hc ((i_lt (x := a0) (y := 48) rfl (show (48 : Int32).toInt = 48 by decide)).mpr q))
    refine g_ld rfl rfl rfl ?_
    refine g_c [.int 57, .int a0] (xo_push (.int 57)) rfl rfl ?_
    refine g_brP rfl rfl ⟨fun hc => ?_, fun hc => ?_⟩
    · replace h := h.1 ((i_lt (x := 57) (y := a0) (show (57 : Int32).toInt = 57 by decide) rfl).mp hc)
      exact k_157_8  h
    · replace h := h.2 (fun q => hc ((i_lt (x := 57) (y := a0) (show (57 : Int32).toInt = 57 by decide) rfl).mpr q))
      refine g_c [.int 1] (xo_push (.int 1)) rfl rfl ?_
      refine g_go rfl ?_
      exact k_157_9  h
theorem t_157 {d : Nat} {a0 : Int32} {s : yS} {P : Option Value → yS → Prop} (h : w_157_0 (Tot d) a0 s P) : Tot (d + 1) 157 [.int a0] s P := tot_of (E := xE_157) (ml := 1) (ret := some .boolean) rfl rfl rfl (k_157_0 h)
/-! rank -/
def w_158_23 (T : Nat → List Value → yS → (Option Value → yS → Prop) → Prop)  (a0 : Int32) (t0 : Int32) (s : yS) (P : Option Value → yS → Prop) : Prop :=
  P (some (.int t0)) s
set_option maxRecDepth 20000 in
theorem k_158_23 {d : Nat}  {a0 : Int32} {t0 : Int32} {s : yS} {P : Option Value → yS → Prop}  (h : w_158_23 (Tot d)  a0 t0 s P) : Go d 1 (some .int) xE_158 (xE_158.drop 23) [.int a0, .null] [.int t0] s P := by
  unfold w_158_23 at h
  exact g_retI rfl h
def w_158_0 (T : Nat → List Value → yS → (Option Value → yS → Prop) → Prop)  (a0 : Int32) (s : yS) (P : Option Value → yS → Prop) : Prop :=
  (a0.toInt < 97 → (a0.toInt < 65 → (-2147483648 ≤ a0.toInt - 48 ∧ a0.toInt - 48 ≤ 2147483647) ∧ (∀ x1 : Int32, x1.toInt = a0.toInt - 48 → (-2147483648 ≤ x1.toInt + 53 ∧ x1.toInt + 53 ≤ 2147483647) ∧ (∀ x2 : Int32, x2.toInt = x1.toInt + 53 → w_158_23 T  a0 x2 s P))) ∧ (¬ (a0.toInt < 65) → (-2147483648 ≤ a0.toInt - 65 ∧ a0.toInt - 65 ≤ 2147483647) ∧ (∀ x3 : Int32, x3.toInt = a0.toInt - 65 → (-2147483648 ≤ x3.toInt + 27 ∧ x3.toInt + 27 ≤ 2147483647) ∧ (∀ x4 : Int32, x4.toInt = x3.toInt + 27 → w_158_23 T  a0 x4 s P)))) ∧ (¬ (a0.toInt < 97) → (-2147483648 ≤ a0.toInt - 97 ∧ a0.toInt - 97 ≤ 2147483647) ∧ (∀ x5 : Int32, x5.toInt = a0.toInt - 97 → (-2147483648 ≤ x5.toInt + 1 ∧ x5.toInt + 1 ≤ 2147483647) ∧ (∀ x6 : Int32, x6.toInt = x5.toInt + 1 → w_158_23 T  a0 x6 s P)))
set_option maxRecDepth 20000 in
theorem k_158_0 {d : Nat}  {a0 : Int32} {s : yS} {P : Option Value → yS → Prop}  (h : w_158_0 (Tot d)  a0 s P) : Go d 1 (some .int) xE_158 (xE_158.drop 0) [.int a0, .null] [] s P := by
  unfold w_158_0 at h
  refine g_ld rfl rfl rfl ?_
  refine g_c [.int 97, .int a0] (xo_push (.int 97)) rfl rfl ?_
  refine g_brP rfl rfl ⟨fun hc => ?_, fun hc => ?_⟩
  · replace h := h.1 ((i_lt (x := a0) (y := 97) rfl (show (97 : Int32).toInt = 97 by decide)).mp hc)
    refine g_ld rfl rfl rfl ?_
    refine g_c [.int 65, .int a0] (xo_push (.int 65)) rfl rfl ?_
    refine g_brP rfl rfl ⟨fun hc => ?_, fun hc => ?_⟩
    · replace h := h.1 ((i_lt (x := a0) (y := 65) rfl (show (65 : Int32).toInt = 65 by decide)).mp hc)
      refine g_ld rfl rfl rfl ?_
      refine g_c [.int 48, .int a0] (xo_push (.int 48)) rfl rfl ?_
      have ex1 := i_sub (x := a0) (y := 48) rfl (show (48 : Int32).toInt = 48 by decide) h.1
      replace h := h.2 _ ex1
      refine g_c [.int (a0 - 48)] xo_isub rfl rfl ?_
      refine g_c [.int 53, .int (a0 - 48)] (xo_push (.int 53)) rfl rfl ?_
      have ex2 := i_add (x := (a0 - 48)) (y := 53) rfl (show (53 : Int32).toInt = 53 by decide) h.1
      replace h := h.2 _ ex2
      refine g_c [.int ((a0 - 48) + 53)] xo_iadd rfl rfl ?_
      exact k_158_23  h
    · replace h := h.2 (fun q => hc ((i_lt (x := a0) (y := 65) rfl (show (65 : Int32).toInt = 65 by decide)).mpr q))
      refine g_ld rfl rfl rfl ?_
      refine g_c [.int 65, .int a0] (xo_push (.int 65)) rfl rfl ?_
      have ex3 := i_sub (x := a0) (y := 65) rfl (show (65 : Int32).toInt = 65 by decide) h.1
      replace h := h.2 _ ex3
      refine g_c [.int (a0 - 65)] xo_isub rfl rfl ?_
      refine g_c [.int 27, .int (a0 - 65)] (xo_push (.int 27)) rfl rfl ?_
      have ex4 := i_add (x := (a0 - 65)) (y := 27) rfl (show (27 : Int32).toInt = 27 by decide) h.1
      replace h := h.2 _ ex4
      refine g_c [.int ((a0 - 65) + 27)] xo_iadd rfl rfl ?_
      refine g_go rfl ?_
      exact k_158_23  h
  · replace h := h.2 (fun q => hc ((i_lt (x := a0) (y := 97) rfl (show (97 : Int32).toInt = 97 by decide)).mpr q))
    refine g_ld rfl rfl rfl ?_
    refine g_c [.int 97, .int a0] (xo_push (.int 97)) rfl rfl ?_
    have ex5 := i_sub (x := a0) (y := 97) rfl (show (97 : Int32).toInt = 97 by decide) h.1
    replace h := h.2 _ ex5
    refine g_c [.int (a0 - 97)] xo_isub rfl rfl ?_
    refine g_c [.int 1, .int (a0 - 97)] (xo_push (.int 1)) rfl rfl ?_
    have ex6 := i_add (x := (a0 - 97)) (y := 1) rfl (show (1 : Int32).toInt = 1 by decide) h.1
    replace h := h.2 _ ex6
    refine g_c [.int ((a0 - 97) + 1)] xo_iadd rfl rfl ?_
    refine g_go rfl ?_
    exact k_158_23  h
theorem t_158 {d : Nat} {a0 : Int32} {s : yS} {P : Option Value → yS → Prop} (h : w_158_0 (Tot d) a0 s P) : Tot (d + 1) 158 [.int a0] s P := tot_of (E := xE_158) (ml := 1) (ret := some .int) rfl rfl rfl (k_158_0 h)
/-! isSignOf -/
def w_159_30 (T : Nat → List Value → yS → (Option Value → yS → Prop) → Prop)  (a0 : Int32) (t0 : Int32) (s : yS) (P : Option Value → yS → Prop) : Prop :=
  (t0.toInt = 0 ∨ t0.toInt = 1) ∧ P (some (.int t0)) s
set_option maxRecDepth 20000 in
theorem k_159_30 {d : Nat}  {a0 : Int32} {t0 : Int32} {s : yS} {P : Option Value → yS → Prop}  (h : w_159_30 (Tot d)  a0 t0 s P) : Go d 1 (some .boolean) xE_159 (xE_159.drop 30) [.int a0, .null] [.int t0] s P := by
  unfold w_159_30 at h
  exact g_retZ rfl (i_z (x := t0) rfl h.1) h.2
def w_159_27 (T : Nat → List Value → yS → (Option Value → yS → Prop) → Prop)  (a0 : Int32) (s : yS) (P : Option Value → yS → Prop) : Prop :=
  w_159_30 T  a0 1 s P
set_option maxRecDepth 20000 in
theorem k_159_27 {d : Nat}  {a0 : Int32} {s : yS} {P : Option Value → yS → Prop}  (h : w_159_27 (Tot d)  a0 s P) : Go d 1 (some .boolean) xE_159 (xE_159.drop 27) [.int a0, .null] [] s P := by
  unfold w_159_27 at h
  refine g_c [.int 1] (xo_push (.int 1)) rfl rfl ?_
  refine g_go rfl ?_
  exact k_159_30  h
def w_159_0 (T : Nat → List Value → yS → (Option Value → yS → Prop) → Prop)  (a0 : Int32) (s : yS) (P : Option Value → yS → Prop) : Prop :=
  (a0.toInt = 123 → w_159_27 T  a0  s P) ∧ (¬ (a0.toInt = 123) → (a0.toInt = 125 → w_159_27 T  a0  s P) ∧ (¬ (a0.toInt = 125) → (a0.toInt = 40 → w_159_27 T  a0  s P) ∧ (¬ (a0.toInt = 40) → (a0.toInt = 41 → w_159_27 T  a0  s P) ∧ (¬ (a0.toInt = 41) → (a0.toInt = 91 → w_159_27 T  a0  s P) ∧ (¬ (a0.toInt = 91) → (a0.toInt = 93 → w_159_27 T  a0  s P) ∧ (¬ (a0.toInt = 93) → (a0.toInt = 44 → w_159_27 T  a0  s P) ∧ (¬ (a0.toInt = 44) → (a0.toInt = 59 → w_159_27 T  a0  s P) ∧ (¬ (a0.toInt = 59) → (¬ (a0.toInt = 46) → w_159_30 T  a0 0 s P) ∧ (a0.toInt = 46 → w_159_27 T  a0  s P)))))))))
set_option maxRecDepth 20000 in
theorem k_159_0 {d : Nat}  {a0 : Int32} {s : yS} {P : Option Value → yS → Prop}  (h : w_159_0 (Tot d)  a0 s P) : Go d 1 (some .boolean) xE_159 (xE_159.drop 0) [.int a0, .null] [] s P := by
  unfold w_159_0 at h
  refine g_ld rfl rfl rfl ?_
  refine g_c [.int 123, .int a0] (xo_push (.int 123)) rfl rfl ?_
  refine g_brP rfl rfl ⟨fun hc => ?_, fun hc => ?_⟩
  · replace h := h.1 ((i_eq (x := a0) (y := 123) rfl (show (123 : Int32).toInt = 123 by decide)).mp hc)
    exact k_159_27  h
  · replace h := h.2 (fun q => hc ((i_eq (x := a0) (y := 123) rfl (show (123 : Int32).toInt = 123 by decide)).mpr q))
    refine g_ld rfl rfl rfl ?_
    refine g_c [.int 125, .int a0] (xo_push (.int 125)) rfl rfl ?_
    refine g_brP rfl rfl ⟨fun hc => ?_, fun hc => ?_⟩
    · replace h := h.1 ((i_eq (x := a0) (y := 125) rfl (show (125 : Int32).toInt = 125 by decide)).mp hc)
      exact k_159_27  h
    · replace h := h.2 (fun q => hc ((i_eq (x := a0) (y := 125) rfl (show (125 : Int32).toInt = 125 by decide)).mpr q))
      refine g_ld rfl rfl rfl ?_
      refine g_c [.int 40, .int a0] (xo_push (.int 40)) rfl rfl ?_
      refine g_brP rfl rfl ⟨fun hc => ?_, fun hc => ?_⟩
      · replace h := h.1 ((i_eq (x := a0) (y := 40) rfl (show (40 : Int32).toInt = 40 by decide)).mp hc)
        exact k_159_27  h
      · replace h := h.2 (fun q => hc ((i_eq (x := a0) (y := 40) rfl (show (40 : Int32).toInt = 40 by decide)).mpr q))
        refine g_ld rfl rfl rfl ?_
        refine g_c [.int 41, .int a0] (xo_push (.int 41)) rfl rfl ?_
        refine g_brP rfl rfl ⟨fun hc => ?_, fun hc => ?_⟩
        · replace h := h.1 ((i_eq (x := a0) (y := 41) rfl (show (41 : Int32).toInt = 41 by decide)).mp hc)
          exact k_159_27  h
        · replace h := h.2 (fun q => hc ((i_eq (x := a0) (y := 41) rfl (show (41 : Int32).toInt = 41 by decide)).mpr q))
          refine g_ld rfl rfl rfl ?_
          refine g_c [.int 91, .int a0] (xo_push (.int 91)) rfl rfl ?_
          refine g_brP rfl rfl ⟨fun hc => ?_, fun hc => ?_⟩
          · replace h := h.1 ((i_eq (x := a0) (y := 91) rfl (show (91 : Int32).toInt = 91 by decide)).mp hc)
            exact k_159_27  h
          · replace h := h.2 (fun q => hc ((i_eq (x := a0) (y := 91) rfl (show (91 : Int32).toInt = 91 by decide)).mpr q))
            refine g_ld rfl rfl rfl ?_
            refine g_c [.int 93, .int a0] (xo_push (.int 93)) rfl rfl ?_
            refine g_brP rfl rfl ⟨fun hc => ?_, fun hc => ?_⟩
            · replace h := h.1 ((i_eq (x := a0) (y := 93) rfl (show (93 : Int32).toInt = 93 by decide)).mp hc)
              exact k_159_27  h
            · replace h := h.2 (fun q => hc ((i_eq (x := a0) (y := 93) rfl (show (93 : Int32).toInt = 93 by decide)).mpr q))
              refine g_ld rfl rfl rfl ?_
              refine g_c [.int 44, .int a0] (xo_push (.int 44)) rfl rfl ?_
              refine g_brP rfl rfl ⟨fun hc => ?_, fun hc => ?_⟩
              · replace h := h.1 ((i_eq (x := a0) (y := 44) rfl (show (44 : Int32).toInt = 44 by decide)).mp hc)
                exact k_159_27  h
              · replace h := h.2 (fun q => hc ((i_eq (x := a0) (y := 44) rfl (show (44 : Int32).toInt = 44 by decide)).mpr q))
                refine g_ld rfl rfl rfl ?_
                refine g_c [.int 59, .int a0] (xo_push (.int 59)) rfl rfl ?_
                refine g_brP rfl rfl ⟨fun hc => ?_, fun hc => ?_⟩
                · replace h := h.1 ((i_eq (x := a0) (y := 59) rfl (show (59 : Int32).toInt = 59 by decide)).mp hc)
                  exact k_159_27  h
                · replace h := h.2 (fun q => hc ((i_eq (x := a0) (y := 59) rfl (show (59 : Int32).toInt = 59 by decide)).mpr q))
                  refine g_ld rfl rfl rfl ?_
                  refine g_c [.int 46, .int a0] (xo_push (.int 46)) rfl rfl ?_
                  refine g_brN rfl rfl ⟨fun hc => ?_, fun hc => ?_⟩
                  · replace h := h.1 (fun q => hc ((i_eq (x := a0) (y := 46) rfl (show (46 : Int32).toInt = 46 by decide)).mpr q))
                    refine g_c [.int 0] (xo_push (.int 0)) rfl rfl ?_
                    exact k_159_30  h
                  · replace h := h.2 ((i_eq (x := a0) (y := 46) rfl (show (46 : Int32).toInt = 46 by decide)).mp hc)
                    exact k_159_27  h
theorem t_159 {d : Nat} {a0 : Int32} {s : yS} {P : Option Value → yS → Prop} (h : w_159_0 (Tot d) a0 s P) : Tot (d + 1) 159 [.int a0] s P := tot_of (E := xE_159) (ml := 1) (ret := some .boolean) rfl rfl rfl (k_159_0 h)
/-! wordOf -/
def w_160_34 (T : Nat → List Value → yS → (Option Value → yS → Prop) → Prop) (R7 : Int64 → Int64 → Int32 → Int32 → yS → Prop) (a1 : Int64) (a3 : Int64) (a5 : Int32) (a6 : Int32) (s : yS) (P : Option Value → yS → Prop) : Prop :=
  (-2147483648 ≤ a6.toInt + 1 ∧ a6.toInt + 1 ≤ 2147483647) ∧ (∀ x1 : Int32, x1.toInt = a6.toInt + 1 → R7 a1 a3 a5 x1  s)
set_option maxRecDepth 20000 in
theorem k_160_34 {d : Nat} {R7 : Int64 → Int64 → Int32 → Int32 → yS → Prop} {a1 : Int64} {a3 : Int64} {a5 : Int32} {a6 : Int32} {s : yS} {P : Option Value → yS → Prop} (r7 : ∀ a1 a3 a5 a6 s, R7 a1 a3 a5 a6 s → Go d 7 (some .int) xE_160 (xE_160.drop 7) [.ref 213, .long a1, .null, .long a3, .null, .int a5, .int a6, .null, .null, .null, .null, .null] [] s P) (h : w_160_34 (Tot d) R7 a1 a3 a5 a6 s P) : Go d 7 (some .int) xE_160 (xE_160.drop 34) [.ref 213, .long a1, .null, .long a3, .null, .int a5, .int a6, .null, .null, .null, .null, .null] [] s P := by
  unfold w_160_34 at h
  have ex1 := i_add (x := a6) (y := 1) rfl (show (1 : Int32).toInt = 1 by decide) h.1
  replace h := h.2 _ ex1
  refine g_inc [.ref 213, .long a1, .null, .long a3, .null, .int a5, .int (a6 + 1), .null, .null, .null, .null, .null] rfl rfl rfl rfl ?_
  refine g_go rfl ?_
  exact r7 a1 a3 a5 (a6 + 1)  s h
def w_160_7 (T : Nat → List Value → yS → (Option Value → yS → Prop) → Prop) (R7 : Int64 → Int64 → Int32 → Int32 → yS → Prop) (a1 : Int64) (a3 : Int64) (a5 : Int32) (a6 : Int32) (s : yS) (P : Option Value → yS → Prop) : Prop :=
  (0 ≤ (s.1 9).toInt ∧ (s.1 9).toInt < 3) ∧ (((s.2.1 220 (s.1 9).toInt.toNat).toInt ≤ a6.toInt → (0 ≤ (s.1 9).toInt ∧ (s.1 9).toInt < 3) ∧ ((-2147483648 ≤ a5.toInt + (s.2.1 220 (s.1 9).toInt.toNat).toInt ∧ a5.toInt + (s.2.1 220 (s.1 9).toInt.toNat).toInt ≤ 2147483647) ∧ (∀ x1 : Int32, x1.toInt = a5.toInt + (s.2.1 220 (s.1 9).toInt.toNat).toInt → (0 ≤ x1.toInt ∧ x1.toInt < 6300) ∧ (∀ s2, s2 = sl s 218 x1.toInt.toNat a1 → (0 ≤ (s2.1 9).toInt ∧ (s2.1 9).toInt < 3) ∧ ((-2147483648 ≤ a5.toInt + (s2.2.1 220 (s2.1 9).toInt.toNat).toInt ∧ a5.toInt + (s2.2.1 220 (s2.1 9).toInt.toNat).toInt ≤ 2147483647) ∧ (∀ x3 : Int32, x3.toInt = a5.toInt + (s2.2.1 220 (s2.1 9).toInt.toNat).toInt → (0 ≤ x3.toInt ∧ x3.toInt < 6300) ∧ (∀ s4, s4 = sl s2 219 x3.toInt.toNat a3 → (0 ≤ (s4.1 9).toInt ∧ (s4.1 9).toInt < 3) ∧ ((-2147483648 ≤ (s4.2.1 220 (s4.1 9).toInt.toNat).toInt + 1 ∧ (s4.2.1 220 (s4.1 9).toInt.toNat).toInt + 1 ≤ 2147483647) ∧ (∀ x5 : Int32, x5.toInt = (s4.2.1 220 (s4.1 9).toInt.toNat).toInt + 1 → (0 ≤ (s4.1 9).toInt ∧ (s4.1 9).toInt < 3) ∧ (∀ s6, s6 = sa s4 220 (s4.1 9).toInt.toNat x5 → (0 ≤ (s6.1 9).toInt ∧ (s6.1 9).toInt < 3) ∧ ((-2147483648 ≤ (s6.2.1 220 (s6.1 9).toInt.toNat).toInt - 1 ∧ (s6.2.1 220 (s6.1 9).toInt.toNat).toInt - 1 ≤ 2147483647) ∧ (∀ x7 : Int32, x7.toInt = (s6.2.1 220 (s6.1 9).toInt.toNat).toInt - 1 → P (some (.int x7)) s6)))))))))))) ∧ (¬ ((s.2.1 220 (s.1 9).toInt.toNat).toInt ≤ a6.toInt) → (-2147483648 ≤ a5.toInt + a6.toInt ∧ a5.toInt + a6.toInt ≤ 2147483647) ∧ (∀ x8 : Int32, x8.toInt = a5.toInt + a6.toInt → (0 ≤ x8.toInt ∧ x8.toInt < 6300) ∧ ((¬ ((lg_cmp (s.2.2 218 x8.toInt.toNat) a1).toInt = 0) → w_160_34 T R7 a1 a3 a5 a6  s P) ∧ ((lg_cmp (s.2.2 218 x8.toInt.toNat) a1).toInt = 0 → (-2147483648 ≤ a5.toInt + a6.toInt ∧ a5.toInt + a6.toInt ≤ 2147483647) ∧ (∀ x9 : Int32, x9.toInt = a5.toInt + a6.toInt → (0 ≤ x9.toInt ∧ x9.toInt < 6300) ∧ ((¬ ((lg_cmp (s.2.2 219 x9.toInt.toNat) a3).toInt = 0) → w_160_34 T R7 a1 a3 a5 a6  s P) ∧ ((lg_cmp (s.2.2 219 x9.toInt.toNat) a3).toInt = 0 → P (some (.int a6)) s))))))))
set_option maxRecDepth 20000 in
theorem k_160_7 {d : Nat} {R7 : Int64 → Int64 → Int32 → Int32 → yS → Prop} {a1 : Int64} {a3 : Int64} {a5 : Int32} {a6 : Int32} {s : yS} {P : Option Value → yS → Prop} (r7 : ∀ a1 a3 a5 a6 s, R7 a1 a3 a5 a6 s → Go d 7 (some .int) xE_160 (xE_160.drop 7) [.ref 213, .long a1, .null, .long a3, .null, .int a5, .int a6, .null, .null, .null, .null, .null] [] s P) (h : w_160_7 (Tot d) R7 a1 a3 a5 a6 s P) : Go d 7 (some .int) xE_160 (xE_160.drop 7) [.ref 213, .long a1, .null, .long a3, .null, .int a5, .int a6, .null, .null, .null, .null, .null] [] s P := by
  unfold w_160_7 at h
  refine g_ld rfl rfl rfl ?_
  refine g_ld rfl rfl rfl ?_
  refine g_get rfl rfl ?_
  change Go _ _ _ _ _ _ [.ref 220, .int a6] _ _
  refine g_ld rfl rfl rfl ?_
  refine g_get rfl rfl ?_
  change Go _ _ _ _ _ _ [.int (s.1 9), .ref 220, .int a6] _ _
  refine g_ial rfl rfl (i_in (x := s.1 9) rfl h.1) ?_
  change Go _ _ _ _ _ _ [.int (s.2.1 220 (s.1 9).toInt.toNat), .int a6] _ _
  replace h := h.2
  refine g_brP rfl rfl ⟨fun hc => ?_, fun hc => ?_⟩
  · replace h := h.1 ((i_le (x := s.2.1 220 (s.1 9).toInt.toNat) (y := a6) rfl rfl).mp hc)
    refine g_ld rfl rfl rfl ?_
    refine g_get rfl rfl ?_
    change Go _ _ _ _ _ _ [.ref 218] _ _
    refine g_ld rfl rfl rfl ?_
    refine g_ld rfl rfl rfl ?_
    refine g_get rfl rfl ?_
    change Go _ _ _ _ _ _ [.ref 220, .int a5, .ref 218] _ _
    refine g_ld rfl rfl rfl ?_
    refine g_get rfl rfl ?_
    change Go _ _ _ _ _ _ [.int (s.1 9), .ref 220, .int a5, .ref 218] _ _
    refine g_ial rfl rfl (i_in (x := s.1 9) rfl h.1) ?_
    change Go _ _ _ _ _ _ [.int (s.2.1 220 (s.1 9).toInt.toNat), .int a5, .ref 218] _ _
    replace h := h.2
    have ex1 := i_add (x := a5) (y := s.2.1 220 (s.1 9).toInt.toNat) rfl rfl h.1
    replace h := h.2 _ ex1
    refine g_c [.int (a5 + (s.2.1 220 (s.1 9).toInt.toNat)), .ref 218] xo_iadd rfl rfl ?_
    refine g_ld rfl rfl rfl ?_
    refine g_las rfl rfl (i_in (x := (a5 + (s.2.1 220 (s.1 9).toInt.toNat))) rfl h.1) ?_
    replace h := h.2
    replace h := h _ rfl
    refine g_ld rfl rfl rfl ?_
    refine g_get rfl rfl ?_
    change Go _ _ _ _ _ _ [.ref 219] _ _
    refine g_ld rfl rfl rfl ?_
    refine g_ld rfl rfl rfl ?_
    refine g_get rfl rfl ?_
    change Go _ _ _ _ _ _ [.ref 220, .int a5, .ref 219] _ _
    refine g_ld rfl rfl rfl ?_
    refine g_get rfl rfl ?_
    change Go _ _ _ _ _ _ [.int ((sl s 218 (a5 + (s.2.1 220 (s.1 9).toInt.toNat)).toInt.toNat a1).1 9), .ref 220, .int a5, .ref 219] _ _
    refine g_ial rfl rfl (i_in (x := (sl s 218 (a5 + (s.2.1 220 (s.1 9).toInt.toNat)).toInt.toNat a1).1 9) rfl h.1) ?_
    change Go _ _ _ _ _ _ [.int ((sl s 218 (a5 + (s.2.1 220 (s.1 9).toInt.toNat)).toInt.toNat a1).2.1 220 ((sl s 218 (a5 + (s.2.1 220 (s.1 9).toInt.toNat)).toInt.toNat a1).1 9).toInt.toNat), .int a5, .ref 219] _ _
    replace h := h.2
    have ex3 := i_add (x := a5) (y := (sl s 218 (a5 + (s.2.1 220 (s.1 9).toInt.toNat)).toInt.toNat a1).2.1 220 ((sl s 218 (a5 + (s.2.1 220 (s.1 9).toInt.toNat)).toInt.toNat a1).1 9).toInt.toNat) rfl rfl h.1
    replace h := h.2 _ ex3
    refine g_c [.int (a5 + ((sl s 218 (a5 + (s.2.1 220 (s.1 9).toInt.toNat)).toInt.toNat a1).2.1 220 ((sl s 218 (a5 + (s.2.1 220 (s.1 9).toInt.toNat)).toInt.toNat a1).1 9).toInt.toNat)), .ref 219] xo_iadd rfl rfl ?_
    refine g_ld rfl rfl rfl ?_
    refine g_las rfl rfl (i_in (x := (a5 + ((sl s 218 (a5 + (s.2.1 220 (s.1 9).toInt.toNat)).toInt.toNat a1).2.1 220 ((sl s 218 (a5 + (s.2.1 220 (s.1 9).toInt.toNat)).toInt.toNat a1).1 9).toInt.toNat))) rfl h.1) ?_
    replace h := h.2
    replace h := h _ rfl
    refine g_ld rfl rfl rfl ?_
    refine g_get rfl rfl ?_
    change Go _ _ _ _ _ _ [.ref 220] _ _
    refine g_ld rfl rfl rfl ?_
    refine g_get rfl rfl ?_
    change Go _ _ _ _ _ _ [.int ((sl (sl s 218 (a5 + (s.2.1 220 (s.1 9).toInt.toNat)).toInt.toNat a1) 219 (a5 + ((sl s 218 (a5 + (s.2.1 220 (s.1 9).toInt.toNat)).toInt.toNat a1).2.1 220 ((sl s 218 (a5 + (s.2.1 220 (s.1 9).toInt.toNat)).toInt.toNat a1).1 9).toInt.toNat)).toInt.toNat a3).1 9), .ref 220] _ _
    refine g_c [.int ((sl (sl s 218 (a5 + (s.2.1 220 (s.1 9).toInt.toNat)).toInt.toNat a1) 219 (a5 + ((sl s 218 (a5 + (s.2.1 220 (s.1 9).toInt.toNat)).toInt.toNat a1).2.1 220 ((sl s 218 (a5 + (s.2.1 220 (s.1 9).toInt.toNat)).toInt.toNat a1).1 9).toInt.toNat)).toInt.toNat a3).1 9), .ref 220, .int ((sl (sl s 218 (a5 + (s.2.1 220 (s.1 9).toInt.toNat)).toInt.toNat a1) 219 (a5 + ((sl s 218 (a5 + (s.2.1 220 (s.1 9).toInt.toNat)).toInt.toNat a1).2.1 220 ((sl s 218 (a5 + (s.2.1 220 (s.1 9).toInt.toNat)).toInt.toNat a1).1 9).toInt.toNat)).toInt.toNat a3).1 9), .ref 220] xo_dup2 rfl rfl ?_
    refine g_ial rfl rfl (i_in (x := (sl (sl s 218 (a5 + (s.2.1 220 (s.1 9).toInt.toNat)).toInt.toNat a1) 219 (a5 + ((sl s 218 (a5 + (s.2.1 220 (s.1 9).toInt.toNat)).toInt.toNat a1).2.1 220 ((sl s 218 (a5 + (s.2.1 220 (s.1 9).toInt.toNat)).toInt.toNat a1).1 9).toInt.toNat)).toInt.toNat a3).1 9) rfl h.1) ?_
    change Go _ _ _ _ _ _ [.int ((sl (sl s 218 (a5 + (s.2.1 220 (s.1 9).toInt.toNat)).toInt.toNat a1) 219 (a5 + ((sl s 218 (a5 + (s.2.1 220 (s.1 9).toInt.toNat)).toInt.toNat a1).2.1 220 ((sl s 218 (a5 + (s.2.1 220 (s.1 9).toInt.toNat)).toInt.toNat a1).1 9).toInt.toNat)).toInt.toNat a3).2.1 220 ((sl (sl s 218 (a5 + (s.2.1 220 (s.1 9).toInt.toNat)).toInt.toNat a1) 219 (a5 + ((sl s 218 (a5 + (s.2.1 220 (s.1 9).toInt.toNat)).toInt.toNat a1).2.1 220 ((sl s 218 (a5 + (s.2.1 220 (s.1 9).toInt.toNat)).toInt.toNat a1).1 9).toInt.toNat)).toInt.toNat a3).1 9).toInt.toNat), .int ((sl (sl s 218 (a5 + (s.2.1 220 (s.1 9).toInt.toNat)).toInt.toNat a1) 219 (a5 + ((sl s 218 (a5 + (s.2.1 220 (s.1 9).toInt.toNat)).toInt.toNat a1).2.1 220 ((sl s 218 (a5 + (s.2.1 220 (s.1 9).toInt.toNat)).toInt.toNat a1).1 9).toInt.toNat)).toInt.toNat a3).1 9), .ref 220] _ _
    replace h := h.2
    refine g_c [.int 1, .int ((sl (sl s 218 (a5 + (s.2.1 220 (s.1 9).toInt.toNat)).toInt.toNat a1) 219 (a5 + ((sl s 218 (a5 + (s.2.1 220 (s.1 9).toInt.toNat)).toInt.toNat a1).2.1 220 ((sl s 218 (a5 + (s.2.1 220 (s.1 9).toInt.toNat)).toInt.toNat a1).1 9).toInt.toNat)).toInt.toNat a3).2.1 220 ((sl (sl s 218 (a5 + (s.2.1 220 (s.1 9).toInt.toNat)).toInt.toNat a1) 219 (a5 + ((sl s 218 (a5 + (s.2.1 220 (s.1 9).toInt.toNat)).toInt.toNat a1).2.1 220 ((sl s 218 (a5 + (s.2.1 220 (s.1 9).toInt.toNat)).toInt.toNat a1).1 9).toInt.toNat)).toInt.toNat a3).1 9).toInt.toNat), .int ((sl (sl s 218 (a5 + (s.2.1 220 (s.1 9).toInt.toNat)).toInt.toNat a1) 219 (a5 + ((sl s 218 (a5 + (s.2.1 220 (s.1 9).toInt.toNat)).toInt.toNat a1).2.1 220 ((sl s 218 (a5 + (s.2.1 220 (s.1 9).toInt.toNat)).toInt.toNat a1).1 9).toInt.toNat)).toInt.toNat a3).1 9), .ref 220] (xo_push (.int 1)) rfl rfl ?_
    have ex5 := i_add (x := (sl (sl s 218 (a5 + (s.2.1 220 (s.1 9).toInt.toNat)).toInt.toNat a1) 219 (a5 + ((sl s 218 (a5 + (s.2.1 220 (s.1 9).toInt.toNat)).toInt.toNat a1).2.1 220 ((sl s 218 (a5 + (s.2.1 220 (s.1 9).toInt.toNat)).toInt.toNat a1).1 9).toInt.toNat)).toInt.toNat a3).2.1 220 ((sl (sl s 218 (a5 + (s.2.1 220 (s.1 9).toInt.toNat)).toInt.toNat a1) 219 (a5 + ((sl s 218 (a5 + (s.2.1 220 (s.1 9).toInt.toNat)).toInt.toNat a1).2.1 220 ((sl s 218 (a5 + (s.2.1 220 (s.1 9).toInt.toNat)).toInt.toNat a1).1 9).toInt.toNat)).toInt.toNat a3).1 9).toInt.toNat) (y := 1) rfl (show (1 : Int32).toInt = 1 by decide) h.1
    replace h := h.2 _ ex5
    refine g_c [.int (((sl (sl s 218 (a5 + (s.2.1 220 (s.1 9).toInt.toNat)).toInt.toNat a1) 219 (a5 + ((sl s 218 (a5 + (s.2.1 220 (s.1 9).toInt.toNat)).toInt.toNat a1).2.1 220 ((sl s 218 (a5 + (s.2.1 220 (s.1 9).toInt.toNat)).toInt.toNat a1).1 9).toInt.toNat)).toInt.toNat a3).2.1 220 ((sl (sl s 218 (a5 + (s.2.1 220 (s.1 9).toInt.toNat)).toInt.toNat a1) 219 (a5 + ((sl s 218 (a5 + (s.2.1 220 (s.1 9).toInt.toNat)).toInt.toNat a1).2.1 220 ((sl s 218 (a5 + (s.2.1 220 (s.1 9).toInt.toNat)).toInt.toNat a1).1 9).toInt.toNat)).toInt.toNat a3).1 9).toInt.toNat) + 1), .int ((sl (sl s 218 (a5 + (s.2.1 220 (s.1 9).toInt.toNat)).toInt.toNat a1) 219 (a5 + ((sl s 218 (a5 + (s.2.1 220 (s.1 9).toInt.toNat)).toInt.toNat a1).2.1 220 ((sl s 218 (a5 + (s.2.1 220 (s.1 9).toInt.toNat)).toInt.toNat a1).1 9).toInt.toNat)).toInt.toNat a3).1 9), .ref 220] xo_iadd rfl rfl ?_
    refine g_ias rfl rfl (i_in (x := (sl (sl s 218 (a5 + (s.2.1 220 (s.1 9).toInt.toNat)).toInt.toNat a1) 219 (a5 + ((sl s 218 (a5 + (s.2.1 220 (s.1 9).toInt.toNat)).toInt.toNat a1).2.1 220 ((sl s 218 (a5 + (s.2.1 220 (s.1 9).toInt.toNat)).toInt.toNat a1).1 9).toInt.toNat)).toInt.toNat a3).1 9) rfl h.1) ?_
    replace h := h.2
    replace h := h _ rfl
    refine g_ld rfl rfl rfl ?_
    refine g_get rfl rfl ?_
    change Go _ _ _ _ _ _ [.ref 220] _ _
    refine g_ld rfl rfl rfl ?_
    refine g_get rfl rfl ?_
    change Go _ _ _ _ _ _ [.int ((sa (sl (sl s 218 (a5 + (s.2.1 220 (s.1 9).toInt.toNat)).toInt.toNat a1) 219 (a5 + ((sl s 218 (a5 + (s.2.1 220 (s.1 9).toInt.toNat)).toInt.toNat a1).2.1 220 ((sl s 218 (a5 + (s.2.1 220 (s.1 9).toInt.toNat)).toInt.toNat a1).1 9).toInt.toNat)).toInt.toNat a3) 220 ((sl (sl s 218 (a5 + (s.2.1 220 (s.1 9).toInt.toNat)).toInt.toNat a1) 219 (a5 + ((sl s 218 (a5 + (s.2.1 220 (s.1 9).toInt.toNat)).toInt.toNat a1).2.1 220 ((sl s 218 (a5 + (s.2.1 220 (s.1 9).toInt.toNat)).toInt.toNat a1).1 9).toInt.toNat)).toInt.toNat a3).1 9).toInt.toNat (((sl (sl s 218 (a5 + (s.2.1 220 (s.1 9).toInt.toNat)).toInt.toNat a1) 219 (a5 + ((sl s 218 (a5 + (s.2.1 220 (s.1 9).toInt.toNat)).toInt.toNat a1).2.1 220 ((sl s 218 (a5 + (s.2.1 220 (s.1 9).toInt.toNat)).toInt.toNat a1).1 9).toInt.toNat)).toInt.toNat a3).2.1 220 ((sl (sl s 218 (a5 + (s.2.1 220 (s.1 9).toInt.toNat)).toInt.toNat a1) 219 (a5 + ((sl s 218 (a5 + (s.2.1 220 (s.1 9).toInt.toNat)).toInt.toNat a1).2.1 220 ((sl s 218 (a5 + (s.2.1 220 (s.1 9).toInt.toNat)).toInt.toNat a1).1 9).toInt.toNat)).toInt.toNat a3).1 9).toInt.toNat) + 1)).1 9), .ref 220] _ _
    refine g_ial rfl rfl (i_in (x := (sa (sl (sl s 218 (a5 + (s.2.1 220 (s.1 9).toInt.toNat)).toInt.toNat a1) 219 (a5 + ((sl s 218 (a5 + (s.2.1 220 (s.1 9).toInt.toNat)).toInt.toNat a1).2.1 220 ((sl s 218 (a5 + (s.2.1 220 (s.1 9).toInt.toNat)).toInt.toNat a1).1 9).toInt.toNat)).toInt.toNat a3) 220 ((sl (sl s 218 (a5 + (s.2.1 220 (s.1 9).toInt.toNat)).toInt.toNat a1) 219 (a5 + ((sl s 218 (a5 + (s.2.1 220 (s.1 9).toInt.toNat)).toInt.toNat a1).2.1 220 ((sl s 218 (a5 + (s.2.1 220 (s.1 9).toInt.toNat)).toInt.toNat a1).1 9).toInt.toNat)).toInt.toNat a3).1 9).toInt.toNat (((sl (sl s 218 (a5 + (s.2.1 220 (s.1 9).toInt.toNat)).toInt.toNat a1) 219 (a5 + ((sl s 218 (a5 + (s.2.1 220 (s.1 9).toInt.toNat)).toInt.toNat a1).2.1 220 ((sl s 218 (a5 + (s.2.1 220 (s.1 9).toInt.toNat)).toInt.toNat a1).1 9).toInt.toNat)).toInt.toNat a3).2.1 220 ((sl (sl s 218 (a5 + (s.2.1 220 (s.1 9).toInt.toNat)).toInt.toNat a1) 219 (a5 + ((sl s 218 (a5 + (s.2.1 220 (s.1 9).toInt.toNat)).toInt.toNat a1).2.1 220 ((sl s 218 (a5 + (s.2.1 220 (s.1 9).toInt.toNat)).toInt.toNat a1).1 9).toInt.toNat)).toInt.toNat a3).1 9).toInt.toNat) + 1)).1 9) rfl h.1) ?_
    change Go _ _ _ _ _ _ [.int ((sa (sl (sl s 218 (a5 + (s.2.1 220 (s.1 9).toInt.toNat)).toInt.toNat a1) 219 (a5 + ((sl s 218 (a5 + (s.2.1 220 (s.1 9).toInt.toNat)).toInt.toNat a1).2.1 220 ((sl s 218 (a5 + (s.2.1 220 (s.1 9).toInt.toNat)).toInt.toNat a1).1 9).toInt.toNat)).toInt.toNat a3) 220 ((sl (sl s 218 (a5 + (s.2.1 220 (s.1 9).toInt.toNat)).toInt.toNat a1) 219 (a5 + ((sl s 218 (a5 + (s.2.1 220 (s.1 9).toInt.toNat)).toInt.toNat a1).2.1 220 ((sl s 218 (a5 + (s.2.1 220 (s.1 9).toInt.toNat)).toInt.toNat a1).1 9).toInt.toNat)).toInt.toNat a3).1 9).toInt.toNat (((sl (sl s 218 (a5 + (s.2.1 220 (s.1 9).toInt.toNat)).toInt.toNat a1) 219 (a5 + ((sl s 218 (a5 + (s.2.1 220 (s.1 9).toInt.toNat)).toInt.toNat a1).2.1 220 ((sl s 218 (a5 + (s.2.1 220 (s.1 9).toInt.toNat)).toInt.toNat a1).1 9).toInt.toNat)).toInt.toNat a3).2.1 220 ((sl (sl s 218 (a5 + (s.2.1 220 (s.1 9).toInt.toNat)).toInt.toNat a1) 219 (a5 + ((sl s 218 (a5 + (s.2.1 220 (s.1 9).toInt.toNat)).toInt.toNat a1).2.1 220 ((sl s 218 (a5 + (s.2.1 220 (s.1 9).toInt.toNat)).toInt.toNat a1).1 9).toInt.toNat)).toInt.toNat a3).1 9).toInt.toNat) + 1)).2.1 220 ((sa (sl (sl s 218 (a5 + (s.2.1 220 (s.1 9).toInt.toNat)).toInt.toNat a1) 219 (a5 + ((sl s 218 (a5 + (s.2.1 220 (s.1 9).toInt.toNat)).toInt.toNat a1).2.1 220 ((sl s 218 (a5 + (s.2.1 220 (s.1 9).toInt.toNat)).toInt.toNat a1).1 9).toInt.toNat)).toInt.toNat a3) 220 ((sl (sl s 218 (a5 + (s.2.1 220 (s.1 9).toInt.toNat)).toInt.toNat a1) 219 (a5 + ((sl s 218 (a5 + (s.2.1 220 (s.1 9).toInt.toNat)).toInt.toNat a1).2.1 220 ((sl s 218 (a5 + (s.2.1 220 (s.1 9).toInt.toNat)).toInt.toNat a1).1 9).toInt.toNat)).toInt.toNat a3).1 9).toInt.toNat (((sl (sl s 218 (a5 + (s.2.1 220 (s.1 9).toInt.toNat)).toInt.toNat a1) 219 (a5 + ((sl s 218 (a5 + (s.2.1 220 (s.1 9).toInt.toNat)).toInt.toNat a1).2.1 220 ((sl s 218 (a5 + (s.2.1 220 (s.1 9).toInt.toNat)).toInt.toNat a1).1 9).toInt.toNat)).toInt.toNat a3).2.1 220 ((sl (sl s 218 (a5 + (s.2.1 220 (s.1 9).toInt.toNat)).toInt.toNat a1) 219 (a5 + ((sl s 218 (a5 + (s.2.1 220 (s.1 9).toInt.toNat)).toInt.toNat a1).2.1 220 ((sl s 218 (a5 + (s.2.1 220 (s.1 9).toInt.toNat)).toInt.toNat a1).1 9).toInt.toNat)).toInt.toNat a3).1 9).toInt.toNat) + 1)).1 9).toInt.toNat)] _ _
    replace h := h.2
    refine g_c [.int 1, .int ((sa (sl (sl s 218 (a5 + (s.2.1 220 (s.1 9).toInt.toNat)).toInt.toNat a1) 219 (a5 + ((sl s 218 (a5 + (s.2.1 220 (s.1 9).toInt.toNat)).toInt.toNat a1).2.1 220 ((sl s 218 (a5 + (s.2.1 220 (s.1 9).toInt.toNat)).toInt.toNat a1).1 9).toInt.toNat)).toInt.toNat a3) 220 ((sl (sl s 218 (a5 + (s.2.1 220 (s.1 9).toInt.toNat)).toInt.toNat a1) 219 (a5 + ((sl s 218 (a5 + (s.2.1 220 (s.1 9).toInt.toNat)).toInt.toNat a1).2.1 220 ((sl s 218 (a5 + (s.2.1 220 (s.1 9).toInt.toNat)).toInt.toNat a1).1 9).toInt.toNat)).toInt.toNat a3).1 9).toInt.toNat (((sl (sl s 218 (a5 + (s.2.1 220 (s.1 9).toInt.toNat)).toInt.toNat a1) 219 (a5 + ((sl s 218 (a5 + (s.2.1 220 (s.1 9).toInt.toNat)).toInt.toNat a1).2.1 220 ((sl s 218 (a5 + (s.2.1 220 (s.1 9).toInt.toNat)).toInt.toNat a1).1 9).toInt.toNat)).toInt.toNat a3).2.1 220 ((sl (sl s 218 (a5 + (s.2.1 220 (s.1 9).toInt.toNat)).toInt.toNat a1) 219 (a5 + ((sl s 218 (a5 + (s.2.1 220 (s.1 9).toInt.toNat)).toInt.toNat a1).2.1 220 ((sl s 218 (a5 + (s.2.1 220 (s.1 9).toInt.toNat)).toInt.toNat a1).1 9).toInt.toNat)).toInt.toNat a3).1 9).toInt.toNat) + 1)).2.1 220 ((sa (sl (sl s 218 (a5 + (s.2.1 220 (s.1 9).toInt.toNat)).toInt.toNat a1) 219 (a5 + ((sl s 218 (a5 + (s.2.1 220 (s.1 9).toInt.toNat)).toInt.toNat a1).2.1 220 ((sl s 218 (a5 + (s.2.1 220 (s.1 9).toInt.toNat)).toInt.toNat a1).1 9).toInt.toNat)).toInt.toNat a3) 220 ((sl (sl s 218 (a5 + (s.2.1 220 (s.1 9).toInt.toNat)).toInt.toNat a1) 219 (a5 + ((sl s 218 (a5 + (s.2.1 220 (s.1 9).toInt.toNat)).toInt.toNat a1).2.1 220 ((sl s 218 (a5 + (s.2.1 220 (s.1 9).toInt.toNat)).toInt.toNat a1).1 9).toInt.toNat)).toInt.toNat a3).1 9).toInt.toNat (((sl (sl s 218 (a5 + (s.2.1 220 (s.1 9).toInt.toNat)).toInt.toNat a1) 219 (a5 + ((sl s 218 (a5 + (s.2.1 220 (s.1 9).toInt.toNat)).toInt.toNat a1).2.1 220 ((sl s 218 (a5 + (s.2.1 220 (s.1 9).toInt.toNat)).toInt.toNat a1).1 9).toInt.toNat)).toInt.toNat a3).2.1 220 ((sl (sl s 218 (a5 + (s.2.1 220 (s.1 9).toInt.toNat)).toInt.toNat a1) 219 (a5 + ((sl s 218 (a5 + (s.2.1 220 (s.1 9).toInt.toNat)).toInt.toNat a1).2.1 220 ((sl s 218 (a5 + (s.2.1 220 (s.1 9).toInt.toNat)).toInt.toNat a1).1 9).toInt.toNat)).toInt.toNat a3).1 9).toInt.toNat) + 1)).1 9).toInt.toNat)] (xo_push (.int 1)) rfl rfl ?_
    have ex7 := i_sub (x := (sa (sl (sl s 218 (a5 + (s.2.1 220 (s.1 9).toInt.toNat)).toInt.toNat a1) 219 (a5 + ((sl s 218 (a5 + (s.2.1 220 (s.1 9).toInt.toNat)).toInt.toNat a1).2.1 220 ((sl s 218 (a5 + (s.2.1 220 (s.1 9).toInt.toNat)).toInt.toNat a1).1 9).toInt.toNat)).toInt.toNat a3) 220 ((sl (sl s 218 (a5 + (s.2.1 220 (s.1 9).toInt.toNat)).toInt.toNat a1) 219 (a5 + ((sl s 218 (a5 + (s.2.1 220 (s.1 9).toInt.toNat)).toInt.toNat a1).2.1 220 ((sl s 218 (a5 + (s.2.1 220 (s.1 9).toInt.toNat)).toInt.toNat a1).1 9).toInt.toNat)).toInt.toNat a3).1 9).toInt.toNat (((sl (sl s 218 (a5 + (s.2.1 220 (s.1 9).toInt.toNat)).toInt.toNat a1) 219 (a5 + ((sl s 218 (a5 + (s.2.1 220 (s.1 9).toInt.toNat)).toInt.toNat a1).2.1 220 ((sl s 218 (a5 + (s.2.1 220 (s.1 9).toInt.toNat)).toInt.toNat a1).1 9).toInt.toNat)).toInt.toNat a3).2.1 220 ((sl (sl s 218 (a5 + (s.2.1 220 (s.1 9).toInt.toNat)).toInt.toNat a1) 219 (a5 + ((sl s 218 (a5 + (s.2.1 220 (s.1 9).toInt.toNat)).toInt.toNat a1).2.1 220 ((sl s 218 (a5 + (s.2.1 220 (s.1 9).toInt.toNat)).toInt.toNat a1).1 9).toInt.toNat)).toInt.toNat a3).1 9).toInt.toNat) + 1)).2.1 220 ((sa (sl (sl s 218 (a5 + (s.2.1 220 (s.1 9).toInt.toNat)).toInt.toNat a1) 219 (a5 + ((sl s 218 (a5 + (s.2.1 220 (s.1 9).toInt.toNat)).toInt.toNat a1).2.1 220 ((sl s 218 (a5 + (s.2.1 220 (s.1 9).toInt.toNat)).toInt.toNat a1).1 9).toInt.toNat)).toInt.toNat a3) 220 ((sl (sl s 218 (a5 + (s.2.1 220 (s.1 9).toInt.toNat)).toInt.toNat a1) 219 (a5 + ((sl s 218 (a5 + (s.2.1 220 (s.1 9).toInt.toNat)).toInt.toNat a1).2.1 220 ((sl s 218 (a5 + (s.2.1 220 (s.1 9).toInt.toNat)).toInt.toNat a1).1 9).toInt.toNat)).toInt.toNat a3).1 9).toInt.toNat (((sl (sl s 218 (a5 + (s.2.1 220 (s.1 9).toInt.toNat)).toInt.toNat a1) 219 (a5 + ((sl s 218 (a5 + (s.2.1 220 (s.1 9).toInt.toNat)).toInt.toNat a1).2.1 220 ((sl s 218 (a5 + (s.2.1 220 (s.1 9).toInt.toNat)).toInt.toNat a1).1 9).toInt.toNat)).toInt.toNat a3).2.1 220 ((sl (sl s 218 (a5 + (s.2.1 220 (s.1 9).toInt.toNat)).toInt.toNat a1) 219 (a5 + ((sl s 218 (a5 + (s.2.1 220 (s.1 9).toInt.toNat)).toInt.toNat a1).2.1 220 ((sl s 218 (a5 + (s.2.1 220 (s.1 9).toInt.toNat)).toInt.toNat a1).1 9).toInt.toNat)).toInt.toNat a3).1 9).toInt.toNat) + 1)).1 9).toInt.toNat) (y := 1) rfl (show (1 : Int32).toInt = 1 by decide) h.1
    replace h := h.2 _ ex7
    refine g_c [.int (((sa (sl (sl s 218 (a5 + (s.2.1 220 (s.1 9).toInt.toNat)).toInt.toNat a1) 219 (a5 + ((sl s 218 (a5 + (s.2.1 220 (s.1 9).toInt.toNat)).toInt.toNat a1).2.1 220 ((sl s 218 (a5 + (s.2.1 220 (s.1 9).toInt.toNat)).toInt.toNat a1).1 9).toInt.toNat)).toInt.toNat a3) 220 ((sl (sl s 218 (a5 + (s.2.1 220 (s.1 9).toInt.toNat)).toInt.toNat a1) 219 (a5 + ((sl s 218 (a5 + (s.2.1 220 (s.1 9).toInt.toNat)).toInt.toNat a1).2.1 220 ((sl s 218 (a5 + (s.2.1 220 (s.1 9).toInt.toNat)).toInt.toNat a1).1 9).toInt.toNat)).toInt.toNat a3).1 9).toInt.toNat (((sl (sl s 218 (a5 + (s.2.1 220 (s.1 9).toInt.toNat)).toInt.toNat a1) 219 (a5 + ((sl s 218 (a5 + (s.2.1 220 (s.1 9).toInt.toNat)).toInt.toNat a1).2.1 220 ((sl s 218 (a5 + (s.2.1 220 (s.1 9).toInt.toNat)).toInt.toNat a1).1 9).toInt.toNat)).toInt.toNat a3).2.1 220 ((sl (sl s 218 (a5 + (s.2.1 220 (s.1 9).toInt.toNat)).toInt.toNat a1) 219 (a5 + ((sl s 218 (a5 + (s.2.1 220 (s.1 9).toInt.toNat)).toInt.toNat a1).2.1 220 ((sl s 218 (a5 + (s.2.1 220 (s.1 9).toInt.toNat)).toInt.toNat a1).1 9).toInt.toNat)).toInt.toNat a3).1 9).toInt.toNat) + 1)).2.1 220 ((sa (sl (sl s 218 (a5 + (s.2.1 220 (s.1 9).toInt.toNat)).toInt.toNat a1) 219 (a5 + ((sl s 218 (a5 + (s.2.1 220 (s.1 9).toInt.toNat)).toInt.toNat a1).2.1 220 ((sl s 218 (a5 + (s.2.1 220 (s.1 9).toInt.toNat)).toInt.toNat a1).1 9).toInt.toNat)).toInt.toNat a3) 220 ((sl (sl s 218 (a5 + (s.2.1 220 (s.1 9).toInt.toNat)).toInt.toNat a1) 219 (a5 + ((sl s 218 (a5 + (s.2.1 220 (s.1 9).toInt.toNat)).toInt.toNat a1).2.1 220 ((sl s 218 (a5 + (s.2.1 220 (s.1 9).toInt.toNat)).toInt.toNat a1).1 9).toInt.toNat)).toInt.toNat a3).1 9).toInt.toNat (((sl (sl s 218 (a5 + (s.2.1 220 (s.1 9).toInt.toNat)).toInt.toNat a1) 219 (a5 + ((sl s 218 (a5 + (s.2.1 220 (s.1 9).toInt.toNat)).toInt.toNat a1).2.1 220 ((sl s 218 (a5 + (s.2.1 220 (s.1 9).toInt.toNat)).toInt.toNat a1).1 9).toInt.toNat)).toInt.toNat a3).2.1 220 ((sl (sl s 218 (a5 + (s.2.1 220 (s.1 9).toInt.toNat)).toInt.toNat a1) 219 (a5 + ((sl s 218 (a5 + (s.2.1 220 (s.1 9).toInt.toNat)).toInt.toNat a1).2.1 220 ((sl s 218 (a5 + (s.2.1 220 (s.1 9).toInt.toNat)).toInt.toNat a1).1 9).toInt.toNat)).toInt.toNat a3).1 9).toInt.toNat) + 1)).1 9).toInt.toNat) - 1)] xo_isub rfl rfl ?_
    exact g_retI rfl h
  · replace h := h.2 (fun q => hc ((i_le (x := s.2.1 220 (s.1 9).toInt.toNat) (y := a6) rfl rfl).mpr q))
    refine g_ld rfl rfl rfl ?_
    refine g_get rfl rfl ?_
    change Go _ _ _ _ _ _ [.ref 218] _ _
    refine g_ld rfl rfl rfl ?_
    refine g_ld rfl rfl rfl ?_
    have ex8 := i_add (x := a5) (y := a6) rfl rfl h.1
    replace h := h.2 _ ex8
    refine g_c [.int (a5 + a6), .ref 218] xo_iadd rfl rfl ?_
    refine g_lal rfl rfl (i_in (x := (a5 + a6)) rfl h.1) ?_
    change Go _ _ _ _ _ _ [.long (s.2.2 218 (a5 + a6).toInt.toNat)] _ _
    replace h := h.2
    refine g_ld rfl rfl rfl ?_
    refine g_c [.int (lg_cmp (s.2.2 218 (a5 + a6).toInt.toNat) a1)] xo_lcmp rfl rfl ?_
    refine g_brN rfl rfl ⟨fun hc => ?_, fun hc => ?_⟩
    · replace h := h.1 (fun q => hc ((i_eq (x := lg_cmp (s.2.2 218 (a5 + a6).toInt.toNat) a1) (y := 0) rfl (show (0 : Int32).toInt = 0 by decide)).mpr q))
      exact k_160_34 r7 h
    · replace h := h.2 ((i_eq (x := lg_cmp (s.2.2 218 (a5 + a6).toInt.toNat) a1) (y := 0) rfl (show (0 : Int32).toInt = 0 by decide)).mp hc)
      refine g_ld rfl rfl rfl ?_
      refine g_get rfl rfl ?_
      change Go _ _ _ _ _ _ [.ref 219] _ _
      refine g_ld rfl rfl rfl ?_
      refine g_ld rfl rfl rfl ?_
      have ex9 := i_add (x := a5) (y := a6) rfl rfl h.1
      replace h := h.2 _ ex9
      refine g_c [.int (a5 + a6), .ref 219] xo_iadd rfl rfl ?_
      refine g_lal rfl rfl (i_in (x := (a5 + a6)) rfl h.1) ?_
      change Go _ _ _ _ _ _ [.long (s.2.2 219 (a5 + a6).toInt.toNat)] _ _
      replace h := h.2
      refine g_ld rfl rfl rfl ?_
      refine g_c [.int (lg_cmp (s.2.2 219 (a5 + a6).toInt.toNat) a3)] xo_lcmp rfl rfl ?_
      refine g_brN rfl rfl ⟨fun hc => ?_, fun hc => ?_⟩
      · replace h := h.1 (fun q => hc ((i_eq (x := lg_cmp (s.2.2 219 (a5 + a6).toInt.toNat) a3) (y := 0) rfl (show (0 : Int32).toInt = 0 by decide)).mpr q))
        exact k_160_34 r7 h
      · replace h := h.2 ((i_eq (x := lg_cmp (s.2.2 219 (a5 + a6).toInt.toNat) a3) (y := 0) rfl (show (0 : Int32).toInt = 0 by decide)).mp hc)
        refine g_ld rfl rfl rfl ?_
        exact g_retI rfl h
def wl_160_7 (T : Nat → List Value → yS → (Option Value → yS → Prop) → Prop)  (a1 : Int64) (a3 : Int64) (a5 : Int32) (a6 : Int32) (s : yS) (P : Option Value → yS → Prop) : Prop :=
  ∃ (I : Int64 → Int64 → Int32 → Int32 → yS → Prop) (μ : Int64 → Int64 → Int32 → Int32 → yS → Nat), I a1 a3 a5 a6 s ∧ ∀ (a1 : Int64) (a3 : Int64) (a5 : Int32) (a6 : Int32) (s : yS), I a1 a3 a5 a6 s → w_160_7 T (fun a1' a3' a5' a6' s' => I a1' a3' a5' a6' s' ∧ μ a1' a3' a5' a6' s' < μ a1 a3 a5 a6 s) a1 a3 a5 a6 s P
theorem kl_160_7 {d : Nat}  {a1 : Int64} {a3 : Int64} {a5 : Int32} {a6 : Int32} {s : yS} {P : Option Value → yS → Prop}  (h : wl_160_7 (Tot d)  a1 a3 a5 a6 s P) : Go d 7 (some .int) xE_160 (xE_160.drop 7) [.ref 213, .long a1, .null, .long a3, .null, .int a5, .int a6, .null, .null, .null, .null, .null] [] s P := by
  obtain ⟨I, μ, h0, h1⟩ := h
  have key : ∀ (n : Nat) (a1 : Int64) (a3 : Int64) (a5 : Int32) (a6 : Int32) (s : yS), μ a1 a3 a5 a6 s = n → I a1 a3 a5 a6 s → Go d 7 (some .int) xE_160 (xE_160.drop 7) [.ref 213, .long a1, .null, .long a3, .null, .int a5, .int a6, .null, .null, .null, .null, .null] [] s P := by
    intro n
    induction n using Nat.strongRecOn with
    | ind n ih =>
      intro a1 a3 a5 a6 s e hI
      exact k_160_7 (fun a1' a3' a5' a6' s' q => ih _ (by rw [← e]; exact q.2) _ _ _ _ _ rfl q.1) (h1 a1 a3 a5 a6 s hI)
  exact key _ a1 a3 a5 a6 s rfl h0
def w_160_0 (T : Nat → List Value → yS → (Option Value → yS → Prop) → Prop)  (a1 : Int64) (a3 : Int64) (s : yS) (P : Option Value → yS → Prop) : Prop :=
  (-2147483648 ≤ 2100 * (s.1 9).toInt ∧ 2100 * (s.1 9).toInt ≤ 2147483647) ∧ (∀ x1 : Int32, x1.toInt = 2100 * (s.1 9).toInt → wl_160_7 T  a1 a3 x1 0  s P)
set_option maxRecDepth 20000 in
theorem k_160_0 {d : Nat}  {a1 : Int64} {a3 : Int64} {s : yS} {P : Option Value → yS → Prop}  (h : w_160_0 (Tot d)  a1 a3 s P) : Go d 7 (some .int) xE_160 (xE_160.drop 0) [.ref 213, .long a1, .null, .long a3, .null, .null, .null, .null, .null, .null, .null, .null] [] s P := by
  unfold w_160_0 at h
  refine g_c [.int 2100] (xo_push (.int 2100)) rfl rfl ?_
  refine g_ld rfl rfl rfl ?_
  refine g_get rfl rfl ?_
  change Go _ _ _ _ _ _ [.int (s.1 9), .int 2100] _ _
  have ex1 := i_mul (x := 2100) (y := s.1 9) (show (2100 : Int32).toInt = 2100 by decide) rfl h.1
  replace h := h.2 _ ex1
  refine g_c [.int (2100 * (s.1 9))] xo_imul rfl rfl ?_
  refine g_st [.ref 213, .long a1, .null, .long a3, .null, .int (2100 * (s.1 9)), .null, .null, .null, .null, .null, .null] rfl rfl rfl ?_
  refine g_c [.int 0] (xo_push (.int 0)) rfl rfl ?_
  refine g_st [.ref 213, .long a1, .null, .long a3, .null, .int (2100 * (s.1 9)), .int 0, .null, .null, .null, .null, .null] rfl rfl rfl ?_
  exact kl_160_7  h
theorem t_160 {d : Nat} {a1 : Int64} {a3 : Int64} {s : yS} {P : Option Value → yS → Prop} (h : w_160_0 (Tot d) a1 a3 s P) : Tot (d + 1) 160 [.ref 213, .long a1, .long a3] s P := tot_of (E := xE_160) (ml := 7) (ret := some .int) rfl rfl rfl (k_160_0 h)
/-! keptWords -/
def w_161_37 (T : Nat → List Value → yS → (Option Value → yS → Prop) → Prop) (R10 : Int64 → Int32 → yS → Prop) (a1 : Int64) (a3 : Int32) (a4 : Int32) (s : yS) (P : Option Value → yS → Prop) : Prop :=
  (-2147483648 ≤ a3.toInt + 1 ∧ a3.toInt + 1 ≤ 2147483647) ∧ (∀ x1 : Int32, x1.toInt = a3.toInt + 1 → R10 a1 x1  s)
set_option maxRecDepth 20000 in
theorem k_161_37 {d : Nat} {R10 : Int64 → Int32 → yS → Prop} {a1 : Int64} {a3 : Int32} {a4 : Int32} {s : yS} {P : Option Value → yS → Prop} (r10 : ∀ a1 a3 s, R10 a1 a3 s → Go d 6 (none) xE_161 (xE_161.drop 10) [.ref 213, .long a1, .null, .int a3, .null, .null, .null] [] s P) (h : w_161_37 (Tot d) R10 a1 a3 a4 s P) : Go d 6 (none) xE_161 (xE_161.drop 37) [.ref 213, .long a1, .null, .int a3, .int a4, .null, .null] [] s P := by
  unfold w_161_37 at h
  have ex1 := i_add (x := a3) (y := 1) rfl (show (1 : Int32).toInt = 1 by decide) h.1
  replace h := h.2 _ ex1
  refine g_inc [.ref 213, .long a1, .null, .int (a3 + 1), .int a4, .null, .null] rfl rfl rfl rfl ?_
  refine g_go rfl ?_
  refine g_fg 4 ?_
  exact r10 a1 (a3 + 1)  s h
def w_161_10 (T : Nat → List Value → yS → (Option Value → yS → Prop) → Prop) (R10 : Int64 → Int32 → yS → Prop) (a1 : Int64) (a3 : Int32) (s : yS) (P : Option Value → yS → Prop) : Prop :=
  (39 ≤ a3.toInt → P none s) ∧ (¬ (39 ≤ a3.toInt) → (0 ≤ a3.toInt ∧ a3.toInt < 39) ∧ ((¬ ((xch 0 a3).toInt = 32) → T 158 [.int (xch 0 a3)] s (fun v2 s1 => ∃ x3, v2 = some (.int x3) ∧ (w_161_37 T R10 ((64 * a1) + (Int32.toInt64 x3)) a3 (xch 0 a3)  s1 P))) ∧ ((xch 0 a3).toInt = 32 → T 160 [.ref 213, .long a1, .long 0] s (fun v5 s4 => ∃ x6, v5 = some (.int x6) ∧ (w_161_37 T R10 0 a3 (xch 0 a3)  s4 P)))))
set_option maxRecDepth 20000 in
theorem k_161_10 {d : Nat} {R10 : Int64 → Int32 → yS → Prop} {a1 : Int64} {a3 : Int32} {s : yS} {P : Option Value → yS → Prop} (r10 : ∀ a1 a3 s, R10 a1 a3 s → Go d 6 (none) xE_161 (xE_161.drop 10) [.ref 213, .long a1, .null, .int a3, .null, .null, .null] [] s P) (h : w_161_10 (Tot d) R10 a1 a3 s P) : Go d 6 (none) xE_161 (xE_161.drop 10) [.ref 213, .long a1, .null, .int a3, .null, .null, .null] [] s P := by
  unfold w_161_10 at h
  refine g_ld rfl rfl rfl ?_
  refine g_c [.ref 1000000, .int a3] (xo_push (.ref 1000000)) rfl rfl ?_
  refine g_lenS rfl rfl ?_
  refine g_brP rfl rfl ⟨fun hc => ?_, fun hc => ?_⟩
  · replace h := h.1 ((i_le (x := 39) (y := a3) (show (39 : Int32).toInt = 39 by decide) rfl).mp hc)
    exact g_ret0 rfl h
  · replace h := h.2 (fun q => hc ((i_le (x := 39) (y := a3) (show (39 : Int32).toInt = 39 by decide) rfl).mpr q))
    refine g_c [.ref 1000000] (xo_push (.ref 1000000)) rfl rfl ?_
    refine g_ld rfl rfl rfl ?_
    refine g_chS rfl (by rw [i_in (n := 39) (x := a3) rfl h.1]; rfl) ?_
    replace h := h.2
    refine g_st [.ref 213, .long a1, .null, .int a3, .int (xch 0 a3), .null, .null] rfl rfl rfl ?_
    refine g_ld rfl rfl rfl ?_
    refine g_c [.int 32, .int (xch 0 a3)] (xo_push (.int 32)) rfl rfl ?_
    refine g_brN rfl rfl ⟨fun hc => ?_, fun hc => ?_⟩
    · replace h := h.1 (fun q => hc ((i_eq (x := xch 0 a3) (y := 32) rfl (show (32 : Int32).toInt = 32 by decide)).mpr q))
      refine g_c [.long 64] (xo_push (.long 64)) rfl rfl ?_
      refine g_ld rfl rfl rfl ?_
      refine g_c [.long (64 * a1)] xo_lmul rfl rfl ?_
      refine g_ld rfl rfl rfl ?_
      refine g_call [.int (xch 0 a3)] [.long (64 * a1)] rfl rfl rfl (Tot.imp h (fun v2 s1 h => ?_))
      obtain ⟨x3, rfl, h⟩ := h
      change Go _ _ _ _ _ _ [.int x3, .long (64 * a1)] _ _
      refine g_c [.long (Int32.toInt64 x3), .long (64 * a1)] xo_i2l rfl rfl ?_
      refine g_c [.long ((64 * a1) + (Int32.toInt64 x3))] xo_ladd rfl rfl ?_
      refine g_stL [.ref 213, .long ((64 * a1) + (Int32.toInt64 x3)), .null, .int a3, .int (xch 0 a3), .null, .null] rfl rfl rfl ?_
      exact k_161_37 r10 h
    · replace h := h.2 ((i_eq (x := xch 0 a3) (y := 32) rfl (show (32 : Int32).toInt = 32 by decide)).mp hc)
      refine g_ld rfl rfl rfl ?_
      refine g_ld rfl rfl rfl ?_
      refine g_c [.long 0, .long a1, .ref 213] (xo_push (.long 0)) rfl rfl ?_
      refine g_call [.ref 213, .long a1, .long 0] [] rfl rfl rfl (Tot.imp h (fun v5 s4 h => ?_))
      obtain ⟨x6, rfl, h⟩ := h
      change Go _ _ _ _ _ _ [.int x6] _ _
      refine g_st [.ref 213, .long a1, .null, .int a3, .int (xch 0 a3), .int x6, .null] rfl rfl rfl ?_
      refine g_c [.long 0] (xo_push (.long 0)) rfl rfl ?_
      refine g_stL [.ref 213, .long 0, .null, .int a3, .int (xch 0 a3), .int x6, .null] rfl rfl rfl ?_
      refine g_go rfl ?_
      refine g_fg 5 ?_
      exact k_161_37 r10 h
def wl_161_10 (T : Nat → List Value → yS → (Option Value → yS → Prop) → Prop)  (a1 : Int64) (a3 : Int32) (s : yS) (P : Option Value → yS → Prop) : Prop :=
  ∃ (I : Int64 → Int32 → yS → Prop) (μ : Int64 → Int32 → yS → Nat), I a1 a3 s ∧ ∀ (a1 : Int64) (a3 : Int32) (s : yS), I a1 a3 s → w_161_10 T (fun a1' a3' s' => I a1' a3' s' ∧ μ a1' a3' s' < μ a1 a3 s) a1 a3 s P
theorem kl_161_10 {d : Nat}  {a1 : Int64} {a3 : Int32} {s : yS} {P : Option Value → yS → Prop}  (h : wl_161_10 (Tot d)  a1 a3 s P) : Go d 6 (none) xE_161 (xE_161.drop 10) [.ref 213, .long a1, .null, .int a3, .null, .null, .null] [] s P := by
  obtain ⟨I, μ, h0, h1⟩ := h
  have key : ∀ (n : Nat) (a1 : Int64) (a3 : Int32) (s : yS), μ a1 a3 s = n → I a1 a3 s → Go d 6 (none) xE_161 (xE_161.drop 10) [.ref 213, .long a1, .null, .int a3, .null, .null, .null] [] s P := by
    intro n
    induction n using Nat.strongRecOn with
    | ind n ih =>
      intro a1 a3 s e hI
      exact k_161_10 (fun a1' a3' s' q => ih _ (by rw [← e]; exact q.2) _ _ _ rfl q.1) (h1 a1 a3 s hI)
  exact key _ a1 a3 s rfl h0
def w_161_0 (T : Nat → List Value → yS → (Option Value → yS → Prop) → Prop)   (s : yS) (P : Option Value → yS → Prop) : Prop :=
  (0 ≤ (s.1 9).toInt ∧ (s.1 9).toInt < 3) ∧ (∀ s1, s1 = sa s 220 (s.1 9).toInt.toNat 0 → wl_161_10 T  0 0  s1 P)
set_option maxRecDepth 20000 in
theorem k_161_0 {d : Nat}   {s : yS} {P : Option Value → yS → Prop}  (h : w_161_0 (Tot d)   s P) : Go d 6 (none) xE_161 (xE_161.drop 0) [.ref 213, .null, .null, .null, .null, .null, .null] [] s P := by
  unfold w_161_0 at h
  refine g_ld rfl rfl rfl ?_
  refine g_get rfl rfl ?_
  change Go _ _ _ _ _ _ [.ref 220] _ _
  refine g_ld rfl rfl rfl ?_
  refine g_get rfl rfl ?_
  change Go _ _ _ _ _ _ [.int (s.1 9), .ref 220] _ _
  refine g_c [.int 0, .int (s.1 9), .ref 220] (xo_push (.int 0)) rfl rfl ?_
  refine g_ias rfl rfl (i_in (x := s.1 9) rfl h.1) ?_
  replace h := h.2
  replace h := h _ rfl
  refine g_c [.long 0] (xo_push (.long 0)) rfl rfl ?_
  refine g_stL [.ref 213, .long 0, .null, .null, .null, .null, .null] rfl rfl rfl ?_
  refine g_c [.int 0] (xo_push (.int 0)) rfl rfl ?_
  refine g_st [.ref 213, .long 0, .null, .int 0, .null, .null, .null] rfl rfl rfl ?_
  exact kl_161_10  h
theorem t_161 {d : Nat}  {s : yS} {P : Option Value → yS → Prop} (h : w_161_0 (Tot d)  s P) : Tot (d + 1) 161 [.ref 213] s P := tot_of (E := xE_161) (ml := 6) (ret := none) rfl rfl rfl (k_161_0 h)
/-! cutAll -/
def w_162_151 (T : Nat → List Value → yS → (Option Value → yS → Prop) → Prop) (R14 : Int32 → Int32 → yS → Prop) (a1 : Int32) (a2 : Int32) (a3 : Int32) (a4 : Int32) (s : yS) (P : Option Value → yS → Prop) : Prop :=
  (-2147483648 ≤ a1.toInt + 1 ∧ a1.toInt + 1 ≤ 2147483647) ∧ (∀ x1 : Int32, x1.toInt = a1.toInt + 1 → R14 x1 a2  s)
set_option maxRecDepth 20000 in
theorem k_162_151 {d : Nat} {R14 : Int32 → Int32 → yS → Prop} {a1 : Int32} {a2 : Int32} {a3 : Int32} {a4 : Int32} {s : yS} {P : Option Value → yS → Prop} (r14 : ∀ a1 a2 s, R14 a1 a2 s → Go d 10 (none) xE_162 (xE_162.drop 14) [.ref 213, .int a1, .int a2, .null, .null, .null, .null, .null, .null, .null, .null] [] s P) (h : w_162_151 (Tot d) R14 a1 a2 a3 a4 s P) : Go d 10 (none) xE_162 (xE_162.drop 151) [.ref 213, .int a1, .int a2, .int a3, .int a4, .null, .null, .null, .null, .null, .null] [] s P := by
  unfold w_162_151 at h
  have ex1 := i_add (x := a1) (y := 1) rfl (show (1 : Int32).toInt = 1 by decide) h.1
  replace h := h.2 _ ex1
  refine g_inc [.ref 213, .int (a1 + 1), .int a2, .int a3, .int a4, .null, .null, .null, .null, .null, .null] rfl rfl rfl rfl ?_
  refine g_go rfl ?_
  refine g_fg 3 ?_
  refine g_fg 4 ?_
  exact r14 (a1 + 1) a2  s h
def w_162_144 (T : Nat → List Value → yS → (Option Value → yS → Prop) → Prop) (R14 : Int32 → Int32 → yS → Prop) (a1 : Int32) (a2 : Int32) (a3 : Int32) (a4 : Int32) (t1 : Int32) (t2 : Int32) (s : yS) (P : Option Value → yS → Prop) : Prop :=
  (0 ≤ t1.toInt ∧ t1.toInt < 12006) ∧ (∀ s1, s1 = sa s 215 t1.toInt.toNat t2 → (0 ≤ a1.toInt ∧ a1.toInt < 12006) ∧ (∀ s2, s2 = sa s1 217 a1.toInt.toNat a3 → (-2147483648 ≤ a2.toInt + 1 ∧ a2.toInt + 1 ≤ 2147483647) ∧ (∀ x3 : Int32, x3.toInt = a2.toInt + 1 → w_162_151 T R14 a1 x3 a3 a4  s2 P)))
set_option maxRecDepth 20000 in
theorem k_162_144 {d : Nat} {R14 : Int32 → Int32 → yS → Prop} {a1 : Int32} {a2 : Int32} {a3 : Int32} {a4 : Int32} {t1 : Int32} {t2 : Int32} {s : yS} {P : Option Value → yS → Prop} (r14 : ∀ a1 a2 s, R14 a1 a2 s → Go d 10 (none) xE_162 (xE_162.drop 14) [.ref 213, .int a1, .int a2, .null, .null, .null, .null, .null, .null, .null, .null] [] s P) (h : w_162_144 (Tot d) R14 a1 a2 a3 a4 t1 t2 s P) : Go d 10 (none) xE_162 (xE_162.drop 144) [.ref 213, .int a1, .int a2, .int a3, .int a4, .null, .null, .null, .null, .null, .null] [.int t2, .int t1, .ref 215] s P := by
  unfold w_162_144 at h
  refine g_ias rfl rfl (i_in (x := t1) rfl h.1) ?_
  replace h := h.2
  replace h := h _ rfl
  refine g_ld rfl rfl rfl ?_
  refine g_get rfl rfl ?_
  change Go _ _ _ _ _ _ [.ref 217] _ _
  refine g_ld rfl rfl rfl ?_
  refine g_ld rfl rfl rfl ?_
  refine g_ias rfl rfl (i_in (x := a1) rfl h.1) ?_
  replace h := h.2
  replace h := h _ rfl
  have ex3 := i_add (x := a2) (y := 1) rfl (show (1 : Int32).toInt = 1 by decide) h.1
  replace h := h.2 _ ex3
  refine g_inc [.ref 213, .int a1, .int (a2 + 1), .int a3, .int a4, .null, .null, .null, .null, .null, .null] rfl rfl rfl rfl ?_
  exact k_162_151 r14 h
def w_162_133 (T : Nat → List Value → yS → (Option Value → yS → Prop) → Prop) (R14 : Int32 → Int32 → yS → Prop) (a1 : Int32) (a2 : Int32) (a3 : Int32) (a4 : Int32) (a5 : Int64) (a7 : Int64) (a9 : Int32) (t1 : Int32) (t2 : Int32) (s : yS) (P : Option Value → yS → Prop) : Prop :=
  (0 ≤ t1.toInt ∧ t1.toInt < 12006) ∧ (∀ s1, s1 = sa s 217 t1.toInt.toNat t2 → w_162_151 T R14 a1 a2 a3 a4  s1 P)
set_option maxRecDepth 20000 in
theorem k_162_133 {d : Nat} {R14 : Int32 → Int32 → yS → Prop} {a1 : Int32} {a2 : Int32} {a3 : Int32} {a4 : Int32} {a5 : Int64} {a7 : Int64} {a9 : Int32} {t1 : Int32} {t2 : Int32} {s : yS} {P : Option Value → yS → Prop} (r14 : ∀ a1 a2 s, R14 a1 a2 s → Go d 10 (none) xE_162 (xE_162.drop 14) [.ref 213, .int a1, .int a2, .null, .null, .null, .null, .null, .null, .null, .null] [] s P) (h : w_162_133 (Tot d) R14 a1 a2 a3 a4 a5 a7 a9 t1 t2 s P) : Go d 10 (none) xE_162 (xE_162.drop 133) [.ref 213, .int a1, .int a2, .int a3, .int a4, .long a5, .null, .long a7, .null, .int a9, .null] [.int t2, .int t1, .ref 217] s P := by
  unfold w_162_133 at h
  refine g_ias rfl rfl (i_in (x := t1) rfl h.1) ?_
  replace h := h.2
  replace h := h _ rfl
  refine g_go rfl ?_
  refine g_fg 5 ?_
  refine g_fg 7 ?_
  refine g_fg 9 ?_
  exact k_162_151 r14 h
def w_162_117 (T : Nat → List Value → yS → (Option Value → yS → Prop) → Prop) (R14 : Int32 → Int32 → yS → Prop) (a1 : Int32) (a2 : Int32) (a3 : Int32) (a4 : Int32) (a5 : Int64) (a7 : Int64) (a9 : Int32) (t1 : Int32) (t2 : Int32) (s : yS) (P : Option Value → yS → Prop) : Prop :=
  (0 ≤ t1.toInt ∧ t1.toInt < 12006) ∧ (∀ s1, s1 = sa s 215 t1.toInt.toNat t2 → (0 ≤ a1.toInt ∧ a1.toInt < 12006) ∧ ((¬ ((s1.2.1 215 a1.toInt.toNat).toInt = 1) → w_162_133 T R14 a1 a2 a3 a4 a5 a7 a9 a1 (-1) s1 P) ∧ ((s1.2.1 215 a1.toInt.toNat).toInt = 1 → T 160 [.ref 213, .long a5, .long a7] s1 (fun v3 s2 => ∃ x4, v3 = some (.int x4) ∧ (w_162_133 T R14 a1 a2 a3 a4 a5 a7 a9 a1 x4 s2 P)))))
set_option maxRecDepth 20000 in
theorem k_162_117 {d : Nat} {R14 : Int32 → Int32 → yS → Prop} {a1 : Int32} {a2 : Int32} {a3 : Int32} {a4 : Int32} {a5 : Int64} {a7 : Int64} {a9 : Int32} {t1 : Int32} {t2 : Int32} {s : yS} {P : Option Value → yS → Prop} (r14 : ∀ a1 a2 s, R14 a1 a2 s → Go d 10 (none) xE_162 (xE_162.drop 14) [.ref 213, .int a1, .int a2, .null, .null, .null, .null, .null, .null, .null, .null] [] s P) (h : w_162_117 (Tot d) R14 a1 a2 a3 a4 a5 a7 a9 t1 t2 s P) : Go d 10 (none) xE_162 (xE_162.drop 117) [.ref 213, .int a1, .int a2, .int a3, .int a4, .long a5, .null, .long a7, .null, .int a9, .null] [.int t2, .int t1, .ref 215] s P := by
  unfold w_162_117 at h
  refine g_ias rfl rfl (i_in (x := t1) rfl h.1) ?_
  replace h := h.2
  replace h := h _ rfl
  refine g_ld rfl rfl rfl ?_
  refine g_get rfl rfl ?_
  change Go _ _ _ _ _ _ [.ref 217] _ _
  refine g_ld rfl rfl rfl ?_
  refine g_ld rfl rfl rfl ?_
  refine g_get rfl rfl ?_
  change Go _ _ _ _ _ _ [.ref 215, .int a1, .ref 217] _ _
  refine g_ld rfl rfl rfl ?_
  refine g_ial rfl rfl (i_in (x := a1) rfl h.1) ?_
  change Go _ _ _ _ _ _ [.int ((sa s 215 t1.toInt.toNat t2).2.1 215 a1.toInt.toNat), .int a1, .ref 217] _ _
  replace h := h.2
  refine g_c [.int 1, .int ((sa s 215 t1.toInt.toNat t2).2.1 215 a1.toInt.toNat), .int a1, .ref 217] (xo_push (.int 1)) rfl rfl ?_
  refine g_brN rfl rfl ⟨fun hc => ?_, fun hc => ?_⟩
  · replace h := h.1 (fun q => hc ((i_eq (x := (sa s 215 t1.toInt.toNat t2).2.1 215 a1.toInt.toNat) (y := 1) rfl (show (1 : Int32).toInt = 1 by decide)).mpr q))
    refine g_c [.int (-1), .int a1, .ref 217] (xo_push (.int (-1))) rfl rfl ?_
    exact k_162_133 r14 h
  · replace h := h.2 ((i_eq (x := (sa s 215 t1.toInt.toNat t2).2.1 215 a1.toInt.toNat) (y := 1) rfl (show (1 : Int32).toInt = 1 by decide)).mp hc)
    refine g_ld rfl rfl rfl ?_
    refine g_ld rfl rfl rfl ?_
    refine g_ld rfl rfl rfl ?_
    refine g_call [.ref 213, .long a5, .long a7] [.int a1, .ref 217] rfl rfl rfl (Tot.imp h (fun v3 s2 h => ?_))
    obtain ⟨x4, rfl, h⟩ := h
    change Go _ _ _ _ _ _ [.int x4, .int a1, .ref 217] _ _
    refine g_go rfl ?_
    exact k_162_133 r14 h
def w_162_106 (T : Nat → List Value → yS → (Option Value → yS → Prop) → Prop) (R14 : Int32 → Int32 → yS → Prop) (a1 : Int32) (a2 : Int32) (a3 : Int32) (a4 : Int32) (a5 : Int64) (a7 : Int64) (a9 : Int32) (s : yS) (P : Option Value → yS → Prop) : Prop :=
  (-2147483648 ≤ a2.toInt - a4.toInt ∧ a2.toInt - a4.toInt ≤ 2147483647) ∧ (∀ x1 : Int32, x1.toInt = a2.toInt - a4.toInt → (x1.toInt ≤ 12 → w_162_117 T R14 a1 a2 a3 a4 a5 a7 a9 a1 1 s P) ∧ (¬ (x1.toInt ≤ 12) → w_162_117 T R14 a1 a2 a3 a4 a5 a7 a9 a1 4 s P))
set_option maxRecDepth 20000 in
theorem k_162_106 {d : Nat} {R14 : Int32 → Int32 → yS → Prop} {a1 : Int32} {a2 : Int32} {a3 : Int32} {a4 : Int32} {a5 : Int64} {a7 : Int64} {a9 : Int32} {s : yS} {P : Option Value → yS → Prop} (r14 : ∀ a1 a2 s, R14 a1 a2 s → Go d 10 (none) xE_162 (xE_162.drop 14) [.ref 213, .int a1, .int a2, .null, .null, .null, .null, .null, .null, .null, .null] [] s P) (h : w_162_106 (Tot d) R14 a1 a2 a3 a4 a5 a7 a9 s P) : Go d 10 (none) xE_162 (xE_162.drop 106) [.ref 213, .int a1, .int a2, .int a3, .int a4, .long a5, .null, .long a7, .null, .int a9, .null] [] s P := by
  unfold w_162_106 at h
  refine g_ld rfl rfl rfl ?_
  refine g_get rfl rfl ?_
  change Go _ _ _ _ _ _ [.ref 215] _ _
  refine g_ld rfl rfl rfl ?_
  refine g_ld rfl rfl rfl ?_
  refine g_ld rfl rfl rfl ?_
  have ex1 := i_sub (x := a2) (y := a4) rfl rfl h.1
  replace h := h.2 _ ex1
  refine g_c [.int (a2 - a4), .int a1, .ref 215] xo_isub rfl rfl ?_
  refine g_c [.int 12, .int (a2 - a4), .int a1, .ref 215] (xo_push (.int 12)) rfl rfl ?_
  refine g_brP rfl rfl ⟨fun hc => ?_, fun hc => ?_⟩
  · replace h := h.1 ((i_le (x := (a2 - a4)) (y := 12) rfl (show (12 : Int32).toInt = 12 by decide)).mp hc)
    refine g_c [.int 1, .int a1, .ref 215] (xo_push (.int 1)) rfl rfl ?_
    exact k_162_117 r14 h
  · replace h := h.2 (fun q => hc ((i_le (x := (a2 - a4)) (y := 12) rfl (show (12 : Int32).toInt = 12 by decide)).mpr q))
    refine g_c [.int 4, .int a1, .ref 215] (xo_push (.int 4)) rfl rfl ?_
    refine g_go rfl ?_
    exact k_162_117 r14 h
def w_162_85 (T : Nat → List Value → yS → (Option Value → yS → Prop) → Prop) (R14 : Int32 → Int32 → yS → Prop) (R85 : Int32 → Int32 → Int32 → Int32 → Int64 → Int64 → Int32 → yS → Prop) (a1 : Int32) (a2 : Int32) (a3 : Int32) (a4 : Int32) (a5 : Int64) (a7 : Int64) (a9 : Int32) (s : yS) (P : Option Value → yS → Prop) : Prop :=
  (a2.toInt ≤ a9.toInt → w_162_106 T R14 a1 a2 a3 a4 a5 a7 a9  s P) ∧ (¬ (a2.toInt ≤ a9.toInt) → (-2147483648 ≤ a4.toInt + 12 ∧ a4.toInt + 12 ≤ 2147483647) ∧ (∀ x1 : Int32, x1.toInt = a4.toInt + 12 → (x1.toInt ≤ a9.toInt → w_162_106 T R14 a1 a2 a3 a4 a5 a7 a9  s P) ∧ (¬ (x1.toInt ≤ a9.toInt) → (0 ≤ a9.toInt ∧ a9.toInt < 4000) ∧ (T 158 [.int (s.2.1 214 a9.toInt.toNat)] s (fun v3 s2 => ∃ x4, v3 = some (.int x4) ∧ ((-2147483648 ≤ a9.toInt + 1 ∧ a9.toInt + 1 ≤ 2147483647) ∧ (∀ x5 : Int32, x5.toInt = a9.toInt + 1 → R85 a1 a2 a3 a4 a5 ((64 * a7) + (Int32.toInt64 x4)) x5  s2)))))))
set_option maxRecDepth 20000 in
theorem k_162_85 {d : Nat} {R14 : Int32 → Int32 → yS → Prop} {R85 : Int32 → Int32 → Int32 → Int32 → Int64 → Int64 → Int32 → yS → Prop} {a1 : Int32} {a2 : Int32} {a3 : Int32} {a4 : Int32} {a5 : Int64} {a7 : Int64} {a9 : Int32} {s : yS} {P : Option Value → yS → Prop} (r14 : ∀ a1 a2 s, R14 a1 a2 s → Go d 10 (none) xE_162 (xE_162.drop 14) [.ref 213, .int a1, .int a2, .null, .null, .null, .null, .null, .null, .null, .null] [] s P) (r85 : ∀ a1 a2 a3 a4 a5 a7 a9 s, R85 a1 a2 a3 a4 a5 a7 a9 s → Go d 10 (none) xE_162 (xE_162.drop 85) [.ref 213, .int a1, .int a2, .int a3, .int a4, .long a5, .null, .long a7, .null, .int a9, .null] [] s P) (h : w_162_85 (Tot d) R14 R85 a1 a2 a3 a4 a5 a7 a9 s P) : Go d 10 (none) xE_162 (xE_162.drop 85) [.ref 213, .int a1, .int a2, .int a3, .int a4, .long a5, .null, .long a7, .null, .int a9, .null] [] s P := by
  unfold w_162_85 at h
  refine g_ld rfl rfl rfl ?_
  refine g_ld rfl rfl rfl ?_
  refine g_brP rfl rfl ⟨fun hc => ?_, fun hc => ?_⟩
  · replace h := h.1 ((i_le (x := a2) (y := a9) rfl rfl).mp hc)
    exact k_162_106 r14 h
  · replace h := h.2 (fun q => hc ((i_le (x := a2) (y := a9) rfl rfl).mpr q))
    refine g_ld rfl rfl rfl ?_
    refine g_ld rfl rfl rfl ?_
    refine g_c [.int 12, .int a4, .int a9] (xo_push (.int 12)) rfl rfl ?_
    have ex1 := i_add (x := a4) (y := 12) rfl (show (12 : Int32).toInt = 12 by decide) h.1
    replace h := h.2 _ ex1
    refine g_c [.int (a4 + 12), .int a9] xo_iadd rfl rfl ?_
    refine g_brP rfl rfl ⟨fun hc => ?_, fun hc => ?_⟩
    · replace h := h.1 ((i_le (x := (a4 + 12)) (y := a9) rfl rfl).mp hc)
      exact k_162_106 r14 h
    · replace h := h.2 (fun q => hc ((i_le (x := (a4 + 12)) (y := a9) rfl rfl).mpr q))
      refine g_c [.long 64] (xo_push (.long 64)) rfl rfl ?_
      refine g_ld rfl rfl rfl ?_
      refine g_c [.long (64 * a7)] xo_lmul rfl rfl ?_
      refine g_ld rfl rfl rfl ?_
      refine g_get rfl rfl ?_
      change Go _ _ _ _ _ _ [.ref 214, .long (64 * a7)] _ _
      refine g_ld rfl rfl rfl ?_
      refine g_ial rfl rfl (i_in (x := a9) rfl h.1) ?_
      change Go _ _ _ _ _ _ [.int (s.2.1 214 a9.toInt.toNat), .long (64 * a7)] _ _
      replace h := h.2
      refine g_call [.int (s.2.1 214 a9.toInt.toNat)] [.long (64 * a7)] rfl rfl rfl (Tot.imp h (fun v3 s2 h => ?_))
      obtain ⟨x4, rfl, h⟩ := h
      change Go _ _ _ _ _ _ [.int x4, .long (64 * a7)] _ _
      refine g_c [.long (Int32.toInt64 x4), .long (64 * a7)] xo_i2l rfl rfl ?_
      refine g_c [.long ((64 * a7) + (Int32.toInt64 x4))] xo_ladd rfl rfl ?_
      refine g_stL [.ref 213, .int a1, .int a2, .int a3, .int a4, .long a5, .null, .long ((64 * a7) + (Int32.toInt64 x4)), .null, .int a9, .null] rfl rfl rfl ?_
      have ex5 := i_add (x := a9) (y := 1) rfl (show (1 : Int32).toInt = 1 by decide) h.1
      replace h := h.2 _ ex5
      refine g_inc [.ref 213, .int a1, .int a2, .int a3, .int a4, .long a5, .null, .long ((64 * a7) + (Int32.toInt64 x4)), .null, .int (a9 + 1), .null] rfl rfl rfl rfl ?_
      refine g_go rfl ?_
      exact r85 a1 a2 a3 a4 a5 ((64 * a7) + (Int32.toInt64 x4)) (a9 + 1)  s2 h
def wl_162_85 (T : Nat → List Value → yS → (Option Value → yS → Prop) → Prop) (R14 : Int32 → Int32 → yS → Prop) (a1 : Int32) (a2 : Int32) (a3 : Int32) (a4 : Int32) (a5 : Int64) (a7 : Int64) (a9 : Int32) (s : yS) (P : Option Value → yS → Prop) : Prop :=
  ∃ (I : Int32 → Int32 → Int32 → Int32 → Int64 → Int64 → Int32 → yS → Prop) (μ : Int32 → Int32 → Int32 → Int32 → Int64 → Int64 → Int32 → yS → Nat), I a1 a2 a3 a4 a5 a7 a9 s ∧ ∀ (a1 : Int32) (a2 : Int32) (a3 : Int32) (a4 : Int32) (a5 : Int64) (a7 : Int64) (a9 : Int32) (s : yS), I a1 a2 a3 a4 a5 a7 a9 s → w_162_85 T R14 (fun a1' a2' a3' a4' a5' a7' a9' s' => I a1' a2' a3' a4' a5' a7' a9' s' ∧ μ a1' a2' a3' a4' a5' a7' a9' s' < μ a1 a2 a3 a4 a5 a7 a9 s) a1 a2 a3 a4 a5 a7 a9 s P
theorem kl_162_85 {d : Nat} {R14 : Int32 → Int32 → yS → Prop} {a1 : Int32} {a2 : Int32} {a3 : Int32} {a4 : Int32} {a5 : Int64} {a7 : Int64} {a9 : Int32} {s : yS} {P : Option Value → yS → Prop} (r14 : ∀ a1 a2 s, R14 a1 a2 s → Go d 10 (none) xE_162 (xE_162.drop 14) [.ref 213, .int a1, .int a2, .null, .null, .null, .null, .null, .null, .null, .null] [] s P) (h : wl_162_85 (Tot d) R14 a1 a2 a3 a4 a5 a7 a9 s P) : Go d 10 (none) xE_162 (xE_162.drop 85) [.ref 213, .int a1, .int a2, .int a3, .int a4, .long a5, .null, .long a7, .null, .int a9, .null] [] s P := by
  obtain ⟨I, μ, h0, h1⟩ := h
  have key : ∀ (n : Nat) (a1 : Int32) (a2 : Int32) (a3 : Int32) (a4 : Int32) (a5 : Int64) (a7 : Int64) (a9 : Int32) (s : yS), μ a1 a2 a3 a4 a5 a7 a9 s = n → I a1 a2 a3 a4 a5 a7 a9 s → Go d 10 (none) xE_162 (xE_162.drop 85) [.ref 213, .int a1, .int a2, .int a3, .int a4, .long a5, .null, .long a7, .null, .int a9, .null] [] s P := by
    intro n
    induction n using Nat.strongRecOn with
    | ind n ih =>
      intro a1 a2 a3 a4 a5 a7 a9 s e hI
      exact k_162_85 r14 (fun a1' a2' a3' a4' a5' a7' a9' s' q => ih _ (by rw [← e]; exact q.2) _ _ _ _ _ _ _ _ rfl q.1) (h1 a1 a2 a3 a4 a5 a7 a9 s hI)
  exact key _ a1 a2 a3 a4 a5 a7 a9 s rfl h0
def w_162_79 (T : Nat → List Value → yS → (Option Value → yS → Prop) → Prop) (R14 : Int32 → Int32 → yS → Prop) (a1 : Int32) (a2 : Int32) (a3 : Int32) (a4 : Int32) (a5 : Int64) (s : yS) (P : Option Value → yS → Prop) : Prop :=
  (-2147483648 ≤ a4.toInt + 9 ∧ a4.toInt + 9 ≤ 2147483647) ∧ (∀ x1 : Int32, x1.toInt = a4.toInt + 9 → wl_162_85 T R14 a1 a2 a3 a4 a5 0 x1  s P)
set_option maxRecDepth 20000 in
theorem k_162_79 {d : Nat} {R14 : Int32 → Int32 → yS → Prop} {a1 : Int32} {a2 : Int32} {a3 : Int32} {a4 : Int32} {a5 : Int64} {s : yS} {P : Option Value → yS → Prop} (r14 : ∀ a1 a2 s, R14 a1 a2 s → Go d 10 (none) xE_162 (xE_162.drop 14) [.ref 213, .int a1, .int a2, .null, .null, .null, .null, .null, .null, .null, .null] [] s P) (h : w_162_79 (Tot d) R14 a1 a2 a3 a4 a5 s P) : Go d 10 (none) xE_162 (xE_162.drop 79) [.ref 213, .int a1, .int a2, .int a3, .int a4, .long a5, .null, .null, .null, .null, .null] [] s P := by
  unfold w_162_79 at h
  refine g_c [.long 0] (xo_push (.long 0)) rfl rfl ?_
  refine g_stL [.ref 213, .int a1, .int a2, .int a3, .int a4, .long a5, .null, .long 0, .null, .null, .null] rfl rfl rfl ?_
  refine g_ld rfl rfl rfl ?_
  refine g_c [.int 9, .int a4] (xo_push (.int 9)) rfl rfl ?_
  have ex1 := i_add (x := a4) (y := 9) rfl (show (9 : Int32).toInt = 9 by decide) h.1
  replace h := h.2 _ ex1
  refine g_c [.int (a4 + 9)] xo_iadd rfl rfl ?_
  refine g_st [.ref 213, .int a1, .int a2, .int a3, .int a4, .long a5, .null, .long 0, .null, .int (a4 + 9), .null] rfl rfl rfl ?_
  exact kl_162_85 r14 h
def w_162_76 (T : Nat → List Value → yS → (Option Value → yS → Prop) → Prop) (R14 : Int32 → Int32 → yS → Prop) (R43 : Int32 → Int32 → Int32 → Int32 → Int64 → yS → Prop) (a1 : Int32) (a2 : Int32) (a3 : Int32) (a4 : Int32) (a5 : Int64) (t0 : Int64) (s : yS) (P : Option Value → yS → Prop) : Prop :=
  (-2147483648 ≤ a2.toInt + 1 ∧ a2.toInt + 1 ≤ 2147483647) ∧ (∀ x1 : Int32, x1.toInt = a2.toInt + 1 → R43 a1 x1 a3 a4 t0  s)
set_option maxRecDepth 20000 in
theorem k_162_76 {d : Nat} {R14 : Int32 → Int32 → yS → Prop} {R43 : Int32 → Int32 → Int32 → Int32 → Int64 → yS → Prop} {a1 : Int32} {a2 : Int32} {a3 : Int32} {a4 : Int32} {a5 : Int64} {t0 : Int64} {s : yS} {P : Option Value → yS → Prop} (r14 : ∀ a1 a2 s, R14 a1 a2 s → Go d 10 (none) xE_162 (xE_162.drop 14) [.ref 213, .int a1, .int a2, .null, .null, .null, .null, .null, .null, .null, .null] [] s P) (r43 : ∀ a1 a2 a3 a4 a5 s, R43 a1 a2 a3 a4 a5 s → Go d 10 (none) xE_162 (xE_162.drop 43) [.ref 213, .int a1, .int a2, .int a3, .int a4, .long a5, .null, .null, .null, .null, .null] [] s P) (h : w_162_76 (Tot d) R14 R43 a1 a2 a3 a4 a5 t0 s P) : Go d 10 (none) xE_162 (xE_162.drop 76) [.ref 213, .int a1, .int a2, .int a3, .int a4, .long a5, .null, .null, .null, .null, .null] [.long t0] s P := by
  unfold w_162_76 at h
  refine g_stL [.ref 213, .int a1, .int a2, .int a3, .int a4, .long t0, .null, .null, .null, .null, .null] rfl rfl rfl ?_
  have ex1 := i_add (x := a2) (y := 1) rfl (show (1 : Int32).toInt = 1 by decide) h.1
  replace h := h.2 _ ex1
  refine g_inc [.ref 213, .int a1, .int (a2 + 1), .int a3, .int a4, .long t0, .null, .null, .null, .null, .null] rfl rfl rfl rfl ?_
  refine g_go rfl ?_
  exact r43 a1 (a2 + 1) a3 a4 t0  s h
def w_162_59 (T : Nat → List Value → yS → (Option Value → yS → Prop) → Prop) (R14 : Int32 → Int32 → yS → Prop) (R43 : Int32 → Int32 → Int32 → Int32 → Int64 → yS → Prop) (a1 : Int32) (a2 : Int32) (a3 : Int32) (a4 : Int32) (a5 : Int64) (s : yS) (P : Option Value → yS → Prop) : Prop :=
  (-2147483648 ≤ a2.toInt - a4.toInt ∧ a2.toInt - a4.toInt ≤ 2147483647) ∧ (∀ x1 : Int32, x1.toInt = a2.toInt - a4.toInt → (9 ≤ x1.toInt → w_162_76 T R14 R43 a1 a2 a3 a4 a5 a5 s P) ∧ (¬ (9 ≤ x1.toInt) → (0 ≤ a2.toInt ∧ a2.toInt < 4000) ∧ (T 158 [.int (s.2.1 214 a2.toInt.toNat)] s (fun v3 s2 => ∃ x4, v3 = some (.int x4) ∧ (w_162_76 T R14 R43 a1 a2 a3 a4 a5 ((64 * a5) + (Int32.toInt64 x4)) s2 P)))))
set_option maxRecDepth 20000 in
theorem k_162_59 {d : Nat} {R14 : Int32 → Int32 → yS → Prop} {R43 : Int32 → Int32 → Int32 → Int32 → Int64 → yS → Prop} {a1 : Int32} {a2 : Int32} {a3 : Int32} {a4 : Int32} {a5 : Int64} {s : yS} {P : Option Value → yS → Prop} (r14 : ∀ a1 a2 s, R14 a1 a2 s → Go d 10 (none) xE_162 (xE_162.drop 14) [.ref 213, .int a1, .int a2, .null, .null, .null, .null, .null, .null, .null, .null] [] s P) (r43 : ∀ a1 a2 a3 a4 a5 s, R43 a1 a2 a3 a4 a5 s → Go d 10 (none) xE_162 (xE_162.drop 43) [.ref 213, .int a1, .int a2, .int a3, .int a4, .long a5, .null, .null, .null, .null, .null] [] s P) (h : w_162_59 (Tot d) R14 R43 a1 a2 a3 a4 a5 s P) : Go d 10 (none) xE_162 (xE_162.drop 59) [.ref 213, .int a1, .int a2, .int a3, .int a4, .long a5, .null, .null, .null, .null, .null] [] s P := by
  unfold w_162_59 at h
  refine g_ld rfl rfl rfl ?_
  refine g_ld rfl rfl rfl ?_
  have ex1 := i_sub (x := a2) (y := a4) rfl rfl h.1
  replace h := h.2 _ ex1
  refine g_c [.int (a2 - a4)] xo_isub rfl rfl ?_
  refine g_c [.int 9, .int (a2 - a4)] (xo_push (.int 9)) rfl rfl ?_
  refine g_brP rfl rfl ⟨fun hc => ?_, fun hc => ?_⟩
  · replace h := h.1 ((i_le (x := 9) (y := (a2 - a4)) (show (9 : Int32).toInt = 9 by decide) rfl).mp hc)
    refine g_ld rfl rfl rfl ?_
    exact k_162_76 r14 r43 h
  · replace h := h.2 (fun q => hc ((i_le (x := 9) (y := (a2 - a4)) (show (9 : Int32).toInt = 9 by decide) rfl).mpr q))
    refine g_c [.long 64] (xo_push (.long 64)) rfl rfl ?_
    refine g_ld rfl rfl rfl ?_
    refine g_c [.long (64 * a5)] xo_lmul rfl rfl ?_
    refine g_ld rfl rfl rfl ?_
    refine g_get rfl rfl ?_
    change Go _ _ _ _ _ _ [.ref 214, .long (64 * a5)] _ _
    refine g_ld rfl rfl rfl ?_
    refine g_ial rfl rfl (i_in (x := a2) rfl h.1) ?_
    change Go _ _ _ _ _ _ [.int (s.2.1 214 a2.toInt.toNat), .long (64 * a5)] _ _
    replace h := h.2
    refine g_call [.int (s.2.1 214 a2.toInt.toNat)] [.long (64 * a5)] rfl rfl rfl (Tot.imp h (fun v3 s2 h => ?_))
    obtain ⟨x4, rfl, h⟩ := h
    change Go _ _ _ _ _ _ [.int x4, .long (64 * a5)] _ _
    refine g_c [.long (Int32.toInt64 x4), .long (64 * a5)] xo_i2l rfl rfl ?_
    refine g_c [.long ((64 * a5) + (Int32.toInt64 x4))] xo_ladd rfl rfl ?_
    refine g_go rfl ?_
    exact k_162_76 r14 r43 h
def w_162_43 (T : Nat → List Value → yS → (Option Value → yS → Prop) → Prop) (R14 : Int32 → Int32 → yS → Prop) (R43 : Int32 → Int32 → Int32 → Int32 → Int64 → yS → Prop) (a1 : Int32) (a2 : Int32) (a3 : Int32) (a4 : Int32) (a5 : Int64) (s : yS) (P : Option Value → yS → Prop) : Prop :=
  ((s.1 3).toInt ≤ a2.toInt → w_162_79 T R14 a1 a2 a3 a4 a5  s P) ∧ (¬ ((s.1 3).toInt ≤ a2.toInt) → (0 ≤ a2.toInt ∧ a2.toInt < 4000) ∧ (T 156 [.int (s.2.1 214 a2.toInt.toNat)] s (fun v2 s1 => ∃ x3, v2 = some (.int x3) ∧ ((¬ (x3.toInt = 0) → w_162_59 T R14 R43 a1 a2 a3 a4 a5  s1 P) ∧ (x3.toInt = 0 → (0 ≤ a2.toInt ∧ a2.toInt < 4000) ∧ (T 157 [.int (s1.2.1 214 a2.toInt.toNat)] s1 (fun v5 s4 => ∃ x6, v5 = some (.int x6) ∧ ((x6.toInt = 0 → w_162_79 T R14 a1 a2 a3 a4 a5  s4 P) ∧ (¬ (x6.toInt = 0) → w_162_59 T R14 R43 a1 a2 a3 a4 a5  s4 P)))))))))
set_option maxRecDepth 20000 in
theorem k_162_43 {d : Nat} {R14 : Int32 → Int32 → yS → Prop} {R43 : Int32 → Int32 → Int32 → Int32 → Int64 → yS → Prop} {a1 : Int32} {a2 : Int32} {a3 : Int32} {a4 : Int32} {a5 : Int64} {s : yS} {P : Option Value → yS → Prop} (r14 : ∀ a1 a2 s, R14 a1 a2 s → Go d 10 (none) xE_162 (xE_162.drop 14) [.ref 213, .int a1, .int a2, .null, .null, .null, .null, .null, .null, .null, .null] [] s P) (r43 : ∀ a1 a2 a3 a4 a5 s, R43 a1 a2 a3 a4 a5 s → Go d 10 (none) xE_162 (xE_162.drop 43) [.ref 213, .int a1, .int a2, .int a3, .int a4, .long a5, .null, .null, .null, .null, .null] [] s P) (h : w_162_43 (Tot d) R14 R43 a1 a2 a3 a4 a5 s P) : Go d 10 (none) xE_162 (xE_162.drop 43) [.ref 213, .int a1, .int a2, .int a3, .int a4, .long a5, .null, .null, .null, .null, .null] [] s P := by
  unfold w_162_43 at h
  refine g_ld rfl rfl rfl ?_
  refine g_ld rfl rfl rfl ?_
  refine g_get rfl rfl ?_
  change Go _ _ _ _ _ _ [.int (s.1 3), .int a2] _ _
  refine g_brP rfl rfl ⟨fun hc => ?_, fun hc => ?_⟩
  · replace h := h.1 ((i_le (x := s.1 3) (y := a2) rfl rfl).mp hc)
    exact k_162_79 r14 h
  · replace h := h.2 (fun q => hc ((i_le (x := s.1 3) (y := a2) rfl rfl).mpr q))
    refine g_ld rfl rfl rfl ?_
    refine g_get rfl rfl ?_
    change Go _ _ _ _ _ _ [.ref 214] _ _
    refine g_ld rfl rfl rfl ?_
    refine g_ial rfl rfl (i_in (x := a2) rfl h.1) ?_
    change Go _ _ _ _ _ _ [.int (s.2.1 214 a2.toInt.toNat)] _ _
    replace h := h.2
    refine g_call [.int (s.2.1 214 a2.toInt.toNat)] [] rfl rfl rfl (Tot.imp h (fun v2 s1 h => ?_))
    obtain ⟨x3, rfl, h⟩ := h
    change Go _ _ _ _ _ _ [.int x3] _ _
    refine g_brN rfl rfl ⟨fun hc => ?_, fun hc => ?_⟩
    · replace h := h.1 (fun q => hc ((i_eq (x := x3) (y := 0) rfl (show (0 : Int32).toInt = 0 by decide)).mpr q))
      exact k_162_59 r14 r43 h
    · replace h := h.2 ((i_eq (x := x3) (y := 0) rfl (show (0 : Int32).toInt = 0 by decide)).mp hc)
      refine g_ld rfl rfl rfl ?_
      refine g_get rfl rfl ?_
      change Go _ _ _ _ _ _ [.ref 214] _ _
      refine g_ld rfl rfl rfl ?_
      refine g_ial rfl rfl (i_in (x := a2) rfl h.1) ?_
      change Go _ _ _ _ _ _ [.int (s1.2.1 214 a2.toInt.toNat)] _ _
      replace h := h.2
      refine g_call [.int (s1.2.1 214 a2.toInt.toNat)] [] rfl rfl rfl (Tot.imp h (fun v5 s4 h => ?_))
      obtain ⟨x6, rfl, h⟩ := h
      change Go _ _ _ _ _ _ [.int x6] _ _
      refine g_brP rfl rfl ⟨fun hc => ?_, fun hc => ?_⟩
      · replace h := h.1 ((i_eq (x := x6) (y := 0) rfl (show (0 : Int32).toInt = 0 by decide)).mp hc)
        exact k_162_79 r14 h
      · replace h := h.2 (fun q => hc ((i_eq (x := x6) (y := 0) rfl (show (0 : Int32).toInt = 0 by decide)).mpr q))
        exact k_162_59 r14 r43 h
def wl_162_43 (T : Nat → List Value → yS → (Option Value → yS → Prop) → Prop) (R14 : Int32 → Int32 → yS → Prop) (a1 : Int32) (a2 : Int32) (a3 : Int32) (a4 : Int32) (a5 : Int64) (s : yS) (P : Option Value → yS → Prop) : Prop :=
  ∃ (I : Int32 → Int32 → Int32 → Int32 → Int64 → yS → Prop) (μ : Int32 → Int32 → Int32 → Int32 → Int64 → yS → Nat), I a1 a2 a3 a4 a5 s ∧ ∀ (a1 : Int32) (a2 : Int32) (a3 : Int32) (a4 : Int32) (a5 : Int64) (s : yS), I a1 a2 a3 a4 a5 s → w_162_43 T R14 (fun a1' a2' a3' a4' a5' s' => I a1' a2' a3' a4' a5' s' ∧ μ a1' a2' a3' a4' a5' s' < μ a1 a2 a3 a4 a5 s) a1 a2 a3 a4 a5 s P
theorem kl_162_43 {d : Nat} {R14 : Int32 → Int32 → yS → Prop} {a1 : Int32} {a2 : Int32} {a3 : Int32} {a4 : Int32} {a5 : Int64} {s : yS} {P : Option Value → yS → Prop} (r14 : ∀ a1 a2 s, R14 a1 a2 s → Go d 10 (none) xE_162 (xE_162.drop 14) [.ref 213, .int a1, .int a2, .null, .null, .null, .null, .null, .null, .null, .null] [] s P) (h : wl_162_43 (Tot d) R14 a1 a2 a3 a4 a5 s P) : Go d 10 (none) xE_162 (xE_162.drop 43) [.ref 213, .int a1, .int a2, .int a3, .int a4, .long a5, .null, .null, .null, .null, .null] [] s P := by
  obtain ⟨I, μ, h0, h1⟩ := h
  have key : ∀ (n : Nat) (a1 : Int32) (a2 : Int32) (a3 : Int32) (a4 : Int32) (a5 : Int64) (s : yS), μ a1 a2 a3 a4 a5 s = n → I a1 a2 a3 a4 a5 s → Go d 10 (none) xE_162 (xE_162.drop 43) [.ref 213, .int a1, .int a2, .int a3, .int a4, .long a5, .null, .null, .null, .null, .null] [] s P := by
    intro n
    induction n using Nat.strongRecOn with
    | ind n ih =>
      intro a1 a2 a3 a4 a5 s e hI
      exact k_162_43 r14 (fun a1' a2' a3' a4' a5' s' q => ih _ (by rw [← e]; exact q.2) _ _ _ _ _ _ rfl q.1) (h1 a1 a2 a3 a4 a5 s hI)
  exact key _ a1 a2 a3 a4 a5 s rfl h0
def w_162_29 (T : Nat → List Value → yS → (Option Value → yS → Prop) → Prop) (R14 : Int32 → Int32 → yS → Prop) (a1 : Int32) (a2 : Int32) (a3 : Int32) (s : yS) (P : Option Value → yS → Prop) : Prop :=
  (-2147483648 ≤ a2.toInt + 1 ∧ a2.toInt + 1 ≤ 2147483647) ∧ (∀ x1 : Int32, x1.toInt = a2.toInt + 1 → R14 a1 x1  s)
set_option maxRecDepth 20000 in
theorem k_162_29 {d : Nat} {R14 : Int32 → Int32 → yS → Prop} {a1 : Int32} {a2 : Int32} {a3 : Int32} {s : yS} {P : Option Value → yS → Prop} (r14 : ∀ a1 a2 s, R14 a1 a2 s → Go d 10 (none) xE_162 (xE_162.drop 14) [.ref 213, .int a1, .int a2, .null, .null, .null, .null, .null, .null, .null, .null] [] s P) (h : w_162_29 (Tot d) R14 a1 a2 a3 s P) : Go d 10 (none) xE_162 (xE_162.drop 29) [.ref 213, .int a1, .int a2, .int a3, .null, .null, .null, .null, .null, .null, .null] [] s P := by
  unfold w_162_29 at h
  have ex1 := i_add (x := a2) (y := 1) rfl (show (1 : Int32).toInt = 1 by decide) h.1
  replace h := h.2 _ ex1
  refine g_inc [.ref 213, .int a1, .int (a2 + 1), .int a3, .null, .null, .null, .null, .null, .null, .null] rfl rfl rfl rfl ?_
  refine g_go rfl ?_
  refine g_fg 3 ?_
  exact r14 a1 (a2 + 1)  s h
def w_162_14 (T : Nat → List Value → yS → (Option Value → yS → Prop) → Prop) (R14 : Int32 → Int32 → yS → Prop) (a1 : Int32) (a2 : Int32) (s : yS) (P : Option Value → yS → Prop) : Prop :=
  ((s.1 3).toInt ≤ a2.toInt → (0 ≤ a1.toInt ∧ a1.toInt < 12006) ∧ (∀ s1, s1 = sa s 215 a1.toInt.toNat 0 → (0 ≤ a1.toInt ∧ a1.toInt < 12006) ∧ (∀ s2, s2 = sa s1 216 a1.toInt.toNat (s1.1 3) → (0 ≤ a1.toInt ∧ a1.toInt < 12006) ∧ (∀ s3, s3 = sa s2 217 a1.toInt.toNat (-1) → (-2147483648 ≤ 4002 * (s3.1 9).toInt ∧ 4002 * (s3.1 9).toInt ≤ 2147483647) ∧ (∀ x4 : Int32, x4.toInt = 4002 * (s3.1 9).toInt → ∀ s5, s5 = sf s3 7 x4 → ∀ s6, s6 = sf s5 8 0 → P none s6))))) ∧ (¬ ((s.1 3).toInt ≤ a2.toInt) → (0 ≤ a2.toInt ∧ a2.toInt < 4000) ∧ (((s.2.1 214 a2.toInt.toNat).toInt = 10 → w_162_29 T R14 a1 a2 (s.2.1 214 a2.toInt.toNat)  s P) ∧ (¬ ((s.2.1 214 a2.toInt.toNat).toInt = 10) → (¬ ((s.2.1 214 a2.toInt.toNat).toInt = 32) → (0 ≤ a1.toInt ∧ a1.toInt < 12006) ∧ (∀ s7, s7 = sa s 216 a1.toInt.toNat a2 → T 156 [.int (s.2.1 214 a2.toInt.toNat)] s7 (fun v9 s8 => ∃ x10, v9 = some (.int x10) ∧ ((x10.toInt = 0 → T 159 [.int (s.2.1 214 a2.toInt.toNat)] s8 (fun v12 s11 => ∃ x13, v12 = some (.int x13) ∧ ((x13.toInt = 0 → w_162_144 T R14 a1 a2 (s.2.1 214 a2.toInt.toNat) a2 a1 4 s11 P) ∧ (¬ (x13.toInt = 0) → w_162_144 T R14 a1 a2 (s.2.1 214 a2.toInt.toNat) a2 a1 3 s11 P)))) ∧ (¬ (x10.toInt = 0) → wl_162_43 T R14 a1 a2 (s.2.1 214 a2.toInt.toNat) a2 0  s8 P))))) ∧ ((s.2.1 214 a2.toInt.toNat).toInt = 32 → w_162_29 T R14 a1 a2 (s.2.1 214 a2.toInt.toNat)  s P))))
set_option maxRecDepth 20000 in
theorem k_162_14 {d : Nat} {R14 : Int32 → Int32 → yS → Prop} {a1 : Int32} {a2 : Int32} {s : yS} {P : Option Value → yS → Prop} (r14 : ∀ a1 a2 s, R14 a1 a2 s → Go d 10 (none) xE_162 (xE_162.drop 14) [.ref 213, .int a1, .int a2, .null, .null, .null, .null, .null, .null, .null, .null] [] s P) (h : w_162_14 (Tot d) R14 a1 a2 s P) : Go d 10 (none) xE_162 (xE_162.drop 14) [.ref 213, .int a1, .int a2, .null, .null, .null, .null, .null, .null, .null, .null] [] s P := by
  unfold w_162_14 at h
  refine g_ld rfl rfl rfl ?_
  refine g_ld rfl rfl rfl ?_
  refine g_get rfl rfl ?_
  change Go _ _ _ _ _ _ [.int (s.1 3), .int a2] _ _
  refine g_brP rfl rfl ⟨fun hc => ?_, fun hc => ?_⟩
  · replace h := h.1 ((i_le (x := s.1 3) (y := a2) rfl rfl).mp hc)
    refine g_ld rfl rfl rfl ?_
    refine g_get rfl rfl ?_
    change Go _ _ _ _ _ _ [.ref 215] _ _
    refine g_ld rfl rfl rfl ?_
    refine g_c [.int 0, .int a1, .ref 215] (xo_push (.int 0)) rfl rfl ?_
    refine g_ias rfl rfl (i_in (x := a1) rfl h.1) ?_
    replace h := h.2
    replace h := h _ rfl
    refine g_ld rfl rfl rfl ?_
    refine g_get rfl rfl ?_
    change Go _ _ _ _ _ _ [.ref 216] _ _
    refine g_ld rfl rfl rfl ?_
    refine g_ld rfl rfl rfl ?_
    refine g_get rfl rfl ?_
    change Go _ _ _ _ _ _ [.int ((sa s 215 a1.toInt.toNat 0).1 3), .int a1, .ref 216] _ _
    refine g_ias rfl rfl (i_in (x := a1) rfl h.1) ?_
    replace h := h.2
    replace h := h _ rfl
    refine g_ld rfl rfl rfl ?_
    refine g_get rfl rfl ?_
    change Go _ _ _ _ _ _ [.ref 217] _ _
    refine g_ld rfl rfl rfl ?_
    refine g_c [.int (-1), .int a1, .ref 217] (xo_push (.int (-1))) rfl rfl ?_
    refine g_ias rfl rfl (i_in (x := a1) rfl h.1) ?_
    replace h := h.2
    replace h := h _ rfl
    refine g_ld rfl rfl rfl ?_
    refine g_c [.int 4002, .ref 213] (xo_push (.int 4002)) rfl rfl ?_
    refine g_ld rfl rfl rfl ?_
    refine g_get rfl rfl ?_
    change Go _ _ _ _ _ _ [.int ((sa (sa (sa s 215 a1.toInt.toNat 0) 216 a1.toInt.toNat ((sa s 215 a1.toInt.toNat 0).1 3)) 217 a1.toInt.toNat (-1)).1 9), .int 4002, .ref 213] _ _
    have ex4 := i_mul (x := 4002) (y := (sa (sa (sa s 215 a1.toInt.toNat 0) 216 a1.toInt.toNat ((sa s 215 a1.toInt.toNat 0).1 3)) 217 a1.toInt.toNat (-1)).1 9) (show (4002 : Int32).toInt = 4002 by decide) rfl h.1
    replace h := h.2 _ ex4
    refine g_c [.int (4002 * ((sa (sa (sa s 215 a1.toInt.toNat 0) 216 a1.toInt.toNat ((sa s 215 a1.toInt.toNat 0).1 3)) 217 a1.toInt.toNat (-1)).1 9)), .ref 213] xo_imul rfl rfl ?_
    refine g_put rfl rfl rfl ?_
    replace h := h _ rfl
    refine g_ld rfl rfl rfl ?_
    refine g_c [.int 0, .ref 213] (xo_push (.int 0)) rfl rfl ?_
    refine g_put rfl rfl rfl ?_
    replace h := h _ rfl
    exact g_ret0 rfl h
  · replace h := h.2 (fun q => hc ((i_le (x := s.1 3) (y := a2) rfl rfl).mpr q))
    refine g_ld rfl rfl rfl ?_
    refine g_get rfl rfl ?_
    change Go _ _ _ _ _ _ [.ref 214] _ _
    refine g_ld rfl rfl rfl ?_
    refine g_ial rfl rfl (i_in (x := a2) rfl h.1) ?_
    change Go _ _ _ _ _ _ [.int (s.2.1 214 a2.toInt.toNat)] _ _
    replace h := h.2
    refine g_st [.ref 213, .int a1, .int a2, .int (s.2.1 214 a2.toInt.toNat), .null, .null, .null, .null, .null, .null, .null] rfl rfl rfl ?_
    refine g_ld rfl rfl rfl ?_
    refine g_c [.int 10, .int (s.2.1 214 a2.toInt.toNat)] (xo_push (.int 10)) rfl rfl ?_
    refine g_brP rfl rfl ⟨fun hc => ?_, fun hc => ?_⟩
    · replace h := h.1 ((i_eq (x := s.2.1 214 a2.toInt.toNat) (y := 10) rfl (show (10 : Int32).toInt = 10 by decide)).mp hc)
      exact k_162_29 r14 h
    · replace h := h.2 (fun q => hc ((i_eq (x := s.2.1 214 a2.toInt.toNat) (y := 10) rfl (show (10 : Int32).toInt = 10 by decide)).mpr q))
      refine g_ld rfl rfl rfl ?_
      refine g_c [.int 32, .int (s.2.1 214 a2.toInt.toNat)] (xo_push (.int 32)) rfl rfl ?_
      refine g_brN rfl rfl ⟨fun hc => ?_, fun hc => ?_⟩
      · replace h := h.1 (fun q => hc ((i_eq (x := s.2.1 214 a2.toInt.toNat) (y := 32) rfl (show (32 : Int32).toInt = 32 by decide)).mpr q))
        refine g_ld rfl rfl rfl ?_
        refine g_st [.ref 213, .int a1, .int a2, .int (s.2.1 214 a2.toInt.toNat), .int a2, .null, .null, .null, .null, .null, .null] rfl rfl rfl ?_
        refine g_ld rfl rfl rfl ?_
        refine g_get rfl rfl ?_
        change Go _ _ _ _ _ _ [.ref 216] _ _
        refine g_ld rfl rfl rfl ?_
        refine g_ld rfl rfl rfl ?_
        refine g_ias rfl rfl (i_in (x := a1) rfl h.1) ?_
        replace h := h.2
        replace h := h _ rfl
        refine g_ld rfl rfl rfl ?_
        refine g_call [.int (s.2.1 214 a2.toInt.toNat)] [] rfl rfl rfl (Tot.imp h (fun v9 s8 h => ?_))
        obtain ⟨x10, rfl, h⟩ := h
        change Go _ _ _ _ _ _ [.int x10] _ _
        refine g_brP rfl rfl ⟨fun hc => ?_, fun hc => ?_⟩
        · replace h := h.1 ((i_eq (x := x10) (y := 0) rfl (show (0 : Int32).toInt = 0 by decide)).mp hc)
          refine g_ld rfl rfl rfl ?_
          refine g_get rfl rfl ?_
          change Go _ _ _ _ _ _ [.ref 215] _ _
          refine g_ld rfl rfl rfl ?_
          refine g_ld rfl rfl rfl ?_
          refine g_call [.int (s.2.1 214 a2.toInt.toNat)] [.int a1, .ref 215] rfl rfl rfl (Tot.imp h (fun v12 s11 h => ?_))
          obtain ⟨x13, rfl, h⟩ := h
          change Go _ _ _ _ _ _ [.int x13, .int a1, .ref 215] _ _
          refine g_brP rfl rfl ⟨fun hc => ?_, fun hc => ?_⟩
          · replace h := h.1 ((i_eq (x := x13) (y := 0) rfl (show (0 : Int32).toInt = 0 by decide)).mp hc)
            refine g_c [.int 4, .int a1, .ref 215] (xo_push (.int 4)) rfl rfl ?_
            exact k_162_144 r14 h
          · replace h := h.2 (fun q => hc ((i_eq (x := x13) (y := 0) rfl (show (0 : Int32).toInt = 0 by decide)).mpr q))
            refine g_c [.int 3, .int a1, .ref 215] (xo_push (.int 3)) rfl rfl ?_
            refine g_go rfl ?_
            exact k_162_144 r14 h
        · replace h := h.2 (fun q => hc ((i_eq (x := x10) (y := 0) rfl (show (0 : Int32).toInt = 0 by decide)).mpr q))
          refine g_c [.long 0] (xo_push (.long 0)) rfl rfl ?_
          refine g_stL [.ref 213, .int a1, .int a2, .int (s.2.1 214 a2.toInt.toNat), .int a2, .long 0, .null, .null, .null, .null, .null] rfl rfl rfl ?_
          exact kl_162_43 r14 h
      · replace h := h.2 ((i_eq (x := s.2.1 214 a2.toInt.toNat) (y := 32) rfl (show (32 : Int32).toInt = 32 by decide)).mp hc)
        exact k_162_29 r14 h
def wl_162_14 (T : Nat → List Value → yS → (Option Value → yS → Prop) → Prop)  (a1 : Int32) (a2 : Int32) (s : yS) (P : Option Value → yS → Prop) : Prop :=
  ∃ (I : Int32 → Int32 → yS → Prop) (μ : Int32 → Int32 → yS → Nat), I a1 a2 s ∧ ∀ (a1 : Int32) (a2 : Int32) (s : yS), I a1 a2 s → w_162_14 T (fun a1' a2' s' => I a1' a2' s' ∧ μ a1' a2' s' < μ a1 a2 s) a1 a2 s P
theorem kl_162_14 {d : Nat}  {a1 : Int32} {a2 : Int32} {s : yS} {P : Option Value → yS → Prop}  (h : wl_162_14 (Tot d)  a1 a2 s P) : Go d 10 (none) xE_162 (xE_162.drop 14) [.ref 213, .int a1, .int a2, .null, .null, .null, .null, .null, .null, .null, .null] [] s P := by
  obtain ⟨I, μ, h0, h1⟩ := h
  have key : ∀ (n : Nat) (a1 : Int32) (a2 : Int32) (s : yS), μ a1 a2 s = n → I a1 a2 s → Go d 10 (none) xE_162 (xE_162.drop 14) [.ref 213, .int a1, .int a2, .null, .null, .null, .null, .null, .null, .null, .null] [] s P := by
    intro n
    induction n using Nat.strongRecOn with
    | ind n ih =>
      intro a1 a2 s e hI
      exact k_162_14 (fun a1' a2' s' q => ih _ (by rw [← e]; exact q.2) _ _ _ rfl q.1) (h1 a1 a2 s hI)
  exact key _ a1 a2 s rfl h0
def w_162_0 (T : Nat → List Value → yS → (Option Value → yS → Prop) → Prop)   (s : yS) (P : Option Value → yS → Prop) : Prop :=
  ∀ s1, s1 = sf s 3 (s.1 2) → ∀ s2, s2 = sf s1 2 0 → (-2147483648 ≤ 4002 * (s2.1 9).toInt ∧ 4002 * (s2.1 9).toInt ≤ 2147483647) ∧ (∀ x3 : Int32, x3.toInt = 4002 * (s2.1 9).toInt → wl_162_14 T  x3 0  s2 P)
set_option maxRecDepth 20000 in
theorem k_162_0 {d : Nat}   {s : yS} {P : Option Value → yS → Prop}  (h : w_162_0 (Tot d)   s P) : Go d 10 (none) xE_162 (xE_162.drop 0) [.ref 213, .null, .null, .null, .null, .null, .null, .null, .null, .null, .null] [] s P := by
  unfold w_162_0 at h
  refine g_ld rfl rfl rfl ?_
  refine g_ld rfl rfl rfl ?_
  refine g_get rfl rfl ?_
  change Go _ _ _ _ _ _ [.int (s.1 2), .ref 213] _ _
  refine g_put rfl rfl rfl ?_
  replace h := h _ rfl
  refine g_ld rfl rfl rfl ?_
  refine g_c [.int 0, .ref 213] (xo_push (.int 0)) rfl rfl ?_
  refine g_put rfl rfl rfl ?_
  replace h := h _ rfl
  refine g_c [.int 4002] (xo_push (.int 4002)) rfl rfl ?_
  refine g_ld rfl rfl rfl ?_
  refine g_get rfl rfl ?_
  change Go _ _ _ _ _ _ [.int ((sf (sf s 3 (s.1 2)) 2 0).1 9), .int 4002] _ _
  have ex3 := i_mul (x := 4002) (y := (sf (sf s 3 (s.1 2)) 2 0).1 9) (show (4002 : Int32).toInt = 4002 by decide) rfl h.1
  replace h := h.2 _ ex3
  refine g_c [.int (4002 * ((sf (sf s 3 (s.1 2)) 2 0).1 9))] xo_imul rfl rfl ?_
  refine g_st [.ref 213, .int (4002 * ((sf (sf s 3 (s.1 2)) 2 0).1 9)), .null, .null, .null, .null, .null, .null, .null, .null, .null] rfl rfl rfl ?_
  refine g_c [.int 0] (xo_push (.int 0)) rfl rfl ?_
  refine g_st [.ref 213, .int (4002 * ((sf (sf s 3 (s.1 2)) 2 0).1 9)), .int 0, .null, .null, .null, .null, .null, .null, .null, .null] rfl rfl rfl ?_
  exact kl_162_14  h
theorem t_162 {d : Nat}  {s : yS} {P : Option Value → yS → Prop} (h : w_162_0 (Tot d)  s P) : Tot (d + 1) 162 [.ref 213] s P := tot_of (E := xE_162) (ml := 10) (ret := none) rfl rfl rfl (k_162_0 h)
/-! wrong -/
def w_163_13 (T : Nat → List Value → yS → (Option Value → yS → Prop) → Prop)  (a1 : Int32) (a2 : Int32) (s : yS) (P : Option Value → yS → Prop) : Prop :=
  P none s
set_option maxRecDepth 20000 in
theorem k_163_13 {d : Nat}  {a1 : Int32} {a2 : Int32} {s : yS} {P : Option Value → yS → Prop}  (h : w_163_13 (Tot d)  a1 a2 s P) : Go d 3 (none) xE_163 (xE_163.drop 13) [.ref 213, .int a1, .int a2, .null, .null, .null] [] s P := by
  unfold w_163_13 at h
  exact g_ret0 rfl h
def w_163_0 (T : Nat → List Value → yS → (Option Value → yS → Prop) → Prop)  (a1 : Int32) (a2 : Int32) (s : yS) (P : Option Value → yS → Prop) : Prop :=
  (¬ ((s.1 8).toInt = 0) → w_163_13 T  a1 a2  s P) ∧ ((s.1 8).toInt = 0 → (0 ≤ a2.toInt ∧ a2.toInt < 12006) ∧ ((-2147483648 ≤ 16 * (s.2.1 216 a2.toInt.toNat).toInt ∧ 16 * (s.2.1 216 a2.toInt.toNat).toInt ≤ 2147483647) ∧ (∀ x1 : Int32, x1.toInt = 16 * (s.2.1 216 a2.toInt.toNat).toInt → (-2147483648 ≤ a1.toInt + x1.toInt ∧ a1.toInt + x1.toInt ≤ 2147483647) ∧ (∀ x2 : Int32, x2.toInt = a1.toInt + x1.toInt → ∀ s3, s3 = sf s 8 x2 → w_163_13 T  a1 a2  s3 P))))
set_option maxRecDepth 20000 in
theorem k_163_0 {d : Nat}  {a1 : Int32} {a2 : Int32} {s : yS} {P : Option Value → yS → Prop}  (h : w_163_0 (Tot d)  a1 a2 s P) : Go d 3 (none) xE_163 (xE_163.drop 0) [.ref 213, .int a1, .int a2, .null, .null, .null] [] s P := by
  unfold w_163_0 at h
  refine g_ld rfl rfl rfl ?_
  refine g_get rfl rfl ?_
  change Go _ _ _ _ _ _ [.int (s.1 8)] _ _
  refine g_brN rfl rfl ⟨fun hc => ?_, fun hc => ?_⟩
  · replace h := h.1 (fun q => hc ((i_eq (x := s.1 8) (y := 0) rfl (show (0 : Int32).toInt = 0 by decide)).mpr q))
    exact k_163_13  h
  · replace h := h.2 ((i_eq (x := s.1 8) (y := 0) rfl (show (0 : Int32).toInt = 0 by decide)).mp hc)
    refine g_ld rfl rfl rfl ?_
    refine g_ld rfl rfl rfl ?_
    refine g_c [.int 16, .int a1, .ref 213] (xo_push (.int 16)) rfl rfl ?_
    refine g_ld rfl rfl rfl ?_
    refine g_get rfl rfl ?_
    change Go _ _ _ _ _ _ [.ref 216, .int 16, .int a1, .ref 213] _ _
    refine g_ld rfl rfl rfl ?_
    refine g_ial rfl rfl (i_in (x := a2) rfl h.1) ?_
    change Go _ _ _ _ _ _ [.int (s.2.1 216 a2.toInt.toNat), .int 16, .int a1, .ref 213] _ _
    replace h := h.2
    have ex1 := i_mul (x := 16) (y := s.2.1 216 a2.toInt.toNat) (show (16 : Int32).toInt = 16 by decide) rfl h.1
    replace h := h.2 _ ex1
    refine g_c [.int (16 * (s.2.1 216 a2.toInt.toNat)), .int a1, .ref 213] xo_imul rfl rfl ?_
    have ex2 := i_add (x := a1) (y := (16 * (s.2.1 216 a2.toInt.toNat))) rfl rfl h.1
    replace h := h.2 _ ex2
    refine g_c [.int (a1 + (16 * (s.2.1 216 a2.toInt.toNat))), .ref 213] xo_iadd rfl rfl ?_
    refine g_put rfl rfl rfl ?_
    replace h := h _ rfl
    exact k_163_13  h
theorem t_163 {d : Nat} {a1 : Int32} {a2 : Int32} {s : yS} {P : Option Value → yS → Prop} (h : w_163_0 (Tot d) a1 a2 s P) : Tot (d + 1) 163 [.ref 213, .int a1, .int a2] s P := tot_of (E := xE_163) (ml := 3) (ret := none) rfl rfl rfl (k_163_0 h)
/-! isSign -/
def w_164_20 (T : Nat → List Value → yS → (Option Value → yS → Prop) → Prop)  (a1 : Int32) (t0 : Int32) (s : yS) (P : Option Value → yS → Prop) : Prop :=
  (t0.toInt = 0 ∨ t0.toInt = 1) ∧ P (some (.int t0)) s
set_option maxRecDepth 20000 in
theorem k_164_20 {d : Nat}  {a1 : Int32} {t0 : Int32} {s : yS} {P : Option Value → yS → Prop}  (h : w_164_20 (Tot d)  a1 t0 s P) : Go d 2 (some .boolean) xE_164 (xE_164.drop 20) [.ref 213, .int a1, .null, .null] [.int t0] s P := by
  unfold w_164_20 at h
  exact g_retZ rfl (i_z (x := t0) rfl h.1) h.2
def w_164_19 (T : Nat → List Value → yS → (Option Value → yS → Prop) → Prop)  (a1 : Int32) (s : yS) (P : Option Value → yS → Prop) : Prop :=
  w_164_20 T  a1 0 s P
set_option maxRecDepth 20000 in
theorem k_164_19 {d : Nat}  {a1 : Int32} {s : yS} {P : Option Value → yS → Prop}  (h : w_164_19 (Tot d)  a1 s P) : Go d 2 (some .boolean) xE_164 (xE_164.drop 19) [.ref 213, .int a1, .null, .null] [] s P := by
  unfold w_164_19 at h
  refine g_c [.int 0] (xo_push (.int 0)) rfl rfl ?_
  exact k_164_20  h
def w_164_0 (T : Nat → List Value → yS → (Option Value → yS → Prop) → Prop)  (a1 : Int32) (s : yS) (P : Option Value → yS → Prop) : Prop :=
  (¬ ((s.1 8).toInt = 0) → w_164_19 T  a1  s P) ∧ ((s.1 8).toInt = 0 → (0 ≤ (s.1 7).toInt ∧ (s.1 7).toInt < 12006) ∧ ((¬ ((s.2.1 215 (s.1 7).toInt.toNat).toInt = 3) → w_164_19 T  a1  s P) ∧ ((s.2.1 215 (s.1 7).toInt.toNat).toInt = 3 → (0 ≤ (s.1 7).toInt ∧ (s.1 7).toInt < 12006) ∧ ((¬ ((s.2.1 217 (s.1 7).toInt.toNat).toInt = a1.toInt) → w_164_19 T  a1  s P) ∧ ((s.2.1 217 (s.1 7).toInt.toNat).toInt = a1.toInt → w_164_20 T  a1 1 s P)))))
set_option maxRecDepth 20000 in
theorem k_164_0 {d : Nat}  {a1 : Int32} {s : yS} {P : Option Value → yS → Prop}  (h : w_164_0 (Tot d)  a1 s P) : Go d 2 (some .boolean) xE_164 (xE_164.drop 0) [.ref 213, .int a1, .null, .null] [] s P := by
  unfold w_164_0 at h
  refine g_ld rfl rfl rfl ?_
  refine g_get rfl rfl ?_
  change Go _ _ _ _ _ _ [.int (s.1 8)] _ _
  refine g_brN rfl rfl ⟨fun hc => ?_, fun hc => ?_⟩
  · replace h := h.1 (fun q => hc ((i_eq (x := s.1 8) (y := 0) rfl (show (0 : Int32).toInt = 0 by decide)).mpr q))
    exact k_164_19  h
  · replace h := h.2 ((i_eq (x := s.1 8) (y := 0) rfl (show (0 : Int32).toInt = 0 by decide)).mp hc)
    refine g_ld rfl rfl rfl ?_
    refine g_get rfl rfl ?_
    change Go _ _ _ _ _ _ [.ref 215] _ _
    refine g_ld rfl rfl rfl ?_
    refine g_get rfl rfl ?_
    change Go _ _ _ _ _ _ [.int (s.1 7), .ref 215] _ _
    refine g_ial rfl rfl (i_in (x := s.1 7) rfl h.1) ?_
    change Go _ _ _ _ _ _ [.int (s.2.1 215 (s.1 7).toInt.toNat)] _ _
    replace h := h.2
    refine g_c [.int 3, .int (s.2.1 215 (s.1 7).toInt.toNat)] (xo_push (.int 3)) rfl rfl ?_
    refine g_brN rfl rfl ⟨fun hc => ?_, fun hc => ?_⟩
    · replace h := h.1 (fun q => hc ((i_eq (x := s.2.1 215 (s.1 7).toInt.toNat) (y := 3) rfl (show (3 : Int32).toInt = 3 by decide)).mpr q))
      exact k_164_19  h
    · replace h := h.2 ((i_eq (x := s.2.1 215 (s.1 7).toInt.toNat) (y := 3) rfl (show (3 : Int32).toInt = 3 by decide)).mp hc)
      refine g_ld rfl rfl rfl ?_
      refine g_get rfl rfl ?_
      change Go _ _ _ _ _ _ [.ref 217] _ _
      refine g_ld rfl rfl rfl ?_
      refine g_get rfl rfl ?_
      change Go _ _ _ _ _ _ [.int (s.1 7), .ref 217] _ _
      refine g_ial rfl rfl (i_in (x := s.1 7) rfl h.1) ?_
      change Go _ _ _ _ _ _ [.int (s.2.1 217 (s.1 7).toInt.toNat)] _ _
      replace h := h.2
      refine g_ld rfl rfl rfl ?_
      refine g_brN rfl rfl ⟨fun hc => ?_, fun hc => ?_⟩
      · replace h := h.1 (fun q => hc ((i_eq (x := s.2.1 217 (s.1 7).toInt.toNat) (y := a1) rfl rfl).mpr q))
        exact k_164_19  h
      · replace h := h.2 ((i_eq (x := s.2.1 217 (s.1 7).toInt.toNat) (y := a1) rfl rfl).mp hc)
        refine g_c [.int 1] (xo_push (.int 1)) rfl rfl ?_
        refine g_go rfl ?_
        exact k_164_20  h
theorem t_164 {d : Nat} {a1 : Int32} {s : yS} {P : Option Value → yS → Prop} (h : w_164_0 (Tot d) a1 s P) : Tot (d + 1) 164 [.ref 213, .int a1] s P := tot_of (E := xE_164) (ml := 2) (ret := some .boolean) rfl rfl rfl (k_164_0 h)
/-! isWord -/
def w_165_20 (T : Nat → List Value → yS → (Option Value → yS → Prop) → Prop)  (a1 : Int32) (t0 : Int32) (s : yS) (P : Option Value → yS → Prop) : Prop :=
  (t0.toInt = 0 ∨ t0.toInt = 1) ∧ P (some (.int t0)) s
set_option maxRecDepth 20000 in
theorem k_165_20 {d : Nat}  {a1 : Int32} {t0 : Int32} {s : yS} {P : Option Value → yS → Prop}  (h : w_165_20 (Tot d)  a1 t0 s P) : Go d 2 (some .boolean) xE_165 (xE_165.drop 20) [.ref 213, .int a1, .null, .null] [.int t0] s P := by
  unfold w_165_20 at h
  exact g_retZ rfl (i_z (x := t0) rfl h.1) h.2
def w_165_19 (T : Nat → List Value → yS → (Option Value → yS → Prop) → Prop)  (a1 : Int32) (s : yS) (P : Option Value → yS → Prop) : Prop :=
  w_165_20 T  a1 0 s P
set_option maxRecDepth 20000 in
theorem k_165_19 {d : Nat}  {a1 : Int32} {s : yS} {P : Option Value → yS → Prop}  (h : w_165_19 (Tot d)  a1 s P) : Go d 2 (some .boolean) xE_165 (xE_165.drop 19) [.ref 213, .int a1, .null, .null] [] s P := by
  unfold w_165_19 at h
  refine g_c [.int 0] (xo_push (.int 0)) rfl rfl ?_
  exact k_165_20  h
def w_165_0 (T : Nat → List Value → yS → (Option Value → yS → Prop) → Prop)  (a1 : Int32) (s : yS) (P : Option Value → yS → Prop) : Prop :=
  (¬ ((s.1 8).toInt = 0) → w_165_19 T  a1  s P) ∧ ((s.1 8).toInt = 0 → (0 ≤ (s.1 7).toInt ∧ (s.1 7).toInt < 12006) ∧ ((¬ ((s.2.1 215 (s.1 7).toInt.toNat).toInt = 1) → w_165_19 T  a1  s P) ∧ ((s.2.1 215 (s.1 7).toInt.toNat).toInt = 1 → (0 ≤ (s.1 7).toInt ∧ (s.1 7).toInt < 12006) ∧ ((¬ ((s.2.1 217 (s.1 7).toInt.toNat).toInt = a1.toInt) → w_165_19 T  a1  s P) ∧ ((s.2.1 217 (s.1 7).toInt.toNat).toInt = a1.toInt → w_165_20 T  a1 1 s P)))))
set_option maxRecDepth 20000 in
theorem k_165_0 {d : Nat}  {a1 : Int32} {s : yS} {P : Option Value → yS → Prop}  (h : w_165_0 (Tot d)  a1 s P) : Go d 2 (some .boolean) xE_165 (xE_165.drop 0) [.ref 213, .int a1, .null, .null] [] s P := by
  unfold w_165_0 at h
  refine g_ld rfl rfl rfl ?_
  refine g_get rfl rfl ?_
  change Go _ _ _ _ _ _ [.int (s.1 8)] _ _
  refine g_brN rfl rfl ⟨fun hc => ?_, fun hc => ?_⟩
  · replace h := h.1 (fun q => hc ((i_eq (x := s.1 8) (y := 0) rfl (show (0 : Int32).toInt = 0 by decide)).mpr q))
    exact k_165_19  h
  · replace h := h.2 ((i_eq (x := s.1 8) (y := 0) rfl (show (0 : Int32).toInt = 0 by decide)).mp hc)
    refine g_ld rfl rfl rfl ?_
    refine g_get rfl rfl ?_
    change Go _ _ _ _ _ _ [.ref 215] _ _
    refine g_ld rfl rfl rfl ?_
    refine g_get rfl rfl ?_
    change Go _ _ _ _ _ _ [.int (s.1 7), .ref 215] _ _
    refine g_ial rfl rfl (i_in (x := s.1 7) rfl h.1) ?_
    change Go _ _ _ _ _ _ [.int (s.2.1 215 (s.1 7).toInt.toNat)] _ _
    replace h := h.2
    refine g_c [.int 1, .int (s.2.1 215 (s.1 7).toInt.toNat)] (xo_push (.int 1)) rfl rfl ?_
    refine g_brN rfl rfl ⟨fun hc => ?_, fun hc => ?_⟩
    · replace h := h.1 (fun q => hc ((i_eq (x := s.2.1 215 (s.1 7).toInt.toNat) (y := 1) rfl (show (1 : Int32).toInt = 1 by decide)).mpr q))
      exact k_165_19  h
    · replace h := h.2 ((i_eq (x := s.2.1 215 (s.1 7).toInt.toNat) (y := 1) rfl (show (1 : Int32).toInt = 1 by decide)).mp hc)
      refine g_ld rfl rfl rfl ?_
      refine g_get rfl rfl ?_
      change Go _ _ _ _ _ _ [.ref 217] _ _
      refine g_ld rfl rfl rfl ?_
      refine g_get rfl rfl ?_
      change Go _ _ _ _ _ _ [.int (s.1 7), .ref 217] _ _
      refine g_ial rfl rfl (i_in (x := s.1 7) rfl h.1) ?_
      change Go _ _ _ _ _ _ [.int (s.2.1 217 (s.1 7).toInt.toNat)] _ _
      replace h := h.2
      refine g_ld rfl rfl rfl ?_
      refine g_brN rfl rfl ⟨fun hc => ?_, fun hc => ?_⟩
      · replace h := h.1 (fun q => hc ((i_eq (x := s.2.1 217 (s.1 7).toInt.toNat) (y := a1) rfl rfl).mpr q))
        exact k_165_19  h
      · replace h := h.2 ((i_eq (x := s.2.1 217 (s.1 7).toInt.toNat) (y := a1) rfl rfl).mp hc)
        refine g_c [.int 1] (xo_push (.int 1)) rfl rfl ?_
        refine g_go rfl ?_
        exact k_165_20  h
theorem t_165 {d : Nat} {a1 : Int32} {s : yS} {P : Option Value → yS → Prop} (h : w_165_0 (Tot d) a1 s P) : Tot (d + 1) 165 [.ref 213, .int a1] s P := tot_of (E := xE_165) (ml := 2) (ret := some .boolean) rfl rfl rfl (k_165_0 h)
/-! isName -/
def w_166_20 (T : Nat → List Value → yS → (Option Value → yS → Prop) → Prop)  (t0 : Int32) (s : yS) (P : Option Value → yS → Prop) : Prop :=
  (t0.toInt = 0 ∨ t0.toInt = 1) ∧ P (some (.int t0)) s
set_option maxRecDepth 20000 in
theorem k_166_20 {d : Nat}  {t0 : Int32} {s : yS} {P : Option Value → yS → Prop}  (h : w_166_20 (Tot d)  t0 s P) : Go d 1 (some .boolean) xE_166 (xE_166.drop 20) [.ref 213, .null] [.int t0] s P := by
  unfold w_166_20 at h
  exact g_retZ rfl (i_z (x := t0) rfl h.1) h.2
def w_166_19 (T : Nat → List Value → yS → (Option Value → yS → Prop) → Prop)   (s : yS) (P : Option Value → yS → Prop) : Prop :=
  w_166_20 T   0 s P
set_option maxRecDepth 20000 in
theorem k_166_19 {d : Nat}   {s : yS} {P : Option Value → yS → Prop}  (h : w_166_19 (Tot d)   s P) : Go d 1 (some .boolean) xE_166 (xE_166.drop 19) [.ref 213, .null] [] s P := by
  unfold w_166_19 at h
  refine g_c [.int 0] (xo_push (.int 0)) rfl rfl ?_
  exact k_166_20  h
def w_166_0 (T : Nat → List Value → yS → (Option Value → yS → Prop) → Prop)   (s : yS) (P : Option Value → yS → Prop) : Prop :=
  (¬ ((s.1 8).toInt = 0) → w_166_19 T    s P) ∧ ((s.1 8).toInt = 0 → (0 ≤ (s.1 7).toInt ∧ (s.1 7).toInt < 12006) ∧ ((¬ ((s.2.1 215 (s.1 7).toInt.toNat).toInt = 1) → w_166_19 T    s P) ∧ ((s.2.1 215 (s.1 7).toInt.toNat).toInt = 1 → (0 ≤ (s.1 7).toInt ∧ (s.1 7).toInt < 12006) ∧ (((s.2.1 217 (s.1 7).toInt.toNat).toInt ≤ 5 → w_166_19 T    s P) ∧ (¬ ((s.2.1 217 (s.1 7).toInt.toNat).toInt ≤ 5) → w_166_20 T   1 s P)))))
set_option maxRecDepth 20000 in
theorem k_166_0 {d : Nat}   {s : yS} {P : Option Value → yS → Prop}  (h : w_166_0 (Tot d)   s P) : Go d 1 (some .boolean) xE_166 (xE_166.drop 0) [.ref 213, .null] [] s P := by
  unfold w_166_0 at h
  refine g_ld rfl rfl rfl ?_
  refine g_get rfl rfl ?_
  change Go _ _ _ _ _ _ [.int (s.1 8)] _ _
  refine g_brN rfl rfl ⟨fun hc => ?_, fun hc => ?_⟩
  · replace h := h.1 (fun q => hc ((i_eq (x := s.1 8) (y := 0) rfl (show (0 : Int32).toInt = 0 by decide)).mpr q))
    exact k_166_19  h
  · replace h := h.2 ((i_eq (x := s.1 8) (y := 0) rfl (show (0 : Int32).toInt = 0 by decide)).mp hc)
    refine g_ld rfl rfl rfl ?_
    refine g_get rfl rfl ?_
    change Go _ _ _ _ _ _ [.ref 215] _ _
    refine g_ld rfl rfl rfl ?_
    refine g_get rfl rfl ?_
    change Go _ _ _ _ _ _ [.int (s.1 7), .ref 215] _ _
    refine g_ial rfl rfl (i_in (x := s.1 7) rfl h.1) ?_
    change Go _ _ _ _ _ _ [.int (s.2.1 215 (s.1 7).toInt.toNat)] _ _
    replace h := h.2
    refine g_c [.int 1, .int (s.2.1 215 (s.1 7).toInt.toNat)] (xo_push (.int 1)) rfl rfl ?_
    refine g_brN rfl rfl ⟨fun hc => ?_, fun hc => ?_⟩
    · replace h := h.1 (fun q => hc ((i_eq (x := s.2.1 215 (s.1 7).toInt.toNat) (y := 1) rfl (show (1 : Int32).toInt = 1 by decide)).mpr q))
      exact k_166_19  h
    · replace h := h.2 ((i_eq (x := s.2.1 215 (s.1 7).toInt.toNat) (y := 1) rfl (show (1 : Int32).toInt = 1 by decide)).mp hc)
      refine g_ld rfl rfl rfl ?_
      refine g_get rfl rfl ?_
      change Go _ _ _ _ _ _ [.ref 217] _ _
      refine g_ld rfl rfl rfl ?_
      refine g_get rfl rfl ?_
      change Go _ _ _ _ _ _ [.int (s.1 7), .ref 217] _ _
      refine g_ial rfl rfl (i_in (x := s.1 7) rfl h.1) ?_
      change Go _ _ _ _ _ _ [.int (s.2.1 217 (s.1 7).toInt.toNat)] _ _
      replace h := h.2
      refine g_c [.int 5, .int (s.2.1 217 (s.1 7).toInt.toNat)] (xo_push (.int 5)) rfl rfl ?_
      refine g_brP rfl rfl ⟨fun hc => ?_, fun hc => ?_⟩
      · replace h := h.1 ((i_le (x := s.2.1 217 (s.1 7).toInt.toNat) (y := 5) rfl (show (5 : Int32).toInt = 5 by decide)).mp hc)
        exact k_166_19  h
      · replace h := h.2 (fun q => hc ((i_le (x := s.2.1 217 (s.1 7).toInt.toNat) (y := 5) rfl (show (5 : Int32).toInt = 5 by decide)).mpr q))
        refine g_c [.int 1] (xo_push (.int 1)) rfl rfl ?_
        refine g_go rfl ?_
        exact k_166_20  h
theorem t_166 {d : Nat}  {s : yS} {P : Option Value → yS → Prop} (h : w_166_0 (Tot d)  s P) : Tot (d + 1) 166 [.ref 213] s P := tot_of (E := xE_166) (ml := 1) (ret := some .boolean) rfl rfl rfl (k_166_0 h)
/-! takeSign -/
def w_167_16 (T : Nat → List Value → yS → (Option Value → yS → Prop) → Prop)  (a1 : Int32) (s : yS) (P : Option Value → yS → Prop) : Prop :=
  P none s
set_option maxRecDepth 20000 in
theorem k_167_16 {d : Nat}  {a1 : Int32} {s : yS} {P : Option Value → yS → Prop}  (h : w_167_16 (Tot d)  a1 s P) : Go d 2 (none) xE_167 (xE_167.drop 16) [.ref 213, .int a1, .null, .null] [] s P := by
  unfold w_167_16 at h
  exact g_ret0 rfl h
def w_167_0 (T : Nat → List Value → yS → (Option Value → yS → Prop) → Prop)  (a1 : Int32) (s : yS) (P : Option Value → yS → Prop) : Prop :=
  T 164 [.ref 213, .int a1] s (fun v2 s1 => ∃ x3, v2 = some (.int x3) ∧ ((x3.toInt = 0 → T 163 [.ref 213, .int 1, .int (s1.1 7)] s1 (fun v5 s4 => v5 = none ∧ (w_167_16 T  a1  s4 P))) ∧ (¬ (x3.toInt = 0) → (-2147483648 ≤ (s1.1 7).toInt + 1 ∧ (s1.1 7).toInt + 1 ≤ 2147483647) ∧ (∀ x6 : Int32, x6.toInt = (s1.1 7).toInt + 1 → ∀ s7, s7 = sf s1 7 x6 → w_167_16 T  a1  s7 P))))
set_option maxRecDepth 20000 in
theorem k_167_0 {d : Nat}  {a1 : Int32} {s : yS} {P : Option Value → yS → Prop}  (h : w_167_0 (Tot d)  a1 s P) : Go d 2 (none) xE_167 (xE_167.drop 0) [.ref 213, .int a1, .null, .null] [] s P := by
  unfold w_167_0 at h
  refine g_ld rfl rfl rfl ?_
  refine g_ld rfl rfl rfl ?_
  refine g_call [.ref 213, .int a1] [] rfl rfl rfl (Tot.imp h (fun v2 s1 h => ?_))
  obtain ⟨x3, rfl, h⟩ := h
  change Go _ _ _ _ _ _ [.int x3] _ _
  refine g_brP rfl rfl ⟨fun hc => ?_, fun hc => ?_⟩
  · replace h := h.1 ((i_eq (x := x3) (y := 0) rfl (show (0 : Int32).toInt = 0 by decide)).mp hc)
    refine g_ld rfl rfl rfl ?_
    refine g_c [.int 1, .ref 213] (xo_push (.int 1)) rfl rfl ?_
    refine g_ld rfl rfl rfl ?_
    refine g_get rfl rfl ?_
    change Go _ _ _ _ _ _ [.int (s1.1 7), .int 1, .ref 213] _ _
    refine g_call [.ref 213, .int 1, .int (s1.1 7)] [] rfl rfl rfl (Tot.imp h (fun v5 s4 h => ?_))
    obtain ⟨rfl, h⟩ := h
    change Go _ _ _ _ _ _ [] _ _
    exact k_167_16  h
  · replace h := h.2 (fun q => hc ((i_eq (x := x3) (y := 0) rfl (show (0 : Int32).toInt = 0 by decide)).mpr q))
    refine g_ld rfl rfl rfl ?_
    refine g_c [.ref 213, .ref 213] xo_dup rfl rfl ?_
    refine g_get rfl rfl ?_
    change Go _ _ _ _ _ _ [.int (s1.1 7), .ref 213] _ _
    refine g_c [.int 1, .int (s1.1 7), .ref 213] (xo_push (.int 1)) rfl rfl ?_
    have ex6 := i_add (x := s1.1 7) (y := 1) rfl (show (1 : Int32).toInt = 1 by decide) h.1
    replace h := h.2 _ ex6
    refine g_c [.int ((s1.1 7) + 1), .ref 213] xo_iadd rfl rfl ?_
    refine g_put rfl rfl rfl ?_
    replace h := h _ rfl
    refine g_go rfl ?_
    exact k_167_16  h
theorem t_167 {d : Nat} {a1 : Int32} {s : yS} {P : Option Value → yS → Prop} (h : w_167_0 (Tot d) a1 s P) : Tot (d + 1) 167 [.ref 213, .int a1] s P := tot_of (E := xE_167) (ml := 2) (ret := none) rfl rfl rfl (k_167_0 h)
/-! hasSign -/
def w_168_12 (T : Nat → List Value → yS → (Option Value → yS → Prop) → Prop)  (a1 : Int32) (a2 : Int32) (t1 : Int32) (t2 : Int32) (s : yS) (P : Option Value → yS → Prop) : Prop :=
  (-2147483648 ≤ t1.toInt + t2.toInt ∧ t1.toInt + t2.toInt ≤ 2147483647) ∧ (∀ x1 : Int32, x1.toInt = t1.toInt + t2.toInt → ∀ s2, s2 = sf s 7 x1 → (a2.toInt = 0 ∨ a2.toInt = 1) ∧ P (some (.int a2)) s2)
set_option maxRecDepth 20000 in
theorem k_168_12 {d : Nat}  {a1 : Int32} {a2 : Int32} {t1 : Int32} {t2 : Int32} {s : yS} {P : Option Value → yS → Prop}  (h : w_168_12 (Tot d)  a1 a2 t1 t2 s P) : Go d 3 (some .boolean) xE_168 (xE_168.drop 12) [.ref 213, .int a1, .int a2, .null, .null] [.int t2, .int t1, .ref 213] s P := by
  unfold w_168_12 at h
  have ex1 := i_add (x := t1) (y := t2) rfl rfl h.1
  replace h := h.2 _ ex1
  refine g_c [.int (t1 + t2), .ref 213] xo_iadd rfl rfl ?_
  refine g_put rfl rfl rfl ?_
  replace h := h _ rfl
  refine g_ld rfl rfl rfl ?_
  exact g_retZ rfl (i_z (x := a2) rfl h.1) h.2
def w_168_0 (T : Nat → List Value → yS → (Option Value → yS → Prop) → Prop)  (a1 : Int32) (s : yS) (P : Option Value → yS → Prop) : Prop :=
  T 164 [.ref 213, .int a1] s (fun v2 s1 => ∃ x3, v2 = some (.int x3) ∧ ((x3.toInt = 0 → w_168_12 T  a1 x3 (s1.1 7) 0 s1 P) ∧ (¬ (x3.toInt = 0) → w_168_12 T  a1 x3 (s1.1 7) 1 s1 P)))
set_option maxRecDepth 20000 in
theorem k_168_0 {d : Nat}  {a1 : Int32} {s : yS} {P : Option Value → yS → Prop}  (h : w_168_0 (Tot d)  a1 s P) : Go d 3 (some .boolean) xE_168 (xE_168.drop 0) [.ref 213, .int a1, .null, .null, .null] [] s P := by
  unfold w_168_0 at h
  refine g_ld rfl rfl rfl ?_
  refine g_ld rfl rfl rfl ?_
  refine g_call [.ref 213, .int a1] [] rfl rfl rfl (Tot.imp h (fun v2 s1 h => ?_))
  obtain ⟨x3, rfl, h⟩ := h
  change Go _ _ _ _ _ _ [.int x3] _ _
  refine g_st [.ref 213, .int a1, .int x3, .null, .null] rfl rfl rfl ?_
  refine g_ld rfl rfl rfl ?_
  refine g_c [.ref 213, .ref 213] xo_dup rfl rfl ?_
  refine g_get rfl rfl ?_
  change Go _ _ _ _ _ _ [.int (s1.1 7), .ref 213] _ _
  refine g_ld rfl rfl rfl ?_
  refine g_brP rfl rfl ⟨fun hc => ?_, fun hc => ?_⟩
  · replace h := h.1 ((i_eq (x := x3) (y := 0) rfl (show (0 : Int32).toInt = 0 by decide)).mp hc)
    refine g_c [.int 0, .int (s1.1 7), .ref 213] (xo_push (.int 0)) rfl rfl ?_
    exact k_168_12  h
  · replace h := h.2 (fun q => hc ((i_eq (x := x3) (y := 0) rfl (show (0 : Int32).toInt = 0 by decide)).mpr q))
    refine g_c [.int 1, .int (s1.1 7), .ref 213] (xo_push (.int 1)) rfl rfl ?_
    refine g_go rfl ?_
    exact k_168_12  h
theorem t_168 {d : Nat} {a1 : Int32} {s : yS} {P : Option Value → yS → Prop} (h : w_168_0 (Tot d) a1 s P) : Tot (d + 1) 168 [.ref 213, .int a1] s P := tot_of (E := xE_168) (ml := 3) (ret := some .boolean) rfl rfl rfl (k_168_0 h)
/-! takeWord -/
def w_169_16 (T : Nat → List Value → yS → (Option Value → yS → Prop) → Prop)  (a1 : Int32) (s : yS) (P : Option Value → yS → Prop) : Prop :=
  P none s
set_option maxRecDepth 20000 in
theorem k_169_16 {d : Nat}  {a1 : Int32} {s : yS} {P : Option Value → yS → Prop}  (h : w_169_16 (Tot d)  a1 s P) : Go d 2 (none) xE_169 (xE_169.drop 16) [.ref 213, .int a1, .null, .null] [] s P := by
  unfold w_169_16 at h
  exact g_ret0 rfl h
def w_169_0 (T : Nat → List Value → yS → (Option Value → yS → Prop) → Prop)  (a1 : Int32) (s : yS) (P : Option Value → yS → Prop) : Prop :=
  T 165 [.ref 213, .int a1] s (fun v2 s1 => ∃ x3, v2 = some (.int x3) ∧ ((x3.toInt = 0 → T 163 [.ref 213, .int 1, .int (s1.1 7)] s1 (fun v5 s4 => v5 = none ∧ (w_169_16 T  a1  s4 P))) ∧ (¬ (x3.toInt = 0) → (-2147483648 ≤ (s1.1 7).toInt + 1 ∧ (s1.1 7).toInt + 1 ≤ 2147483647) ∧ (∀ x6 : Int32, x6.toInt = (s1.1 7).toInt + 1 → ∀ s7, s7 = sf s1 7 x6 → w_169_16 T  a1  s7 P))))
set_option maxRecDepth 20000 in
theorem k_169_0 {d : Nat}  {a1 : Int32} {s : yS} {P : Option Value → yS → Prop}  (h : w_169_0 (Tot d)  a1 s P) : Go d 2 (none) xE_169 (xE_169.drop 0) [.ref 213, .int a1, .null, .null] [] s P := by
  unfold w_169_0 at h
  refine g_ld rfl rfl rfl ?_
  refine g_ld rfl rfl rfl ?_
  refine g_call [.ref 213, .int a1] [] rfl rfl rfl (Tot.imp h (fun v2 s1 h => ?_))
  obtain ⟨x3, rfl, h⟩ := h
  change Go _ _ _ _ _ _ [.int x3] _ _
  refine g_brP rfl rfl ⟨fun hc => ?_, fun hc => ?_⟩
  · replace h := h.1 ((i_eq (x := x3) (y := 0) rfl (show (0 : Int32).toInt = 0 by decide)).mp hc)
    refine g_ld rfl rfl rfl ?_
    refine g_c [.int 1, .ref 213] (xo_push (.int 1)) rfl rfl ?_
    refine g_ld rfl rfl rfl ?_
    refine g_get rfl rfl ?_
    change Go _ _ _ _ _ _ [.int (s1.1 7), .int 1, .ref 213] _ _
    refine g_call [.ref 213, .int 1, .int (s1.1 7)] [] rfl rfl rfl (Tot.imp h (fun v5 s4 h => ?_))
    obtain ⟨rfl, h⟩ := h
    change Go _ _ _ _ _ _ [] _ _
    exact k_169_16  h
  · replace h := h.2 (fun q => hc ((i_eq (x := x3) (y := 0) rfl (show (0 : Int32).toInt = 0 by decide)).mpr q))
    refine g_ld rfl rfl rfl ?_
    refine g_c [.ref 213, .ref 213] xo_dup rfl rfl ?_
    refine g_get rfl rfl ?_
    change Go _ _ _ _ _ _ [.int (s1.1 7), .ref 213] _ _
    refine g_c [.int 1, .int (s1.1 7), .ref 213] (xo_push (.int 1)) rfl rfl ?_
    have ex6 := i_add (x := s1.1 7) (y := 1) rfl (show (1 : Int32).toInt = 1 by decide) h.1
    replace h := h.2 _ ex6
    refine g_c [.int ((s1.1 7) + 1), .ref 213] xo_iadd rfl rfl ?_
    refine g_put rfl rfl rfl ?_
    replace h := h _ rfl
    refine g_go rfl ?_
    exact k_169_16  h
theorem t_169 {d : Nat} {a1 : Int32} {s : yS} {P : Option Value → yS → Prop} (h : w_169_0 (Tot d) a1 s P) : Tot (d + 1) 169 [.ref 213, .int a1] s P := tot_of (E := xE_169) (ml := 2) (ret := none) rfl rfl rfl (k_169_0 h)
/-! takeName -/
def w_170_8 (T : Nat → List Value → yS → (Option Value → yS → Prop) → Prop)   (s : yS) (P : Option Value → yS → Prop) : Prop :=
  (-2147483648 ≤ (s.1 7).toInt + 1 ∧ (s.1 7).toInt + 1 ≤ 2147483647) ∧ (∀ x1 : Int32, x1.toInt = (s.1 7).toInt + 1 → ∀ s2, s2 = sf s 7 x1 → (-2147483648 ≤ (s2.1 7).toInt - 1 ∧ (s2.1 7).toInt - 1 ≤ 2147483647) ∧ (∀ x3 : Int32, x3.toInt = (s2.1 7).toInt - 1 → P (some (.int x3)) s2))
set_option maxRecDepth 20000 in
theorem k_170_8 {d : Nat}   {s : yS} {P : Option Value → yS → Prop}  (h : w_170_8 (Tot d)   s P) : Go d 1 (some .int) xE_170 (xE_170.drop 8) [.ref 213, .null] [] s P := by
  unfold w_170_8 at h
  refine g_ld rfl rfl rfl ?_
  refine g_c [.ref 213, .ref 213] xo_dup rfl rfl ?_
  refine g_get rfl rfl ?_
  change Go _ _ _ _ _ _ [.int (s.1 7), .ref 213] _ _
  refine g_c [.int 1, .int (s.1 7), .ref 213] (xo_push (.int 1)) rfl rfl ?_
  have ex1 := i_add (x := s.1 7) (y := 1) rfl (show (1 : Int32).toInt = 1 by decide) h.1
  replace h := h.2 _ ex1
  refine g_c [.int ((s.1 7) + 1), .ref 213] xo_iadd rfl rfl ?_
  refine g_put rfl rfl rfl ?_
  replace h := h _ rfl
  refine g_ld rfl rfl rfl ?_
  refine g_get rfl rfl ?_
  change Go _ _ _ _ _ _ [.int ((sf s 7 ((s.1 7) + 1)).1 7)] _ _
  refine g_c [.int 1, .int ((sf s 7 ((s.1 7) + 1)).1 7)] (xo_push (.int 1)) rfl rfl ?_
  have ex3 := i_sub (x := (sf s 7 ((s.1 7) + 1)).1 7) (y := 1) rfl (show (1 : Int32).toInt = 1 by decide) h.1
  replace h := h.2 _ ex3
  refine g_c [.int (((sf s 7 ((s.1 7) + 1)).1 7) - 1)] xo_isub rfl rfl ?_
  exact g_retI rfl h
def w_170_0 (T : Nat → List Value → yS → (Option Value → yS → Prop) → Prop)   (s : yS) (P : Option Value → yS → Prop) : Prop :=
  T 166 [.ref 213] s (fun v2 s1 => ∃ x3, v2 = some (.int x3) ∧ ((¬ (x3.toInt = 0) → w_170_8 T    s1 P) ∧ (x3.toInt = 0 → T 163 [.ref 213, .int 1, .int (s1.1 7)] s1 (fun v5 s4 => v5 = none ∧ (w_170_8 T    s4 P)))))
set_option maxRecDepth 20000 in
theorem k_170_0 {d : Nat}   {s : yS} {P : Option Value → yS → Prop}  (h : w_170_0 (Tot d)   s P) : Go d 1 (some .int) xE_170 (xE_170.drop 0) [.ref 213, .null] [] s P := by
  unfold w_170_0 at h
  refine g_ld rfl rfl rfl ?_
  refine g_call [.ref 213] [] rfl rfl rfl (Tot.imp h (fun v2 s1 h => ?_))
  obtain ⟨x3, rfl, h⟩ := h
  change Go _ _ _ _ _ _ [.int x3] _ _
  refine g_brN rfl rfl ⟨fun hc => ?_, fun hc => ?_⟩
  · replace h := h.1 (fun q => hc ((i_eq (x := x3) (y := 0) rfl (show (0 : Int32).toInt = 0 by decide)).mpr q))
    exact k_170_8  h
  · replace h := h.2 ((i_eq (x := x3) (y := 0) rfl (show (0 : Int32).toInt = 0 by decide)).mp hc)
    refine g_ld rfl rfl rfl ?_
    refine g_c [.int 1, .ref 213] (xo_push (.int 1)) rfl rfl ?_
    refine g_ld rfl rfl rfl ?_
    refine g_get rfl rfl ?_
    change Go _ _ _ _ _ _ [.int (s1.1 7), .int 1, .ref 213] _ _
    refine g_call [.ref 213, .int 1, .int (s1.1 7)] [] rfl rfl rfl (Tot.imp h (fun v5 s4 h => ?_))
    obtain ⟨rfl, h⟩ := h
    change Go _ _ _ _ _ _ [] _ _
    exact k_170_8  h
theorem t_170 {d : Nat}  {s : yS} {P : Option Value → yS → Prop} (h : w_170_0 (Tot d)  s P) : Tot (d + 1) 170 [.ref 213] s P := tot_of (E := xE_170) (ml := 1) (ret := some .int) rfl rfl rfl (k_170_0 h)
/-! node -/
def w_171_0 (T : Nat → List Value → yS → (Option Value → yS → Prop) → Prop)  (a1 : Int32) (s : yS) (P : Option Value → yS → Prop) : Prop :=
  (0 ≤ (s.1 26).toInt ∧ (s.1 26).toInt < 12006) ∧ (∀ s1, s1 = sa s 221 (s.1 26).toInt.toNat a1 → (0 ≤ (s1.1 26).toInt ∧ (s1.1 26).toInt < 12006) ∧ (∀ s2, s2 = sa s1 222 (s1.1 26).toInt.toNat (s1.1 7) → (0 ≤ (s2.1 26).toInt ∧ (s2.1 26).toInt < 12006) ∧ (∀ s3, s3 = sa s2 224 (s2.1 26).toInt.toNat (-1) → (0 ≤ (s3.1 26).toInt ∧ (s3.1 26).toInt < 12006) ∧ (∀ s4, s4 = sa s3 225 (s3.1 26).toInt.toNat (-1) → (0 ≤ (s4.1 26).toInt ∧ (s4.1 26).toInt < 12006) ∧ (∀ s5, s5 = sa s4 226 (s4.1 26).toInt.toNat 0 → (0 ≤ (s5.1 26).toInt ∧ (s5.1 26).toInt < 12006) ∧ (∀ s6, s6 = sa s5 227 (s5.1 26).toInt.toNat (-1) → (0 ≤ (s6.1 26).toInt ∧ (s6.1 26).toInt < 12006) ∧ (∀ s7, s7 = sa s6 228 (s6.1 26).toInt.toNat (-1) → (0 ≤ (s7.1 26).toInt ∧ (s7.1 26).toInt < 12006) ∧ (∀ s8, s8 = sa s7 229 (s7.1 26).toInt.toNat (-1) → (0 ≤ (s8.1 26).toInt ∧ (s8.1 26).toInt < 12006) ∧ (∀ s9, s9 = sa s8 230 (s8.1 26).toInt.toNat 0 → (-2147483648 ≤ (s9.1 26).toInt + 1 ∧ (s9.1 26).toInt + 1 ≤ 2147483647) ∧ (∀ x10 : Int32, x10.toInt = (s9.1 26).toInt + 1 → ∀ s11, s11 = sf s9 26 x10 → (-2147483648 ≤ (s11.1 26).toInt - 1 ∧ (s11.1 26).toInt - 1 ≤ 2147483647) ∧ (∀ x12 : Int32, x12.toInt = (s11.1 26).toInt - 1 → P (some (.int x12)) s11)))))))))))
set_option maxRecDepth 20000 in
theorem k_171_0 {d : Nat}  {a1 : Int32} {s : yS} {P : Option Value → yS → Prop}  (h : w_171_0 (Tot d)  a1 s P) : Go d 2 (some .int) xE_171 (xE_171.drop 0) [.ref 213, .int a1, .null, .null] [] s P := by
  unfold w_171_0 at h
  refine g_ld rfl rfl rfl ?_
  refine g_get rfl rfl ?_
  change Go _ _ _ _ _ _ [.ref 221] _ _
  refine g_ld rfl rfl rfl ?_
  refine g_get rfl rfl ?_
  change Go _ _ _ _ _ _ [.int (s.1 26), .ref 221] _ _
  refine g_ld rfl rfl rfl ?_
  refine g_ias rfl rfl (i_in (x := s.1 26) rfl h.1) ?_
  replace h := h.2
  replace h := h _ rfl
  refine g_ld rfl rfl rfl ?_
  refine g_get rfl rfl ?_
  change Go _ _ _ _ _ _ [.ref 222] _ _
  refine g_ld rfl rfl rfl ?_
  refine g_get rfl rfl ?_
  change Go _ _ _ _ _ _ [.int ((sa s 221 (s.1 26).toInt.toNat a1).1 26), .ref 222] _ _
  refine g_ld rfl rfl rfl ?_
  refine g_get rfl rfl ?_
  change Go _ _ _ _ _ _ [.int ((sa s 221 (s.1 26).toInt.toNat a1).1 7), .int ((sa s 221 (s.1 26).toInt.toNat a1).1 26), .ref 222] _ _
  refine g_ias rfl rfl (i_in (x := (sa s 221 (s.1 26).toInt.toNat a1).1 26) rfl h.1) ?_
  replace h := h.2
  replace h := h _ rfl
  refine g_ld rfl rfl rfl ?_
  refine g_get rfl rfl ?_
  change Go _ _ _ _ _ _ [.ref 224] _ _
  refine g_ld rfl rfl rfl ?_
  refine g_get rfl rfl ?_
  change Go _ _ _ _ _ _ [.int ((sa (sa s 221 (s.1 26).toInt.toNat a1) 222 ((sa s 221 (s.1 26).toInt.toNat a1).1 26).toInt.toNat ((sa s 221 (s.1 26).toInt.toNat a1).1 7)).1 26), .ref 224] _ _
  refine g_c [.int (-1), .int ((sa (sa s 221 (s.1 26).toInt.toNat a1) 222 ((sa s 221 (s.1 26).toInt.toNat a1).1 26).toInt.toNat ((sa s 221 (s.1 26).toInt.toNat a1).1 7)).1 26), .ref 224] (xo_push (.int (-1))) rfl rfl ?_
  refine g_ias rfl rfl (i_in (x := (sa (sa s 221 (s.1 26).toInt.toNat a1) 222 ((sa s 221 (s.1 26).toInt.toNat a1).1 26).toInt.toNat ((sa s 221 (s.1 26).toInt.toNat a1).1 7)).1 26) rfl h.1) ?_
  replace h := h.2
  replace h := h _ rfl
  refine g_ld rfl rfl rfl ?_
  refine g_get rfl rfl ?_
  change Go _ _ _ _ _ _ [.ref 225] _ _
  refine g_ld rfl rfl rfl ?_
  refine g_get rfl rfl ?_
  change Go _ _ _ _ _ _ [.int ((sa (sa (sa s 221 (s.1 26).toInt.toNat a1) 222 ((sa s 221 (s.1 26).toInt.toNat a1).1 26).toInt.toNat ((sa s 221 (s.1 26).toInt.toNat a1).1 7)) 224 ((sa (sa s 221 (s.1 26).toInt.toNat a1) 222 ((sa s 221 (s.1 26).toInt.toNat a1).1 26).toInt.toNat ((sa s 221 (s.1 26).toInt.toNat a1).1 7)).1 26).toInt.toNat (-1)).1 26), .ref 225] _ _
  refine g_c [.int (-1), .int ((sa (sa (sa s 221 (s.1 26).toInt.toNat a1) 222 ((sa s 221 (s.1 26).toInt.toNat a1).1 26).toInt.toNat ((sa s 221 (s.1 26).toInt.toNat a1).1 7)) 224 ((sa (sa s 221 (s.1 26).toInt.toNat a1) 222 ((sa s 221 (s.1 26).toInt.toNat a1).1 26).toInt.toNat ((sa s 221 (s.1 26).toInt.toNat a1).1 7)).1 26).toInt.toNat (-1)).1 26), .ref 225] (xo_push (.int (-1))) rfl rfl ?_
  refine g_ias rfl rfl (i_in (x := (sa (sa (sa s 221 (s.1 26).toInt.toNat a1) 222 ((sa s 221 (s.1 26).toInt.toNat a1).1 26).toInt.toNat ((sa s 221 (s.1 26).toInt.toNat a1).1 7)) 224 ((sa (sa s 221 (s.1 26).toInt.toNat a1) 222 ((sa s 221 (s.1 26).toInt.toNat a1).1 26).toInt.toNat ((sa s 221 (s.1 26).toInt.toNat a1).1 7)).1 26).toInt.toNat (-1)).1 26) rfl h.1) ?_
  replace h := h.2
  replace h := h _ rfl
  refine g_ld rfl rfl rfl ?_
  refine g_get rfl rfl ?_
  change Go _ _ _ _ _ _ [.ref 226] _ _
  refine g_ld rfl rfl rfl ?_
  refine g_get rfl rfl ?_
  change Go _ _ _ _ _ _ [.int ((sa (sa (sa (sa s 221 (s.1 26).toInt.toNat a1) 222 ((sa s 221 (s.1 26).toInt.toNat a1).1 26).toInt.toNat ((sa s 221 (s.1 26).toInt.toNat a1).1 7)) 224 ((sa (sa s 221 (s.1 26).toInt.toNat a1) 222 ((sa s 221 (s.1 26).toInt.toNat a1).1 26).toInt.toNat ((sa s 221 (s.1 26).toInt.toNat a1).1 7)).1 26).toInt.toNat (-1)) 225 ((sa (sa (sa s 221 (s.1 26).toInt.toNat a1) 222 ((sa s 221 (s.1 26).toInt.toNat a1).1 26).toInt.toNat ((sa s 221 (s.1 26).toInt.toNat a1).1 7)) 224 ((sa (sa s 221 (s.1 26).toInt.toNat a1) 222 ((sa s 221 (s.1 26).toInt.toNat a1).1 26).toInt.toNat ((sa s 221 (s.1 26).toInt.toNat a1).1 7)).1 26).toInt.toNat (-1)).1 26).toInt.toNat (-1)).1 26), .ref 226] _ _
  refine g_c [.int 0, .int ((sa (sa (sa (sa s 221 (s.1 26).toInt.toNat a1) 222 ((sa s 221 (s.1 26).toInt.toNat a1).1 26).toInt.toNat ((sa s 221 (s.1 26).toInt.toNat a1).1 7)) 224 ((sa (sa s 221 (s.1 26).toInt.toNat a1) 222 ((sa s 221 (s.1 26).toInt.toNat a1).1 26).toInt.toNat ((sa s 221 (s.1 26).toInt.toNat a1).1 7)).1 26).toInt.toNat (-1)) 225 ((sa (sa (sa s 221 (s.1 26).toInt.toNat a1) 222 ((sa s 221 (s.1 26).toInt.toNat a1).1 26).toInt.toNat ((sa s 221 (s.1 26).toInt.toNat a1).1 7)) 224 ((sa (sa s 221 (s.1 26).toInt.toNat a1) 222 ((sa s 221 (s.1 26).toInt.toNat a1).1 26).toInt.toNat ((sa s 221 (s.1 26).toInt.toNat a1).1 7)).1 26).toInt.toNat (-1)).1 26).toInt.toNat (-1)).1 26), .ref 226] (xo_push (.int 0)) rfl rfl ?_
  refine g_ias rfl rfl (i_in (x := (sa (sa (sa (sa s 221 (s.1 26).toInt.toNat a1) 222 ((sa s 221 (s.1 26).toInt.toNat a1).1 26).toInt.toNat ((sa s 221 (s.1 26).toInt.toNat a1).1 7)) 224 ((sa (sa s 221 (s.1 26).toInt.toNat a1) 222 ((sa s 221 (s.1 26).toInt.toNat a1).1 26).toInt.toNat ((sa s 221 (s.1 26).toInt.toNat a1).1 7)).1 26).toInt.toNat (-1)) 225 ((sa (sa (sa s 221 (s.1 26).toInt.toNat a1) 222 ((sa s 221 (s.1 26).toInt.toNat a1).1 26).toInt.toNat ((sa s 221 (s.1 26).toInt.toNat a1).1 7)) 224 ((sa (sa s 221 (s.1 26).toInt.toNat a1) 222 ((sa s 221 (s.1 26).toInt.toNat a1).1 26).toInt.toNat ((sa s 221 (s.1 26).toInt.toNat a1).1 7)).1 26).toInt.toNat (-1)).1 26).toInt.toNat (-1)).1 26) rfl h.1) ?_
  replace h := h.2
  replace h := h _ rfl
  refine g_ld rfl rfl rfl ?_
  refine g_get rfl rfl ?_
  change Go _ _ _ _ _ _ [.ref 227] _ _
  refine g_ld rfl rfl rfl ?_
  refine g_get rfl rfl ?_
  change Go _ _ _ _ _ _ [.int ((sa (sa (sa (sa (sa s 221 (s.1 26).toInt.toNat a1) 222 ((sa s 221 (s.1 26).toInt.toNat a1).1 26).toInt.toNat ((sa s 221 (s.1 26).toInt.toNat a1).1 7)) 224 ((sa (sa s 221 (s.1 26).toInt.toNat a1) 222 ((sa s 221 (s.1 26).toInt.toNat a1).1 26).toInt.toNat ((sa s 221 (s.1 26).toInt.toNat a1).1 7)).1 26).toInt.toNat (-1)) 225 ((sa (sa (sa s 221 (s.1 26).toInt.toNat a1) 222 ((sa s 221 (s.1 26).toInt.toNat a1).1 26).toInt.toNat ((sa s 221 (s.1 26).toInt.toNat a1).1 7)) 224 ((sa (sa s 221 (s.1 26).toInt.toNat a1) 222 ((sa s 221 (s.1 26).toInt.toNat a1).1 26).toInt.toNat ((sa s 221 (s.1 26).toInt.toNat a1).1 7)).1 26).toInt.toNat (-1)).1 26).toInt.toNat (-1)) 226 ((sa (sa (sa (sa s 221 (s.1 26).toInt.toNat a1) 222 ((sa s 221 (s.1 26).toInt.toNat a1).1 26).toInt.toNat ((sa s 221 (s.1 26).toInt.toNat a1).1 7)) 224 ((sa (sa s 221 (s.1 26).toInt.toNat a1) 222 ((sa s 221 (s.1 26).toInt.toNat a1).1 26).toInt.toNat ((sa s 221 (s.1 26).toInt.toNat a1).1 7)).1 26).toInt.toNat (-1)) 225 ((sa (sa (sa s 221 (s.1 26).toInt.toNat a1) 222 ((sa s 221 (s.1 26).toInt.toNat a1).1 26).toInt.toNat ((sa s 221 (s.1 26).toInt.toNat a1).1 7)) 224 ((sa (sa s 221 (s.1 26).toInt.toNat a1) 222 ((sa s 221 (s.1 26).toInt.toNat a1).1 26).toInt.toNat ((sa s 221 (s.1 26).toInt.toNat a1).1 7)).1 26).toInt.toNat (-1)).1 26).toInt.toNat (-1)).1 26).toInt.toNat 0).1 26), .ref 227] _ _
  refine g_c [.int (-1), .int ((sa (sa (sa (sa (sa s 221 (s.1 26).toInt.toNat a1) 222 ((sa s 221 (s.1 26).toInt.toNat a1).1 26).toInt.toNat ((sa s 221 (s.1 26).toInt.toNat a1).1 7)) 224 ((sa (sa s 221 (s.1 26).toInt.toNat a1) 222 ((sa s 221 (s.1 26).toInt.toNat a1).1 26).toInt.toNat ((sa s 221 (s.1 26).toInt.toNat a1).1 7)).1 26).toInt.toNat (-1)) 225 ((sa (sa (sa s 221 (s.1 26).toInt.toNat a1) 222 ((sa s 221 (s.1 26).toInt.toNat a1).1 26).toInt.toNat ((sa s 221 (s.1 26).toInt.toNat a1).1 7)) 224 ((sa (sa s 221 (s.1 26).toInt.toNat a1) 222 ((sa s 221 (s.1 26).toInt.toNat a1).1 26).toInt.toNat ((sa s 221 (s.1 26).toInt.toNat a1).1 7)).1 26).toInt.toNat (-1)).1 26).toInt.toNat (-1)) 226 ((sa (sa (sa (sa s 221 (s.1 26).toInt.toNat a1) 222 ((sa s 221 (s.1 26).toInt.toNat a1).1 26).toInt.toNat ((sa s 221 (s.1 26).toInt.toNat a1).1 7)) 224 ((sa (sa s 221 (s.1 26).toInt.toNat a1) 222 ((sa s 221 (s.1 26).toInt.toNat a1).1 26).toInt.toNat ((sa s 221 (s.1 26).toInt.toNat a1).1 7)).1 26).toInt.toNat (-1)) 225 ((sa (sa (sa s 221 (s.1 26).toInt.toNat a1) 222 ((sa s 221 (s.1 26).toInt.toNat a1).1 26).toInt.toNat ((sa s 221 (s.1 26).toInt.toNat a1).1 7)) 224 ((sa (sa s 221 (s.1 26).toInt.toNat a1) 222 ((sa s 221 (s.1 26).toInt.toNat a1).1 26).toInt.toNat ((sa s 221 (s.1 26).toInt.toNat a1).1 7)).1 26).toInt.toNat (-1)).1 26).toInt.toNat (-1)).1 26).toInt.toNat 0).1 26), .ref 227] (xo_push (.int (-1))) rfl rfl ?_
  refine g_ias rfl rfl (i_in (x := (sa (sa (sa (sa (sa s 221 (s.1 26).toInt.toNat a1) 222 ((sa s 221 (s.1 26).toInt.toNat a1).1 26).toInt.toNat ((sa s 221 (s.1 26).toInt.toNat a1).1 7)) 224 ((sa (sa s 221 (s.1 26).toInt.toNat a1) 222 ((sa s 221 (s.1 26).toInt.toNat a1).1 26).toInt.toNat ((sa s 221 (s.1 26).toInt.toNat a1).1 7)).1 26).toInt.toNat (-1)) 225 ((sa (sa (sa s 221 (s.1 26).toInt.toNat a1) 222 ((sa s 221 (s.1 26).toInt.toNat a1).1 26).toInt.toNat ((sa s 221 (s.1 26).toInt.toNat a1).1 7)) 224 ((sa (sa s 221 (s.1 26).toInt.toNat a1) 222 ((sa s 221 (s.1 26).toInt.toNat a1).1 26).toInt.toNat ((sa s 221 (s.1 26).toInt.toNat a1).1 7)).1 26).toInt.toNat (-1)).1 26).toInt.toNat (-1)) 226 ((sa (sa (sa (sa s 221 (s.1 26).toInt.toNat a1) 222 ((sa s 221 (s.1 26).toInt.toNat a1).1 26).toInt.toNat ((sa s 221 (s.1 26).toInt.toNat a1).1 7)) 224 ((sa (sa s 221 (s.1 26).toInt.toNat a1) 222 ((sa s 221 (s.1 26).toInt.toNat a1).1 26).toInt.toNat ((sa s 221 (s.1 26).toInt.toNat a1).1 7)).1 26).toInt.toNat (-1)) 225 ((sa (sa (sa s 221 (s.1 26).toInt.toNat a1) 222 ((sa s 221 (s.1 26).toInt.toNat a1).1 26).toInt.toNat ((sa s 221 (s.1 26).toInt.toNat a1).1 7)) 224 ((sa (sa s 221 (s.1 26).toInt.toNat a1) 222 ((sa s 221 (s.1 26).toInt.toNat a1).1 26).toInt.toNat ((sa s 221 (s.1 26).toInt.toNat a1).1 7)).1 26).toInt.toNat (-1)).1 26).toInt.toNat (-1)).1 26).toInt.toNat 0).1 26) rfl h.1) ?_
  replace h := h.2
  replace h := h _ rfl
  refine g_ld rfl rfl rfl ?_
  refine g_get rfl rfl ?_
  change Go _ _ _ _ _ _ [.ref 228] _ _
  refine g_ld rfl rfl rfl ?_
  refine g_get rfl rfl ?_
  change Go _ _ _ _ _ _ [.int ((sa (sa (sa (sa (sa (sa s 221 (s.1 26).toInt.toNat a1) 222 ((sa s 221 (s.1 26).toInt.toNat a1).1 26).toInt.toNat ((sa s 221 (s.1 26).toInt.toNat a1).1 7)) 224 ((sa (sa s 221 (s.1 26).toInt.toNat a1) 222 ((sa s 221 (s.1 26).toInt.toNat a1).1 26).toInt.toNat ((sa s 221 (s.1 26).toInt.toNat a1).1 7)).1 26).toInt.toNat (-1)) 225 ((sa (sa (sa s 221 (s.1 26).toInt.toNat a1) 222 ((sa s 221 (s.1 26).toInt.toNat a1).1 26).toInt.toNat ((sa s 221 (s.1 26).toInt.toNat a1).1 7)) 224 ((sa (sa s 221 (s.1 26).toInt.toNat a1) 222 ((sa s 221 (s.1 26).toInt.toNat a1).1 26).toInt.toNat ((sa s 221 (s.1 26).toInt.toNat a1).1 7)).1 26).toInt.toNat (-1)).1 26).toInt.toNat (-1)) 226 ((sa (sa (sa (sa s 221 (s.1 26).toInt.toNat a1) 222 ((sa s 221 (s.1 26).toInt.toNat a1).1 26).toInt.toNat ((sa s 221 (s.1 26).toInt.toNat a1).1 7)) 224 ((sa (sa s 221 (s.1 26).toInt.toNat a1) 222 ((sa s 221 (s.1 26).toInt.toNat a1).1 26).toInt.toNat ((sa s 221 (s.1 26).toInt.toNat a1).1 7)).1 26).toInt.toNat (-1)) 225 ((sa (sa (sa s 221 (s.1 26).toInt.toNat a1) 222 ((sa s 221 (s.1 26).toInt.toNat a1).1 26).toInt.toNat ((sa s 221 (s.1 26).toInt.toNat a1).1 7)) 224 ((sa (sa s 221 (s.1 26).toInt.toNat a1) 222 ((sa s 221 (s.1 26).toInt.toNat a1).1 26).toInt.toNat ((sa s 221 (s.1 26).toInt.toNat a1).1 7)).1 26).toInt.toNat (-1)).1 26).toInt.toNat (-1)).1 26).toInt.toNat 0) 227 ((sa (sa (sa (sa (sa s 221 (s.1 26).toInt.toNat a1) 222 ((sa s 221 (s.1 26).toInt.toNat a1).1 26).toInt.toNat ((sa s 221 (s.1 26).toInt.toNat a1).1 7)) 224 ((sa (sa s 221 (s.1 26).toInt.toNat a1) 222 ((sa s 221 (s.1 26).toInt.toNat a1).1 26).toInt.toNat ((sa s 221 (s.1 26).toInt.toNat a1).1 7)).1 26).toInt.toNat (-1)) 225 ((sa (sa (sa s 221 (s.1 26).toInt.toNat a1) 222 ((sa s 221 (s.1 26).toInt.toNat a1).1 26).toInt.toNat ((sa s 221 (s.1 26).toInt.toNat a1).1 7)) 224 ((sa (sa s 221 (s.1 26).toInt.toNat a1) 222 ((sa s 221 (s.1 26).toInt.toNat a1).1 26).toInt.toNat ((sa s 221 (s.1 26).toInt.toNat a1).1 7)).1 26).toInt.toNat (-1)).1 26).toInt.toNat (-1)) 226 ((sa (sa (sa (sa s 221 (s.1 26).toInt.toNat a1) 222 ((sa s 221 (s.1 26).toInt.toNat a1).1 26).toInt.toNat ((sa s 221 (s.1 26).toInt.toNat a1).1 7)) 224 ((sa (sa s 221 (s.1 26).toInt.toNat a1) 222 ((sa s 221 (s.1 26).toInt.toNat a1).1 26).toInt.toNat ((sa s 221 (s.1 26).toInt.toNat a1).1 7)).1 26).toInt.toNat (-1)) 225 ((sa (sa (sa s 221 (s.1 26).toInt.toNat a1) 222 ((sa s 221 (s.1 26).toInt.toNat a1).1 26).toInt.toNat ((sa s 221 (s.1 26).toInt.toNat a1).1 7)) 224 ((sa (sa s 221 (s.1 26).toInt.toNat a1) 222 ((sa s 221 (s.1 26).toInt.toNat a1).1 26).toInt.toNat ((sa s 221 (s.1 26).toInt.toNat a1).1 7)).1 26).toInt.toNat (-1)).1 26).toInt.toNat (-1)).1 26).toInt.toNat 0).1 26).toInt.toNat (-1)).1 26), .ref 228] _ _
  refine g_c [.int (-1), .int ((sa (sa (sa (sa (sa (sa s 221 (s.1 26).toInt.toNat a1) 222 ((sa s 221 (s.1 26).toInt.toNat a1).1 26).toInt.toNat ((sa s 221 (s.1 26).toInt.toNat a1).1 7)) 224 ((sa (sa s 221 (s.1 26).toInt.toNat a1) 222 ((sa s 221 (s.1 26).toInt.toNat a1).1 26).toInt.toNat ((sa s 221 (s.1 26).toInt.toNat a1).1 7)).1 26).toInt.toNat (-1)) 225 ((sa (sa (sa s 221 (s.1 26).toInt.toNat a1) 222 ((sa s 221 (s.1 26).toInt.toNat a1).1 26).toInt.toNat ((sa s 221 (s.1 26).toInt.toNat a1).1 7)) 224 ((sa (sa s 221 (s.1 26).toInt.toNat a1) 222 ((sa s 221 (s.1 26).toInt.toNat a1).1 26).toInt.toNat ((sa s 221 (s.1 26).toInt.toNat a1).1 7)).1 26).toInt.toNat (-1)).1 26).toInt.toNat (-1)) 226 ((sa (sa (sa (sa s 221 (s.1 26).toInt.toNat a1) 222 ((sa s 221 (s.1 26).toInt.toNat a1).1 26).toInt.toNat ((sa s 221 (s.1 26).toInt.toNat a1).1 7)) 224 ((sa (sa s 221 (s.1 26).toInt.toNat a1) 222 ((sa s 221 (s.1 26).toInt.toNat a1).1 26).toInt.toNat ((sa s 221 (s.1 26).toInt.toNat a1).1 7)).1 26).toInt.toNat (-1)) 225 ((sa (sa (sa s 221 (s.1 26).toInt.toNat a1) 222 ((sa s 221 (s.1 26).toInt.toNat a1).1 26).toInt.toNat ((sa s 221 (s.1 26).toInt.toNat a1).1 7)) 224 ((sa (sa s 221 (s.1 26).toInt.toNat a1) 222 ((sa s 221 (s.1 26).toInt.toNat a1).1 26).toInt.toNat ((sa s 221 (s.1 26).toInt.toNat a1).1 7)).1 26).toInt.toNat (-1)).1 26).toInt.toNat (-1)).1 26).toInt.toNat 0) 227 ((sa (sa (sa (sa (sa s 221 (s.1 26).toInt.toNat a1) 222 ((sa s 221 (s.1 26).toInt.toNat a1).1 26).toInt.toNat ((sa s 221 (s.1 26).toInt.toNat a1).1 7)) 224 ((sa (sa s 221 (s.1 26).toInt.toNat a1) 222 ((sa s 221 (s.1 26).toInt.toNat a1).1 26).toInt.toNat ((sa s 221 (s.1 26).toInt.toNat a1).1 7)).1 26).toInt.toNat (-1)) 225 ((sa (sa (sa s 221 (s.1 26).toInt.toNat a1) 222 ((sa s 221 (s.1 26).toInt.toNat a1).1 26).toInt.toNat ((sa s 221 (s.1 26).toInt.toNat a1).1 7)) 224 ((sa (sa s 221 (s.1 26).toInt.toNat a1) 222 ((sa s 221 (s.1 26).toInt.toNat a1).1 26).toInt.toNat ((sa s 221 (s.1 26).toInt.toNat a1).1 7)).1 26).toInt.toNat (-1)).1 26).toInt.toNat (-1)) 226 ((sa (sa (sa (sa s 221 (s.1 26).toInt.toNat a1) 222 ((sa s 221 (s.1 26).toInt.toNat a1).1 26).toInt.toNat ((sa s 221 (s.1 26).toInt.toNat a1).1 7)) 224 ((sa (sa s 221 (s.1 26).toInt.toNat a1) 222 ((sa s 221 (s.1 26).toInt.toNat a1).1 26).toInt.toNat ((sa s 221 (s.1 26).toInt.toNat a1).1 7)).1 26).toInt.toNat (-1)) 225 ((sa (sa (sa s 221 (s.1 26).toInt.toNat a1) 222 ((sa s 221 (s.1 26).toInt.toNat a1).1 26).toInt.toNat ((sa s 221 (s.1 26).toInt.toNat a1).1 7)) 224 ((sa (sa s 221 (s.1 26).toInt.toNat a1) 222 ((sa s 221 (s.1 26).toInt.toNat a1).1 26).toInt.toNat ((sa s 221 (s.1 26).toInt.toNat a1).1 7)).1 26).toInt.toNat (-1)).1 26).toInt.toNat (-1)).1 26).toInt.toNat 0).1 26).toInt.toNat (-1)).1 26), .ref 228] (xo_push (.int (-1))) rfl rfl ?_
  refine g_ias rfl rfl (i_in (x := (sa (sa (sa (sa (sa (sa s 221 (s.1 26).toInt.toNat a1) 222 ((sa s 221 (s.1 26).toInt.toNat a1).1 26).toInt.toNat ((sa s 221 (s.1 26).toInt.toNat a1).1 7)) 224 ((sa (sa s 221 (s.1 26).toInt.toNat a1) 222 ((sa s 221 (s.1 26).toInt.toNat a1).1 26).toInt.toNat ((sa s 221 (s.1 26).toInt.toNat a1).1 7)).1 26).toInt.toNat (-1)) 225 ((sa (sa (sa s 221 (s.1 26).toInt.toNat a1) 222 ((sa s 221 (s.1 26).toInt.toNat a1).1 26).toInt.toNat ((sa s 221 (s.1 26).toInt.toNat a1).1 7)) 224 ((sa (sa s 221 (s.1 26).toInt.toNat a1) 222 ((sa s 221 (s.1 26).toInt.toNat a1).1 26).toInt.toNat ((sa s 221 (s.1 26).toInt.toNat a1).1 7)).1 26).toInt.toNat (-1)).1 26).toInt.toNat (-1)) 226 ((sa (sa (sa (sa s 221 (s.1 26).toInt.toNat a1) 222 ((sa s 221 (s.1 26).toInt.toNat a1).1 26).toInt.toNat ((sa s 221 (s.1 26).toInt.toNat a1).1 7)) 224 ((sa (sa s 221 (s.1 26).toInt.toNat a1) 222 ((sa s 221 (s.1 26).toInt.toNat a1).1 26).toInt.toNat ((sa s 221 (s.1 26).toInt.toNat a1).1 7)).1 26).toInt.toNat (-1)) 225 ((sa (sa (sa s 221 (s.1 26).toInt.toNat a1) 222 ((sa s 221 (s.1 26).toInt.toNat a1).1 26).toInt.toNat ((sa s 221 (s.1 26).toInt.toNat a1).1 7)) 224 ((sa (sa s 221 (s.1 26).toInt.toNat a1) 222 ((sa s 221 (s.1 26).toInt.toNat a1).1 26).toInt.toNat ((sa s 221 (s.1 26).toInt.toNat a1).1 7)).1 26).toInt.toNat (-1)).1 26).toInt.toNat (-1)).1 26).toInt.toNat 0) 227 ((sa (sa (sa (sa (sa s 221 (s.1 26).toInt.toNat a1) 222 ((sa s 221 (s.1 26).toInt.toNat a1).1 26).toInt.toNat ((sa s 221 (s.1 26).toInt.toNat a1).1 7)) 224 ((sa (sa s 221 (s.1 26).toInt.toNat a1) 222 ((sa s 221 (s.1 26).toInt.toNat a1).1 26).toInt.toNat ((sa s 221 (s.1 26).toInt.toNat a1).1 7)).1 26).toInt.toNat (-1)) 225 ((sa (sa (sa s 221 (s.1 26).toInt.toNat a1) 222 ((sa s 221 (s.1 26).toInt.toNat a1).1 26).toInt.toNat ((sa s 221 (s.1 26).toInt.toNat a1).1 7)) 224 ((sa (sa s 221 (s.1 26).toInt.toNat a1) 222 ((sa s 221 (s.1 26).toInt.toNat a1).1 26).toInt.toNat ((sa s 221 (s.1 26).toInt.toNat a1).1 7)).1 26).toInt.toNat (-1)).1 26).toInt.toNat (-1)) 226 ((sa (sa (sa (sa s 221 (s.1 26).toInt.toNat a1) 222 ((sa s 221 (s.1 26).toInt.toNat a1).1 26).toInt.toNat ((sa s 221 (s.1 26).toInt.toNat a1).1 7)) 224 ((sa (sa s 221 (s.1 26).toInt.toNat a1) 222 ((sa s 221 (s.1 26).toInt.toNat a1).1 26).toInt.toNat ((sa s 221 (s.1 26).toInt.toNat a1).1 7)).1 26).toInt.toNat (-1)) 225 ((sa (sa (sa s 221 (s.1 26).toInt.toNat a1) 222 ((sa s 221 (s.1 26).toInt.toNat a1).1 26).toInt.toNat ((sa s 221 (s.1 26).toInt.toNat a1).1 7)) 224 ((sa (sa s 221 (s.1 26).toInt.toNat a1) 222 ((sa s 221 (s.1 26).toInt.toNat a1).1 26).toInt.toNat ((sa s 221 (s.1 26).toInt.toNat a1).1 7)).1 26).toInt.toNat (-1)).1 26).toInt.toNat (-1)).1 26).toInt.toNat 0).1 26).toInt.toNat (-1)).1 26) rfl h.1) ?_
  replace h := h.2
  replace h := h _ rfl
  refine g_ld rfl rfl rfl ?_
  refine g_get rfl rfl ?_
  change Go _ _ _ _ _ _ [.ref 229] _ _
  refine g_ld rfl rfl rfl ?_
  refine g_get rfl rfl ?_
  change Go _ _ _ _ _ _ [.int ((sa (sa (sa (sa (sa (sa (sa s 221 (s.1 26).toInt.toNat a1) 222 ((sa s 221 (s.1 26).toInt.toNat a1).1 26).toInt.toNat ((sa s 221 (s.1 26).toInt.toNat a1).1 7)) 224 ((sa (sa s 221 (s.1 26).toInt.toNat a1) 222 ((sa s 221 (s.1 26).toInt.toNat a1).1 26).toInt.toNat ((sa s 221 (s.1 26).toInt.toNat a1).1 7)).1 26).toInt.toNat (-1)) 225 ((sa (sa (sa s 221 (s.1 26).toInt.toNat a1) 222 ((sa s 221 (s.1 26).toInt.toNat a1).1 26).toInt.toNat ((sa s 221 (s.1 26).toInt.toNat a1).1 7)) 224 ((sa (sa s 221 (s.1 26).toInt.toNat a1) 222 ((sa s 221 (s.1 26).toInt.toNat a1).1 26).toInt.toNat ((sa s 221 (s.1 26).toInt.toNat a1).1 7)).1 26).toInt.toNat (-1)).1 26).toInt.toNat (-1)) 226 ((sa (sa (sa (sa s 221 (s.1 26).toInt.toNat a1) 222 ((sa s 221 (s.1 26).toInt.toNat a1).1 26).toInt.toNat ((sa s 221 (s.1 26).toInt.toNat a1).1 7)) 224 ((sa (sa s 221 (s.1 26).toInt.toNat a1) 222 ((sa s 221 (s.1 26).toInt.toNat a1).1 26).toInt.toNat ((sa s 221 (s.1 26).toInt.toNat a1).1 7)).1 26).toInt.toNat (-1)) 225 ((sa (sa (sa s 221 (s.1 26).toInt.toNat a1) 222 ((sa s 221 (s.1 26).toInt.toNat a1).1 26).toInt.toNat ((sa s 221 (s.1 26).toInt.toNat a1).1 7)) 224 ((sa (sa s 221 (s.1 26).toInt.toNat a1) 222 ((sa s 221 (s.1 26).toInt.toNat a1).1 26).toInt.toNat ((sa s 221 (s.1 26).toInt.toNat a1).1 7)).1 26).toInt.toNat (-1)).1 26).toInt.toNat (-1)).1 26).toInt.toNat 0) 227 ((sa (sa (sa (sa (sa s 221 (s.1 26).toInt.toNat a1) 222 ((sa s 221 (s.1 26).toInt.toNat a1).1 26).toInt.toNat ((sa s 221 (s.1 26).toInt.toNat a1).1 7)) 224 ((sa (sa s 221 (s.1 26).toInt.toNat a1) 222 ((sa s 221 (s.1 26).toInt.toNat a1).1 26).toInt.toNat ((sa s 221 (s.1 26).toInt.toNat a1).1 7)).1 26).toInt.toNat (-1)) 225 ((sa (sa (sa s 221 (s.1 26).toInt.toNat a1) 222 ((sa s 221 (s.1 26).toInt.toNat a1).1 26).toInt.toNat ((sa s 221 (s.1 26).toInt.toNat a1).1 7)) 224 ((sa (sa s 221 (s.1 26).toInt.toNat a1) 222 ((sa s 221 (s.1 26).toInt.toNat a1).1 26).toInt.toNat ((sa s 221 (s.1 26).toInt.toNat a1).1 7)).1 26).toInt.toNat (-1)).1 26).toInt.toNat (-1)) 226 ((sa (sa (sa (sa s 221 (s.1 26).toInt.toNat a1) 222 ((sa s 221 (s.1 26).toInt.toNat a1).1 26).toInt.toNat ((sa s 221 (s.1 26).toInt.toNat a1).1 7)) 224 ((sa (sa s 221 (s.1 26).toInt.toNat a1) 222 ((sa s 221 (s.1 26).toInt.toNat a1).1 26).toInt.toNat ((sa s 221 (s.1 26).toInt.toNat a1).1 7)).1 26).toInt.toNat (-1)) 225 ((sa (sa (sa s 221 (s.1 26).toInt.toNat a1) 222 ((sa s 221 (s.1 26).toInt.toNat a1).1 26).toInt.toNat ((sa s 221 (s.1 26).toInt.toNat a1).1 7)) 224 ((sa (sa s 221 (s.1 26).toInt.toNat a1) 222 ((sa s 221 (s.1 26).toInt.toNat a1).1 26).toInt.toNat ((sa s 221 (s.1 26).toInt.toNat a1).1 7)).1 26).toInt.toNat (-1)).1 26).toInt.toNat (-1)).1 26).toInt.toNat 0).1 26).toInt.toNat (-1)) 228 ((sa (sa (sa (sa (sa (sa s 221 (s.1 26).toInt.toNat a1) 222 ((sa s 221 (s.1 26).toInt.toNat a1).1 26).toInt.toNat ((sa s 221 (s.1 26).toInt.toNat a1).1 7)) 224 ((sa (sa s 221 (s.1 26).toInt.toNat a1) 222 ((sa s 221 (s.1 26).toInt.toNat a1).1 26).toInt.toNat ((sa s 221 (s.1 26).toInt.toNat a1).1 7)).1 26).toInt.toNat (-1)) 225 ((sa (sa (sa s 221 (s.1 26).toInt.toNat a1) 222 ((sa s 221 (s.1 26).toInt.toNat a1).1 26).toInt.toNat ((sa s 221 (s.1 26).toInt.toNat a1).1 7)) 224 ((sa (sa s 221 (s.1 26).toInt.toNat a1) 222 ((sa s 221 (s.1 26).toInt.toNat a1).1 26).toInt.toNat ((sa s 221 (s.1 26).toInt.toNat a1).1 7)).1 26).toInt.toNat (-1)).1 26).toInt.toNat (-1)) 226 ((sa (sa (sa (sa s 221 (s.1 26).toInt.toNat a1) 222 ((sa s 221 (s.1 26).toInt.toNat a1).1 26).toInt.toNat ((sa s 221 (s.1 26).toInt.toNat a1).1 7)) 224 ((sa (sa s 221 (s.1 26).toInt.toNat a1) 222 ((sa s 221 (s.1 26).toInt.toNat a1).1 26).toInt.toNat ((sa s 221 (s.1 26).toInt.toNat a1).1 7)).1 26).toInt.toNat (-1)) 225 ((sa (sa (sa s 221 (s.1 26).toInt.toNat a1) 222 ((sa s 221 (s.1 26).toInt.toNat a1).1 26).toInt.toNat ((sa s 221 (s.1 26).toInt.toNat a1).1 7)) 224 ((sa (sa s 221 (s.1 26).toInt.toNat a1) 222 ((sa s 221 (s.1 26).toInt.toNat a1).1 26).toInt.toNat ((sa s 221 (s.1 26).toInt.toNat a1).1 7)).1 26).toInt.toNat (-1)).1 26).toInt.toNat (-1)).1 26).toInt.toNat 0) 227 ((sa (sa (sa (sa (sa s 221 (s.1 26).toInt.toNat a1) 222 ((sa s 221 (s.1 26).toInt.toNat a1).1 26).toInt.toNat ((sa s 221 (s.1 26).toInt.toNat a1).1 7)) 224 ((sa (sa s 221 (s.1 26).toInt.toNat a1) 222 ((sa s 221 (s.1 26).toInt.toNat a1).1 26).toInt.toNat ((sa s 221 (s.1 26).toInt.toNat a1).1 7)).1 26).toInt.toNat (-1)) 225 ((sa (sa (sa s 221 (s.1 26).toInt.toNat a1) 222 ((sa s 221 (s.1 26).toInt.toNat a1).1 26).toInt.toNat ((sa s 221 (s.1 26).toInt.toNat a1).1 7)) 224 ((sa (sa s 221 (s.1 26).toInt.toNat a1) 222 ((sa s 221 (s.1 26).toInt.toNat a1).1 26).toInt.toNat ((sa s 221 (s.1 26).toInt.toNat a1).1 7)).1 26).toInt.toNat (-1)).1 26).toInt.toNat (-1)) 226 ((sa (sa (sa (sa s 221 (s.1 26).toInt.toNat a1) 222 ((sa s 221 (s.1 26).toInt.toNat a1).1 26).toInt.toNat ((sa s 221 (s.1 26).toInt.toNat a1).1 7)) 224 ((sa (sa s 221 (s.1 26).toInt.toNat a1) 222 ((sa s 221 (s.1 26).toInt.toNat a1).1 26).toInt.toNat ((sa s 221 (s.1 26).toInt.toNat a1).1 7)).1 26).toInt.toNat (-1)) 225 ((sa (sa (sa s 221 (s.1 26).toInt.toNat a1) 222 ((sa s 221 (s.1 26).toInt.toNat a1).1 26).toInt.toNat ((sa s 221 (s.1 26).toInt.toNat a1).1 7)) 224 ((sa (sa s 221 (s.1 26).toInt.toNat a1) 222 ((sa s 221 (s.1 26).toInt.toNat a1).1 26).toInt.toNat ((sa s 221 (s.1 26).toInt.toNat a1).1 7)).1 26).toInt.toNat (-1)).1 26).toInt.toNat (-1)).1 26).toInt.toNat 0).1 26).toInt.toNat (-1)).1 26).toInt.toNat (-1)).1 26), .ref 229] _ _
  refine g_c [.int (-1), .int ((sa (sa (sa (sa (sa (sa (sa s 221 (s.1 26).toInt.toNat a1) 222 ((sa s 221 (s.1 26).toInt.toNat a1).1 26).toInt.toNat ((sa s 221 (s.1 26).toInt.toNat a1).1 7)) 224 ((sa (sa s 221 (s.1 26).toInt.toNat a1) 222 ((sa s 221 (s.1 26).toInt.toNat a1).1 26).toInt.toNat ((sa s 221 (s.1 26).toInt.toNat a1).1 7)).1 26).toInt.toNat (-1)) 225 ((sa (sa (sa s 221 (s.1 26).toInt.toNat a1) 222 ((sa s 221 (s.1 26).toInt.toNat a1).1 26).toInt.toNat ((sa s 221 (s.1 26).toInt.toNat a1).1 7)) 224 ((sa (sa s 221 (s.1 26).toInt.toNat a1) 222 ((sa s 221 (s.1 26).toInt.toNat a1).1 26).toInt.toNat ((sa s 221 (s.1 26).toInt.toNat a1).1 7)).1 26).toInt.toNat (-1)).1 26).toInt.toNat (-1)) 226 ((sa (sa (sa (sa s 221 (s.1 26).toInt.toNat a1) 222 ((sa s 221 (s.1 26).toInt.toNat a1).1 26).toInt.toNat ((sa s 221 (s.1 26).toInt.toNat a1).1 7)) 224 ((sa (sa s 221 (s.1 26).toInt.toNat a1) 222 ((sa s 221 (s.1 26).toInt.toNat a1).1 26).toInt.toNat ((sa s 221 (s.1 26).toInt.toNat a1).1 7)).1 26).toInt.toNat (-1)) 225 ((sa (sa (sa s 221 (s.1 26).toInt.toNat a1) 222 ((sa s 221 (s.1 26).toInt.toNat a1).1 26).toInt.toNat ((sa s 221 (s.1 26).toInt.toNat a1).1 7)) 224 ((sa (sa s 221 (s.1 26).toInt.toNat a1) 222 ((sa s 221 (s.1 26).toInt.toNat a1).1 26).toInt.toNat ((sa s 221 (s.1 26).toInt.toNat a1).1 7)).1 26).toInt.toNat (-1)).1 26).toInt.toNat (-1)).1 26).toInt.toNat 0) 227 ((sa (sa (sa (sa (sa s 221 (s.1 26).toInt.toNat a1) 222 ((sa s 221 (s.1 26).toInt.toNat a1).1 26).toInt.toNat ((sa s 221 (s.1 26).toInt.toNat a1).1 7)) 224 ((sa (sa s 221 (s.1 26).toInt.toNat a1) 222 ((sa s 221 (s.1 26).toInt.toNat a1).1 26).toInt.toNat ((sa s 221 (s.1 26).toInt.toNat a1).1 7)).1 26).toInt.toNat (-1)) 225 ((sa (sa (sa s 221 (s.1 26).toInt.toNat a1) 222 ((sa s 221 (s.1 26).toInt.toNat a1).1 26).toInt.toNat ((sa s 221 (s.1 26).toInt.toNat a1).1 7)) 224 ((sa (sa s 221 (s.1 26).toInt.toNat a1) 222 ((sa s 221 (s.1 26).toInt.toNat a1).1 26).toInt.toNat ((sa s 221 (s.1 26).toInt.toNat a1).1 7)).1 26).toInt.toNat (-1)).1 26).toInt.toNat (-1)) 226 ((sa (sa (sa (sa s 221 (s.1 26).toInt.toNat a1) 222 ((sa s 221 (s.1 26).toInt.toNat a1).1 26).toInt.toNat ((sa s 221 (s.1 26).toInt.toNat a1).1 7)) 224 ((sa (sa s 221 (s.1 26).toInt.toNat a1) 222 ((sa s 221 (s.1 26).toInt.toNat a1).1 26).toInt.toNat ((sa s 221 (s.1 26).toInt.toNat a1).1 7)).1 26).toInt.toNat (-1)) 225 ((sa (sa (sa s 221 (s.1 26).toInt.toNat a1) 222 ((sa s 221 (s.1 26).toInt.toNat a1).1 26).toInt.toNat ((sa s 221 (s.1 26).toInt.toNat a1).1 7)) 224 ((sa (sa s 221 (s.1 26).toInt.toNat a1) 222 ((sa s 221 (s.1 26).toInt.toNat a1).1 26).toInt.toNat ((sa s 221 (s.1 26).toInt.toNat a1).1 7)).1 26).toInt.toNat (-1)).1 26).toInt.toNat (-1)).1 26).toInt.toNat 0).1 26).toInt.toNat (-1)) 228 ((sa (sa (sa (sa (sa (sa s 221 (s.1 26).toInt.toNat a1) 222 ((sa s 221 (s.1 26).toInt.toNat a1).1 26).toInt.toNat ((sa s 221 (s.1 26).toInt.toNat a1).1 7)) 224 ((sa (sa s 221 (s.1 26).toInt.toNat a1) 222 ((sa s 221 (s.1 26).toInt.toNat a1).1 26).toInt.toNat ((sa s 221 (s.1 26).toInt.toNat a1).1 7)).1 26).toInt.toNat (-1)) 225 ((sa (sa (sa s 221 (s.1 26).toInt.toNat a1) 222 ((sa s 221 (s.1 26).toInt.toNat a1).1 26).toInt.toNat ((sa s 221 (s.1 26).toInt.toNat a1).1 7)) 224 ((sa (sa s 221 (s.1 26).toInt.toNat a1) 222 ((sa s 221 (s.1 26).toInt.toNat a1).1 26).toInt.toNat ((sa s 221 (s.1 26).toInt.toNat a1).1 7)).1 26).toInt.toNat (-1)).1 26).toInt.toNat (-1)) 226 ((sa (sa (sa (sa s 221 (s.1 26).toInt.toNat a1) 222 ((sa s 221 (s.1 26).toInt.toNat a1).1 26).toInt.toNat ((sa s 221 (s.1 26).toInt.toNat a1).1 7)) 224 ((sa (sa s 221 (s.1 26).toInt.toNat a1) 222 ((sa s 221 (s.1 26).toInt.toNat a1).1 26).toInt.toNat ((sa s 221 (s.1 26).toInt.toNat a1).1 7)).1 26).toInt.toNat (-1)) 225 ((sa (sa (sa s 221 (s.1 26).toInt.toNat a1) 222 ((sa s 221 (s.1 26).toInt.toNat a1).1 26).toInt.toNat ((sa s 221 (s.1 26).toInt.toNat a1).1 7)) 224 ((sa (sa s 221 (s.1 26).toInt.toNat a1) 222 ((sa s 221 (s.1 26).toInt.toNat a1).1 26).toInt.toNat ((sa s 221 (s.1 26).toInt.toNat a1).1 7)).1 26).toInt.toNat (-1)).1 26).toInt.toNat (-1)).1 26).toInt.toNat 0) 227 ((sa (sa (sa (sa (sa s 221 (s.1 26).toInt.toNat a1) 222 ((sa s 221 (s.1 26).toInt.toNat a1).1 26).toInt.toNat ((sa s 221 (s.1 26).toInt.toNat a1).1 7)) 224 ((sa (sa s 221 (s.1 26).toInt.toNat a1) 222 ((sa s 221 (s.1 26).toInt.toNat a1).1 26).toInt.toNat ((sa s 221 (s.1 26).toInt.toNat a1).1 7)).1 26).toInt.toNat (-1)) 225 ((sa (sa (sa s 221 (s.1 26).toInt.toNat a1) 222 ((sa s 221 (s.1 26).toInt.toNat a1).1 26).toInt.toNat ((sa s 221 (s.1 26).toInt.toNat a1).1 7)) 224 ((sa (sa s 221 (s.1 26).toInt.toNat a1) 222 ((sa s 221 (s.1 26).toInt.toNat a1).1 26).toInt.toNat ((sa s 221 (s.1 26).toInt.toNat a1).1 7)).1 26).toInt.toNat (-1)).1 26).toInt.toNat (-1)) 226 ((sa (sa (sa (sa s 221 (s.1 26).toInt.toNat a1) 222 ((sa s 221 (s.1 26).toInt.toNat a1).1 26).toInt.toNat ((sa s 221 (s.1 26).toInt.toNat a1).1 7)) 224 ((sa (sa s 221 (s.1 26).toInt.toNat a1) 222 ((sa s 221 (s.1 26).toInt.toNat a1).1 26).toInt.toNat ((sa s 221 (s.1 26).toInt.toNat a1).1 7)).1 26).toInt.toNat (-1)) 225 ((sa (sa (sa s 221 (s.1 26).toInt.toNat a1) 222 ((sa s 221 (s.1 26).toInt.toNat a1).1 26).toInt.toNat ((sa s 221 (s.1 26).toInt.toNat a1).1 7)) 224 ((sa (sa s 221 (s.1 26).toInt.toNat a1) 222 ((sa s 221 (s.1 26).toInt.toNat a1).1 26).toInt.toNat ((sa s 221 (s.1 26).toInt.toNat a1).1 7)).1 26).toInt.toNat (-1)).1 26).toInt.toNat (-1)).1 26).toInt.toNat 0).1 26).toInt.toNat (-1)).1 26).toInt.toNat (-1)).1 26), .ref 229] (xo_push (.int (-1))) rfl rfl ?_
  refine g_ias rfl rfl (i_in (x := (sa (sa (sa (sa (sa (sa (sa s 221 (s.1 26).toInt.toNat a1) 222 ((sa s 221 (s.1 26).toInt.toNat a1).1 26).toInt.toNat ((sa s 221 (s.1 26).toInt.toNat a1).1 7)) 224 ((sa (sa s 221 (s.1 26).toInt.toNat a1) 222 ((sa s 221 (s.1 26).toInt.toNat a1).1 26).toInt.toNat ((sa s 221 (s.1 26).toInt.toNat a1).1 7)).1 26).toInt.toNat (-1)) 225 ((sa (sa (sa s 221 (s.1 26).toInt.toNat a1) 222 ((sa s 221 (s.1 26).toInt.toNat a1).1 26).toInt.toNat ((sa s 221 (s.1 26).toInt.toNat a1).1 7)) 224 ((sa (sa s 221 (s.1 26).toInt.toNat a1) 222 ((sa s 221 (s.1 26).toInt.toNat a1).1 26).toInt.toNat ((sa s 221 (s.1 26).toInt.toNat a1).1 7)).1 26).toInt.toNat (-1)).1 26).toInt.toNat (-1)) 226 ((sa (sa (sa (sa s 221 (s.1 26).toInt.toNat a1) 222 ((sa s 221 (s.1 26).toInt.toNat a1).1 26).toInt.toNat ((sa s 221 (s.1 26).toInt.toNat a1).1 7)) 224 ((sa (sa s 221 (s.1 26).toInt.toNat a1) 222 ((sa s 221 (s.1 26).toInt.toNat a1).1 26).toInt.toNat ((sa s 221 (s.1 26).toInt.toNat a1).1 7)).1 26).toInt.toNat (-1)) 225 ((sa (sa (sa s 221 (s.1 26).toInt.toNat a1) 222 ((sa s 221 (s.1 26).toInt.toNat a1).1 26).toInt.toNat ((sa s 221 (s.1 26).toInt.toNat a1).1 7)) 224 ((sa (sa s 221 (s.1 26).toInt.toNat a1) 222 ((sa s 221 (s.1 26).toInt.toNat a1).1 26).toInt.toNat ((sa s 221 (s.1 26).toInt.toNat a1).1 7)).1 26).toInt.toNat (-1)).1 26).toInt.toNat (-1)).1 26).toInt.toNat 0) 227 ((sa (sa (sa (sa (sa s 221 (s.1 26).toInt.toNat a1) 222 ((sa s 221 (s.1 26).toInt.toNat a1).1 26).toInt.toNat ((sa s 221 (s.1 26).toInt.toNat a1).1 7)) 224 ((sa (sa s 221 (s.1 26).toInt.toNat a1) 222 ((sa s 221 (s.1 26).toInt.toNat a1).1 26).toInt.toNat ((sa s 221 (s.1 26).toInt.toNat a1).1 7)).1 26).toInt.toNat (-1)) 225 ((sa (sa (sa s 221 (s.1 26).toInt.toNat a1) 222 ((sa s 221 (s.1 26).toInt.toNat a1).1 26).toInt.toNat ((sa s 221 (s.1 26).toInt.toNat a1).1 7)) 224 ((sa (sa s 221 (s.1 26).toInt.toNat a1) 222 ((sa s 221 (s.1 26).toInt.toNat a1).1 26).toInt.toNat ((sa s 221 (s.1 26).toInt.toNat a1).1 7)).1 26).toInt.toNat (-1)).1 26).toInt.toNat (-1)) 226 ((sa (sa (sa (sa s 221 (s.1 26).toInt.toNat a1) 222 ((sa s 221 (s.1 26).toInt.toNat a1).1 26).toInt.toNat ((sa s 221 (s.1 26).toInt.toNat a1).1 7)) 224 ((sa (sa s 221 (s.1 26).toInt.toNat a1) 222 ((sa s 221 (s.1 26).toInt.toNat a1).1 26).toInt.toNat ((sa s 221 (s.1 26).toInt.toNat a1).1 7)).1 26).toInt.toNat (-1)) 225 ((sa (sa (sa s 221 (s.1 26).toInt.toNat a1) 222 ((sa s 221 (s.1 26).toInt.toNat a1).1 26).toInt.toNat ((sa s 221 (s.1 26).toInt.toNat a1).1 7)) 224 ((sa (sa s 221 (s.1 26).toInt.toNat a1) 222 ((sa s 221 (s.1 26).toInt.toNat a1).1 26).toInt.toNat ((sa s 221 (s.1 26).toInt.toNat a1).1 7)).1 26).toInt.toNat (-1)).1 26).toInt.toNat (-1)).1 26).toInt.toNat 0).1 26).toInt.toNat (-1)) 228 ((sa (sa (sa (sa (sa (sa s 221 (s.1 26).toInt.toNat a1) 222 ((sa s 221 (s.1 26).toInt.toNat a1).1 26).toInt.toNat ((sa s 221 (s.1 26).toInt.toNat a1).1 7)) 224 ((sa (sa s 221 (s.1 26).toInt.toNat a1) 222 ((sa s 221 (s.1 26).toInt.toNat a1).1 26).toInt.toNat ((sa s 221 (s.1 26).toInt.toNat a1).1 7)).1 26).toInt.toNat (-1)) 225 ((sa (sa (sa s 221 (s.1 26).toInt.toNat a1) 222 ((sa s 221 (s.1 26).toInt.toNat a1).1 26).toInt.toNat ((sa s 221 (s.1 26).toInt.toNat a1).1 7)) 224 ((sa (sa s 221 (s.1 26).toInt.toNat a1) 222 ((sa s 221 (s.1 26).toInt.toNat a1).1 26).toInt.toNat ((sa s 221 (s.1 26).toInt.toNat a1).1 7)).1 26).toInt.toNat (-1)).1 26).toInt.toNat (-1)) 226 ((sa (sa (sa (sa s 221 (s.1 26).toInt.toNat a1) 222 ((sa s 221 (s.1 26).toInt.toNat a1).1 26).toInt.toNat ((sa s 221 (s.1 26).toInt.toNat a1).1 7)) 224 ((sa (sa s 221 (s.1 26).toInt.toNat a1) 222 ((sa s 221 (s.1 26).toInt.toNat a1).1 26).toInt.toNat ((sa s 221 (s.1 26).toInt.toNat a1).1 7)).1 26).toInt.toNat (-1)) 225 ((sa (sa (sa s 221 (s.1 26).toInt.toNat a1) 222 ((sa s 221 (s.1 26).toInt.toNat a1).1 26).toInt.toNat ((sa s 221 (s.1 26).toInt.toNat a1).1 7)) 224 ((sa (sa s 221 (s.1 26).toInt.toNat a1) 222 ((sa s 221 (s.1 26).toInt.toNat a1).1 26).toInt.toNat ((sa s 221 (s.1 26).toInt.toNat a1).1 7)).1 26).toInt.toNat (-1)).1 26).toInt.toNat (-1)).1 26).toInt.toNat 0) 227 ((sa (sa (sa (sa (sa s 221 (s.1 26).toInt.toNat a1) 222 ((sa s 221 (s.1 26).toInt.toNat a1).1 26).toInt.toNat ((sa s 221 (s.1 26).toInt.toNat a1).1 7)) 224 ((sa (sa s 221 (s.1 26).toInt.toNat a1) 222 ((sa s 221 (s.1 26).toInt.toNat a1).1 26).toInt.toNat ((sa s 221 (s.1 26).toInt.toNat a1).1 7)).1 26).toInt.toNat (-1)) 225 ((sa (sa (sa s 221 (s.1 26).toInt.toNat a1) 222 ((sa s 221 (s.1 26).toInt.toNat a1).1 26).toInt.toNat ((sa s 221 (s.1 26).toInt.toNat a1).1 7)) 224 ((sa (sa s 221 (s.1 26).toInt.toNat a1) 222 ((sa s 221 (s.1 26).toInt.toNat a1).1 26).toInt.toNat ((sa s 221 (s.1 26).toInt.toNat a1).1 7)).1 26).toInt.toNat (-1)).1 26).toInt.toNat (-1)) 226 ((sa (sa (sa (sa s 221 (s.1 26).toInt.toNat a1) 222 ((sa s 221 (s.1 26).toInt.toNat a1).1 26).toInt.toNat ((sa s 221 (s.1 26).toInt.toNat a1).1 7)) 224 ((sa (sa s 221 (s.1 26).toInt.toNat a1) 222 ((sa s 221 (s.1 26).toInt.toNat a1).1 26).toInt.toNat ((sa s 221 (s.1 26).toInt.toNat a1).1 7)).1 26).toInt.toNat (-1)) 225 ((sa (sa (sa s 221 (s.1 26).toInt.toNat a1) 222 ((sa s 221 (s.1 26).toInt.toNat a1).1 26).toInt.toNat ((sa s 221 (s.1 26).toInt.toNat a1).1 7)) 224 ((sa (sa s 221 (s.1 26).toInt.toNat a1) 222 ((sa s 221 (s.1 26).toInt.toNat a1).1 26).toInt.toNat ((sa s 221 (s.1 26).toInt.toNat a1).1 7)).1 26).toInt.toNat (-1)).1 26).toInt.toNat (-1)).1 26).toInt.toNat 0).1 26).toInt.toNat (-1)).1 26).toInt.toNat (-1)).1 26) rfl h.1) ?_
  replace h := h.2
  replace h := h _ rfl
  refine g_ld rfl rfl rfl ?_
  refine g_get rfl rfl ?_
  change Go _ _ _ _ _ _ [.ref 230] _ _
  refine g_ld rfl rfl rfl ?_
  refine g_get rfl rfl ?_
  change Go _ _ _ _ _ _ [.int ((sa (sa (sa (sa (sa (sa (sa (sa s 221 (s.1 26).toInt.toNat a1) 222 ((sa s 221 (s.1 26).toInt.toNat a1).1 26).toInt.toNat ((sa s 221 (s.1 26).toInt.toNat a1).1 7)) 224 ((sa (sa s 221 (s.1 26).toInt.toNat a1) 222 ((sa s 221 (s.1 26).toInt.toNat a1).1 26).toInt.toNat ((sa s 221 (s.1 26).toInt.toNat a1).1 7)).1 26).toInt.toNat (-1)) 225 ((sa (sa (sa s 221 (s.1 26).toInt.toNat a1) 222 ((sa s 221 (s.1 26).toInt.toNat a1).1 26).toInt.toNat ((sa s 221 (s.1 26).toInt.toNat a1).1 7)) 224 ((sa (sa s 221 (s.1 26).toInt.toNat a1) 222 ((sa s 221 (s.1 26).toInt.toNat a1).1 26).toInt.toNat ((sa s 221 (s.1 26).toInt.toNat a1).1 7)).1 26).toInt.toNat (-1)).1 26).toInt.toNat (-1)) 226 ((sa (sa (sa (sa s 221 (s.1 26).toInt.toNat a1) 222 ((sa s 221 (s.1 26).toInt.toNat a1).1 26).toInt.toNat ((sa s 221 (s.1 26).toInt.toNat a1).1 7)) 224 ((sa (sa s 221 (s.1 26).toInt.toNat a1) 222 ((sa s 221 (s.1 26).toInt.toNat a1).1 26).toInt.toNat ((sa s 221 (s.1 26).toInt.toNat a1).1 7)).1 26).toInt.toNat (-1)) 225 ((sa (sa (sa s 221 (s.1 26).toInt.toNat a1) 222 ((sa s 221 (s.1 26).toInt.toNat a1).1 26).toInt.toNat ((sa s 221 (s.1 26).toInt.toNat a1).1 7)) 224 ((sa (sa s 221 (s.1 26).toInt.toNat a1) 222 ((sa s 221 (s.1 26).toInt.toNat a1).1 26).toInt.toNat ((sa s 221 (s.1 26).toInt.toNat a1).1 7)).1 26).toInt.toNat (-1)).1 26).toInt.toNat (-1)).1 26).toInt.toNat 0) 227 ((sa (sa (sa (sa (sa s 221 (s.1 26).toInt.toNat a1) 222 ((sa s 221 (s.1 26).toInt.toNat a1).1 26).toInt.toNat ((sa s 221 (s.1 26).toInt.toNat a1).1 7)) 224 ((sa (sa s 221 (s.1 26).toInt.toNat a1) 222 ((sa s 221 (s.1 26).toInt.toNat a1).1 26).toInt.toNat ((sa s 221 (s.1 26).toInt.toNat a1).1 7)).1 26).toInt.toNat (-1)) 225 ((sa (sa (sa s 221 (s.1 26).toInt.toNat a1) 222 ((sa s 221 (s.1 26).toInt.toNat a1).1 26).toInt.toNat ((sa s 221 (s.1 26).toInt.toNat a1).1 7)) 224 ((sa (sa s 221 (s.1 26).toInt.toNat a1) 222 ((sa s 221 (s.1 26).toInt.toNat a1).1 26).toInt.toNat ((sa s 221 (s.1 26).toInt.toNat a1).1 7)).1 26).toInt.toNat (-1)).1 26).toInt.toNat (-1)) 226 ((sa (sa (sa (sa s 221 (s.1 26).toInt.toNat a1) 222 ((sa s 221 (s.1 26).toInt.toNat a1).1 26).toInt.toNat ((sa s 221 (s.1 26).toInt.toNat a1).1 7)) 224 ((sa (sa s 221 (s.1 26).toInt.toNat a1) 222 ((sa s 221 (s.1 26).toInt.toNat a1).1 26).toInt.toNat ((sa s 221 (s.1 26).toInt.toNat a1).1 7)).1 26).toInt.toNat (-1)) 225 ((sa (sa (sa s 221 (s.1 26).toInt.toNat a1) 222 ((sa s 221 (s.1 26).toInt.toNat a1).1 26).toInt.toNat ((sa s 221 (s.1 26).toInt.toNat a1).1 7)) 224 ((sa (sa s 221 (s.1 26).toInt.toNat a1) 222 ((sa s 221 (s.1 26).toInt.toNat a1).1 26).toInt.toNat ((sa s 221 (s.1 26).toInt.toNat a1).1 7)).1 26).toInt.toNat (-1)).1 26).toInt.toNat (-1)).1 26).toInt.toNat 0).1 26).toInt.toNat (-1)) 228 ((sa (sa (sa (sa (sa (sa s 221 (s.1 26).toInt.toNat a1) 222 ((sa s 221 (s.1 26).toInt.toNat a1).1 26).toInt.toNat ((sa s 221 (s.1 26).toInt.toNat a1).1 7)) 224 ((sa (sa s 221 (s.1 26).toInt.toNat a1) 222 ((sa s 221 (s.1 26).toInt.toNat a1).1 26).toInt.toNat ((sa s 221 (s.1 26).toInt.toNat a1).1 7)).1 26).toInt.toNat (-1)) 225 ((sa (sa (sa s 221 (s.1 26).toInt.toNat a1) 222 ((sa s 221 (s.1 26).toInt.toNat a1).1 26).toInt.toNat ((sa s 221 (s.1 26).toInt.toNat a1).1 7)) 224 ((sa (sa s 221 (s.1 26).toInt.toNat a1) 222 ((sa s 221 (s.1 26).toInt.toNat a1).1 26).toInt.toNat ((sa s 221 (s.1 26).toInt.toNat a1).1 7)).1 26).toInt.toNat (-1)).1 26).toInt.toNat (-1)) 226 ((sa (sa (sa (sa s 221 (s.1 26).toInt.toNat a1) 222 ((sa s 221 (s.1 26).toInt.toNat a1).1 26).toInt.toNat ((sa s 221 (s.1 26).toInt.toNat a1).1 7)) 224 ((sa (sa s 221 (s.1 26).toInt.toNat a1) 222 ((sa s 221 (s.1 26).toInt.toNat a1).1 26).toInt.toNat ((sa s 221 (s.1 26).toInt.toNat a1).1 7)).1 26).toInt.toNat (-1)) 225 ((sa (sa (sa s 221 (s.1 26).toInt.toNat a1) 222 ((sa s 221 (s.1 26).toInt.toNat a1).1 26).toInt.toNat ((sa s 221 (s.1 26).toInt.toNat a1).1 7)) 224 ((sa (sa s 221 (s.1 26).toInt.toNat a1) 222 ((sa s 221 (s.1 26).toInt.toNat a1).1 26).toInt.toNat ((sa s 221 (s.1 26).toInt.toNat a1).1 7)).1 26).toInt.toNat (-1)).1 26).toInt.toNat (-1)).1 26).toInt.toNat 0) 227 ((sa (sa (sa (sa (sa s 221 (s.1 26).toInt.toNat a1) 222 ((sa s 221 (s.1 26).toInt.toNat a1).1 26).toInt.toNat ((sa s 221 (s.1 26).toInt.toNat a1).1 7)) 224 ((sa (sa s 221 (s.1 26).toInt.toNat a1) 222 ((sa s 221 (s.1 26).toInt.toNat a1).1 26).toInt.toNat ((sa s 221 (s.1 26).toInt.toNat a1).1 7)).1 26).toInt.toNat (-1)) 225 ((sa (sa (sa s 221 (s.1 26).toInt.toNat a1) 222 ((sa s 221 (s.1 26).toInt.toNat a1).1 26).toInt.toNat ((sa s 221 (s.1 26).toInt.toNat a1).1 7)) 224 ((sa (sa s 221 (s.1 26).toInt.toNat a1) 222 ((sa s 221 (s.1 26).toInt.toNat a1).1 26).toInt.toNat ((sa s 221 (s.1 26).toInt.toNat a1).1 7)).1 26).toInt.toNat (-1)).1 26).toInt.toNat (-1)) 226 ((sa (sa (sa (sa s 221 (s.1 26).toInt.toNat a1) 222 ((sa s 221 (s.1 26).toInt.toNat a1).1 26).toInt.toNat ((sa s 221 (s.1 26).toInt.toNat a1).1 7)) 224 ((sa (sa s 221 (s.1 26).toInt.toNat a1) 222 ((sa s 221 (s.1 26).toInt.toNat a1).1 26).toInt.toNat ((sa s 221 (s.1 26).toInt.toNat a1).1 7)).1 26).toInt.toNat (-1)) 225 ((sa (sa (sa s 221 (s.1 26).toInt.toNat a1) 222 ((sa s 221 (s.1 26).toInt.toNat a1).1 26).toInt.toNat ((sa s 221 (s.1 26).toInt.toNat a1).1 7)) 224 ((sa (sa s 221 (s.1 26).toInt.toNat a1) 222 ((sa s 221 (s.1 26).toInt.toNat a1).1 26).toInt.toNat ((sa s 221 (s.1 26).toInt.toNat a1).1 7)).1 26).toInt.toNat (-1)).1 26).toInt.toNat (-1)).1 26).toInt.toNat 0).1 26).toInt.toNat (-1)).1 26).toInt.toNat (-1)) 229 ((sa (sa (sa (sa (sa (sa (sa s 221 (s.1 26).toInt.toNat a1) 222 ((sa s 221 (s.1 26).toInt.toNat a1).1 26).toInt.toNat ((sa s 221 (s.1 26).toInt.toNat a1).1 7)) 224 ((sa (sa s 221 (s.1 26).toInt.toNat a1) 222 ((sa s 221 (s.1 26).toInt.toNat a1).1 26).toInt.toNat ((sa s 221 (s.1 26).toInt.toNat a1).1 7)).1 26).toInt.toNat (-1)) 225 ((sa (sa (sa s 221 (s.1 26).toInt.toNat a1) 222 ((sa s 221 (s.1 26).toInt.toNat a1).1 26).toInt.toNat ((sa s 221 (s.1 26).toInt.toNat a1).1 7)) 224 ((sa (sa s 221 (s.1 26).toInt.toNat a1) 222 ((sa s 221 (s.1 26).toInt.toNat a1).1 26).toInt.toNat ((sa s 221 (s.1 26).toInt.toNat a1).1 7)).1 26).toInt.toNat (-1)).1 26).toInt.toNat (-1)) 226 ((sa (sa (sa (sa s 221 (s.1 26).toInt.toNat a1) 222 ((sa s 221 (s.1 26).toInt.toNat a1).1 26).toInt.toNat ((sa s 221 (s.1 26).toInt.toNat a1).1 7)) 224 ((sa (sa s 221 (s.1 26).toInt.toNat a1) 222 ((sa s 221 (s.1 26).toInt.toNat a1).1 26).toInt.toNat ((sa s 221 (s.1 26).toInt.toNat a1).1 7)).1 26).toInt.toNat (-1)) 225 ((sa (sa (sa s 221 (s.1 26).toInt.toNat a1) 222 ((sa s 221 (s.1 26).toInt.toNat a1).1 26).toInt.toNat ((sa s 221 (s.1 26).toInt.toNat a1).1 7)) 224 ((sa (sa s 221 (s.1 26).toInt.toNat a1) 222 ((sa s 221 (s.1 26).toInt.toNat a1).1 26).toInt.toNat ((sa s 221 (s.1 26).toInt.toNat a1).1 7)).1 26).toInt.toNat (-1)).1 26).toInt.toNat (-1)).1 26).toInt.toNat 0) 227 ((sa (sa (sa (sa (sa s 221 (s.1 26).toInt.toNat a1) 222 ((sa s 221 (s.1 26).toInt.toNat a1).1 26).toInt.toNat ((sa s 221 (s.1 26).toInt.toNat a1).1 7)) 224 ((sa (sa s 221 (s.1 26).toInt.toNat a1) 222 ((sa s 221 (s.1 26).toInt.toNat a1).1 26).toInt.toNat ((sa s 221 (s.1 26).toInt.toNat a1).1 7)).1 26).toInt.toNat (-1)) 225 ((sa (sa (sa s 221 (s.1 26).toInt.toNat a1) 222 ((sa s 221 (s.1 26).toInt.toNat a1).1 26).toInt.toNat ((sa s 221 (s.1 26).toInt.toNat a1).1 7)) 224 ((sa (sa s 221 (s.1 26).toInt.toNat a1) 222 ((sa s 221 (s.1 26).toInt.toNat a1).1 26).toInt.toNat ((sa s 221 (s.1 26).toInt.toNat a1).1 7)).1 26).toInt.toNat (-1)).1 26).toInt.toNat (-1)) 226 ((sa (sa (sa (sa s 221 (s.1 26).toInt.toNat a1) 222 ((sa s 221 (s.1 26).toInt.toNat a1).1 26).toInt.toNat ((sa s 221 (s.1 26).toInt.toNat a1).1 7)) 224 ((sa (sa s 221 (s.1 26).toInt.toNat a1) 222 ((sa s 221 (s.1 26).toInt.toNat a1).1 26).toInt.toNat ((sa s 221 (s.1 26).toInt.toNat a1).1 7)).1 26).toInt.toNat (-1)) 225 ((sa (sa (sa s 221 (s.1 26).toInt.toNat a1) 222 ((sa s 221 (s.1 26).toInt.toNat a1).1 26).toInt.toNat ((sa s 221 (s.1 26).toInt.toNat a1).1 7)) 224 ((sa (sa s 221 (s.1 26).toInt.toNat a1) 222 ((sa s 221 (s.1 26).toInt.toNat a1).1 26).toInt.toNat ((sa s 221 (s.1 26).toInt.toNat a1).1 7)).1 26).toInt.toNat (-1)).1 26).toInt.toNat (-1)).1 26).toInt.toNat 0).1 26).toInt.toNat (-1)) 228 ((sa (sa (sa (sa (sa (sa s 221 (s.1 26).toInt.toNat a1) 222 ((sa s 221 (s.1 26).toInt.toNat a1).1 26).toInt.toNat ((sa s 221 (s.1 26).toInt.toNat a1).1 7)) 224 ((sa (sa s 221 (s.1 26).toInt.toNat a1) 222 ((sa s 221 (s.1 26).toInt.toNat a1).1 26).toInt.toNat ((sa s 221 (s.1 26).toInt.toNat a1).1 7)).1 26).toInt.toNat (-1)) 225 ((sa (sa (sa s 221 (s.1 26).toInt.toNat a1) 222 ((sa s 221 (s.1 26).toInt.toNat a1).1 26).toInt.toNat ((sa s 221 (s.1 26).toInt.toNat a1).1 7)) 224 ((sa (sa s 221 (s.1 26).toInt.toNat a1) 222 ((sa s 221 (s.1 26).toInt.toNat a1).1 26).toInt.toNat ((sa s 221 (s.1 26).toInt.toNat a1).1 7)).1 26).toInt.toNat (-1)).1 26).toInt.toNat (-1)) 226 ((sa (sa (sa (sa s 221 (s.1 26).toInt.toNat a1) 222 ((sa s 221 (s.1 26).toInt.toNat a1).1 26).toInt.toNat ((sa s 221 (s.1 26).toInt.toNat a1).1 7)) 224 ((sa (sa s 221 (s.1 26).toInt.toNat a1) 222 ((sa s 221 (s.1 26).toInt.toNat a1).1 26).toInt.toNat ((sa s 221 (s.1 26).toInt.toNat a1).1 7)).1 26).toInt.toNat (-1)) 225 ((sa (sa (sa s 221 (s.1 26).toInt.toNat a1) 222 ((sa s 221 (s.1 26).toInt.toNat a1).1 26).toInt.toNat ((sa s 221 (s.1 26).toInt.toNat a1).1 7)) 224 ((sa (sa s 221 (s.1 26).toInt.toNat a1) 222 ((sa s 221 (s.1 26).toInt.toNat a1).1 26).toInt.toNat ((sa s 221 (s.1 26).toInt.toNat a1).1 7)).1 26).toInt.toNat (-1)).1 26).toInt.toNat (-1)).1 26).toInt.toNat 0) 227 ((sa (sa (sa (sa (sa s 221 (s.1 26).toInt.toNat a1) 222 ((sa s 221 (s.1 26).toInt.toNat a1).1 26).toInt.toNat ((sa s 221 (s.1 26).toInt.toNat a1).1 7)) 224 ((sa (sa s 221 (s.1 26).toInt.toNat a1) 222 ((sa s 221 (s.1 26).toInt.toNat a1).1 26).toInt.toNat ((sa s 221 (s.1 26).toInt.toNat a1).1 7)).1 26).toInt.toNat (-1)) 225 ((sa (sa (sa s 221 (s.1 26).toInt.toNat a1) 222 ((sa s 221 (s.1 26).toInt.toNat a1).1 26).toInt.toNat ((sa s 221 (s.1 26).toInt.toNat a1).1 7)) 224 ((sa (sa s 221 (s.1 26).toInt.toNat a1) 222 ((sa s 221 (s.1 26).toInt.toNat a1).1 26).toInt.toNat ((sa s 221 (s.1 26).toInt.toNat a1).1 7)).1 26).toInt.toNat (-1)).1 26).toInt.toNat (-1)) 226 ((sa (sa (sa (sa s 221 (s.1 26).toInt.toNat a1) 222 ((sa s 221 (s.1 26).toInt.toNat a1).1 26).toInt.toNat ((sa s 221 (s.1 26).toInt.toNat a1).1 7)) 224 ((sa (sa s 221 (s.1 26).toInt.toNat a1) 222 ((sa s 221 (s.1 26).toInt.toNat a1).1 26).toInt.toNat ((sa s 221 (s.1 26).toInt.toNat a1).1 7)).1 26).toInt.toNat (-1)) 225 ((sa (sa (sa s 221 (s.1 26).toInt.toNat a1) 222 ((sa s 221 (s.1 26).toInt.toNat a1).1 26).toInt.toNat ((sa s 221 (s.1 26).toInt.toNat a1).1 7)) 224 ((sa (sa s 221 (s.1 26).toInt.toNat a1) 222 ((sa s 221 (s.1 26).toInt.toNat a1).1 26).toInt.toNat ((sa s 221 (s.1 26).toInt.toNat a1).1 7)).1 26).toInt.toNat (-1)).1 26).toInt.toNat (-1)).1 26).toInt.toNat 0).1 26).toInt.toNat (-1)).1 26).toInt.toNat (-1)).1 26).toInt.toNat (-1)).1 26), .ref 230] _ _
  refine g_c [.int 0, .int ((sa (sa (sa (sa (sa (sa (sa (sa s 221 (s.1 26).toInt.toNat a1) 222 ((sa s 221 (s.1 26).toInt.toNat a1).1 26).toInt.toNat ((sa s 221 (s.1 26).toInt.toNat a1).1 7)) 224 ((sa (sa s 221 (s.1 26).toInt.toNat a1) 222 ((sa s 221 (s.1 26).toInt.toNat a1).1 26).toInt.toNat ((sa s 221 (s.1 26).toInt.toNat a1).1 7)).1 26).toInt.toNat (-1)) 225 ((sa (sa (sa s 221 (s.1 26).toInt.toNat a1) 222 ((sa s 221 (s.1 26).toInt.toNat a1).1 26).toInt.toNat ((sa s 221 (s.1 26).toInt.toNat a1).1 7)) 224 ((sa (sa s 221 (s.1 26).toInt.toNat a1) 222 ((sa s 221 (s.1 26).toInt.toNat a1).1 26).toInt.toNat ((sa s 221 (s.1 26).toInt.toNat a1).1 7)).1 26).toInt.toNat (-1)).1 26).toInt.toNat (-1)) 226 ((sa (sa (sa (sa s 221 (s.1 26).toInt.toNat a1) 222 ((sa s 221 (s.1 26).toInt.toNat a1).1 26).toInt.toNat ((sa s 221 (s.1 26).toInt.toNat a1).1 7)) 224 ((sa (sa s 221 (s.1 26).toInt.toNat a1) 222 ((sa s 221 (s.1 26).toInt.toNat a1).1 26).toInt.toNat ((sa s 221 (s.1 26).toInt.toNat a1).1 7)).1 26).toInt.toNat (-1)) 225 ((sa (sa (sa s 221 (s.1 26).toInt.toNat a1) 222 ((sa s 221 (s.1 26).toInt.toNat a1).1 26).toInt.toNat ((sa s 221 (s.1 26).toInt.toNat a1).1 7)) 224 ((sa (sa s 221 (s.1 26).toInt.toNat a1) 222 ((sa s 221 (s.1 26).toInt.toNat a1).1 26).toInt.toNat ((sa s 221 (s.1 26).toInt.toNat a1).1 7)).1 26).toInt.toNat (-1)).1 26).toInt.toNat (-1)).1 26).toInt.toNat 0) 227 ((sa (sa (sa (sa (sa s 221 (s.1 26).toInt.toNat a1) 222 ((sa s 221 (s.1 26).toInt.toNat a1).1 26).toInt.toNat ((sa s 221 (s.1 26).toInt.toNat a1).1 7)) 224 ((sa (sa s 221 (s.1 26).toInt.toNat a1) 222 ((sa s 221 (s.1 26).toInt.toNat a1).1 26).toInt.toNat ((sa s 221 (s.1 26).toInt.toNat a1).1 7)).1 26).toInt.toNat (-1)) 225 ((sa (sa (sa s 221 (s.1 26).toInt.toNat a1) 222 ((sa s 221 (s.1 26).toInt.toNat a1).1 26).toInt.toNat ((sa s 221 (s.1 26).toInt.toNat a1).1 7)) 224 ((sa (sa s 221 (s.1 26).toInt.toNat a1) 222 ((sa s 221 (s.1 26).toInt.toNat a1).1 26).toInt.toNat ((sa s 221 (s.1 26).toInt.toNat a1).1 7)).1 26).toInt.toNat (-1)).1 26).toInt.toNat (-1)) 226 ((sa (sa (sa (sa s 221 (s.1 26).toInt.toNat a1) 222 ((sa s 221 (s.1 26).toInt.toNat a1).1 26).toInt.toNat ((sa s 221 (s.1 26).toInt.toNat a1).1 7)) 224 ((sa (sa s 221 (s.1 26).toInt.toNat a1) 222 ((sa s 221 (s.1 26).toInt.toNat a1).1 26).toInt.toNat ((sa s 221 (s.1 26).toInt.toNat a1).1 7)).1 26).toInt.toNat (-1)) 225 ((sa (sa (sa s 221 (s.1 26).toInt.toNat a1) 222 ((sa s 221 (s.1 26).toInt.toNat a1).1 26).toInt.toNat ((sa s 221 (s.1 26).toInt.toNat a1).1 7)) 224 ((sa (sa s 221 (s.1 26).toInt.toNat a1) 222 ((sa s 221 (s.1 26).toInt.toNat a1).1 26).toInt.toNat ((sa s 221 (s.1 26).toInt.toNat a1).1 7)).1 26).toInt.toNat (-1)).1 26).toInt.toNat (-1)).1 26).toInt.toNat 0).1 26).toInt.toNat (-1)) 228 ((sa (sa (sa (sa (sa (sa s 221 (s.1 26).toInt.toNat a1) 222 ((sa s 221 (s.1 26).toInt.toNat a1).1 26).toInt.toNat ((sa s 221 (s.1 26).toInt.toNat a1).1 7)) 224 ((sa (sa s 221 (s.1 26).toInt.toNat a1) 222 ((sa s 221 (s.1 26).toInt.toNat a1).1 26).toInt.toNat ((sa s 221 (s.1 26).toInt.toNat a1).1 7)).1 26).toInt.toNat (-1)) 225 ((sa (sa (sa s 221 (s.1 26).toInt.toNat a1) 222 ((sa s 221 (s.1 26).toInt.toNat a1).1 26).toInt.toNat ((sa s 221 (s.1 26).toInt.toNat a1).1 7)) 224 ((sa (sa s 221 (s.1 26).toInt.toNat a1) 222 ((sa s 221 (s.1 26).toInt.toNat a1).1 26).toInt.toNat ((sa s 221 (s.1 26).toInt.toNat a1).1 7)).1 26).toInt.toNat (-1)).1 26).toInt.toNat (-1)) 226 ((sa (sa (sa (sa s 221 (s.1 26).toInt.toNat a1) 222 ((sa s 221 (s.1 26).toInt.toNat a1).1 26).toInt.toNat ((sa s 221 (s.1 26).toInt.toNat a1).1 7)) 224 ((sa (sa s 221 (s.1 26).toInt.toNat a1) 222 ((sa s 221 (s.1 26).toInt.toNat a1).1 26).toInt.toNat ((sa s 221 (s.1 26).toInt.toNat a1).1 7)).1 26).toInt.toNat (-1)) 225 ((sa (sa (sa s 221 (s.1 26).toInt.toNat a1) 222 ((sa s 221 (s.1 26).toInt.toNat a1).1 26).toInt.toNat ((sa s 221 (s.1 26).toInt.toNat a1).1 7)) 224 ((sa (sa s 221 (s.1 26).toInt.toNat a1) 222 ((sa s 221 (s.1 26).toInt.toNat a1).1 26).toInt.toNat ((sa s 221 (s.1 26).toInt.toNat a1).1 7)).1 26).toInt.toNat (-1)).1 26).toInt.toNat (-1)).1 26).toInt.toNat 0) 227 ((sa (sa (sa (sa (sa s 221 (s.1 26).toInt.toNat a1) 222 ((sa s 221 (s.1 26).toInt.toNat a1).1 26).toInt.toNat ((sa s 221 (s.1 26).toInt.toNat a1).1 7)) 224 ((sa (sa s 221 (s.1 26).toInt.toNat a1) 222 ((sa s 221 (s.1 26).toInt.toNat a1).1 26).toInt.toNat ((sa s 221 (s.1 26).toInt.toNat a1).1 7)).1 26).toInt.toNat (-1)) 225 ((sa (sa (sa s 221 (s.1 26).toInt.toNat a1) 222 ((sa s 221 (s.1 26).toInt.toNat a1).1 26).toInt.toNat ((sa s 221 (s.1 26).toInt.toNat a1).1 7)) 224 ((sa (sa s 221 (s.1 26).toInt.toNat a1) 222 ((sa s 221 (s.1 26).toInt.toNat a1).1 26).toInt.toNat ((sa s 221 (s.1 26).toInt.toNat a1).1 7)).1 26).toInt.toNat (-1)).1 26).toInt.toNat (-1)) 226 ((sa (sa (sa (sa s 221 (s.1 26).toInt.toNat a1) 222 ((sa s 221 (s.1 26).toInt.toNat a1).1 26).toInt.toNat ((sa s 221 (s.1 26).toInt.toNat a1).1 7)) 224 ((sa (sa s 221 (s.1 26).toInt.toNat a1) 222 ((sa s 221 (s.1 26).toInt.toNat a1).1 26).toInt.toNat ((sa s 221 (s.1 26).toInt.toNat a1).1 7)).1 26).toInt.toNat (-1)) 225 ((sa (sa (sa s 221 (s.1 26).toInt.toNat a1) 222 ((sa s 221 (s.1 26).toInt.toNat a1).1 26).toInt.toNat ((sa s 221 (s.1 26).toInt.toNat a1).1 7)) 224 ((sa (sa s 221 (s.1 26).toInt.toNat a1) 222 ((sa s 221 (s.1 26).toInt.toNat a1).1 26).toInt.toNat ((sa s 221 (s.1 26).toInt.toNat a1).1 7)).1 26).toInt.toNat (-1)).1 26).toInt.toNat (-1)).1 26).toInt.toNat 0).1 26).toInt.toNat (-1)).1 26).toInt.toNat (-1)) 229 ((sa (sa (sa (sa (sa (sa (sa s 221 (s.1 26).toInt.toNat a1) 222 ((sa s 221 (s.1 26).toInt.toNat a1).1 26).toInt.toNat ((sa s 221 (s.1 26).toInt.toNat a1).1 7)) 224 ((sa (sa s 221 (s.1 26).toInt.toNat a1) 222 ((sa s 221 (s.1 26).toInt.toNat a1).1 26).toInt.toNat ((sa s 221 (s.1 26).toInt.toNat a1).1 7)).1 26).toInt.toNat (-1)) 225 ((sa (sa (sa s 221 (s.1 26).toInt.toNat a1) 222 ((sa s 221 (s.1 26).toInt.toNat a1).1 26).toInt.toNat ((sa s 221 (s.1 26).toInt.toNat a1).1 7)) 224 ((sa (sa s 221 (s.1 26).toInt.toNat a1) 222 ((sa s 221 (s.1 26).toInt.toNat a1).1 26).toInt.toNat ((sa s 221 (s.1 26).toInt.toNat a1).1 7)).1 26).toInt.toNat (-1)).1 26).toInt.toNat (-1)) 226 ((sa (sa (sa (sa s 221 (s.1 26).toInt.toNat a1) 222 ((sa s 221 (s.1 26).toInt.toNat a1).1 26).toInt.toNat ((sa s 221 (s.1 26).toInt.toNat a1).1 7)) 224 ((sa (sa s 221 (s.1 26).toInt.toNat a1) 222 ((sa s 221 (s.1 26).toInt.toNat a1).1 26).toInt.toNat ((sa s 221 (s.1 26).toInt.toNat a1).1 7)).1 26).toInt.toNat (-1)) 225 ((sa (sa (sa s 221 (s.1 26).toInt.toNat a1) 222 ((sa s 221 (s.1 26).toInt.toNat a1).1 26).toInt.toNat ((sa s 221 (s.1 26).toInt.toNat a1).1 7)) 224 ((sa (sa s 221 (s.1 26).toInt.toNat a1) 222 ((sa s 221 (s.1 26).toInt.toNat a1).1 26).toInt.toNat ((sa s 221 (s.1 26).toInt.toNat a1).1 7)).1 26).toInt.toNat (-1)).1 26).toInt.toNat (-1)).1 26).toInt.toNat 0) 227 ((sa (sa (sa (sa (sa s 221 (s.1 26).toInt.toNat a1) 222 ((sa s 221 (s.1 26).toInt.toNat a1).1 26).toInt.toNat ((sa s 221 (s.1 26).toInt.toNat a1).1 7)) 224 ((sa (sa s 221 (s.1 26).toInt.toNat a1) 222 ((sa s 221 (s.1 26).toInt.toNat a1).1 26).toInt.toNat ((sa s 221 (s.1 26).toInt.toNat a1).1 7)).1 26).toInt.toNat (-1)) 225 ((sa (sa (sa s 221 (s.1 26).toInt.toNat a1) 222 ((sa s 221 (s.1 26).toInt.toNat a1).1 26).toInt.toNat ((sa s 221 (s.1 26).toInt.toNat a1).1 7)) 224 ((sa (sa s 221 (s.1 26).toInt.toNat a1) 222 ((sa s 221 (s.1 26).toInt.toNat a1).1 26).toInt.toNat ((sa s 221 (s.1 26).toInt.toNat a1).1 7)).1 26).toInt.toNat (-1)).1 26).toInt.toNat (-1)) 226 ((sa (sa (sa (sa s 221 (s.1 26).toInt.toNat a1) 222 ((sa s 221 (s.1 26).toInt.toNat a1).1 26).toInt.toNat ((sa s 221 (s.1 26).toInt.toNat a1).1 7)) 224 ((sa (sa s 221 (s.1 26).toInt.toNat a1) 222 ((sa s 221 (s.1 26).toInt.toNat a1).1 26).toInt.toNat ((sa s 221 (s.1 26).toInt.toNat a1).1 7)).1 26).toInt.toNat (-1)) 225 ((sa (sa (sa s 221 (s.1 26).toInt.toNat a1) 222 ((sa s 221 (s.1 26).toInt.toNat a1).1 26).toInt.toNat ((sa s 221 (s.1 26).toInt.toNat a1).1 7)) 224 ((sa (sa s 221 (s.1 26).toInt.toNat a1) 222 ((sa s 221 (s.1 26).toInt.toNat a1).1 26).toInt.toNat ((sa s 221 (s.1 26).toInt.toNat a1).1 7)).1 26).toInt.toNat (-1)).1 26).toInt.toNat (-1)).1 26).toInt.toNat 0).1 26).toInt.toNat (-1)) 228 ((sa (sa (sa (sa (sa (sa s 221 (s.1 26).toInt.toNat a1) 222 ((sa s 221 (s.1 26).toInt.toNat a1).1 26).toInt.toNat ((sa s 221 (s.1 26).toInt.toNat a1).1 7)) 224 ((sa (sa s 221 (s.1 26).toInt.toNat a1) 222 ((sa s 221 (s.1 26).toInt.toNat a1).1 26).toInt.toNat ((sa s 221 (s.1 26).toInt.toNat a1).1 7)).1 26).toInt.toNat (-1)) 225 ((sa (sa (sa s 221 (s.1 26).toInt.toNat a1) 222 ((sa s 221 (s.1 26).toInt.toNat a1).1 26).toInt.toNat ((sa s 221 (s.1 26).toInt.toNat a1).1 7)) 224 ((sa (sa s 221 (s.1 26).toInt.toNat a1) 222 ((sa s 221 (s.1 26).toInt.toNat a1).1 26).toInt.toNat ((sa s 221 (s.1 26).toInt.toNat a1).1 7)).1 26).toInt.toNat (-1)).1 26).toInt.toNat (-1)) 226 ((sa (sa (sa (sa s 221 (s.1 26).toInt.toNat a1) 222 ((sa s 221 (s.1 26).toInt.toNat a1).1 26).toInt.toNat ((sa s 221 (s.1 26).toInt.toNat a1).1 7)) 224 ((sa (sa s 221 (s.1 26).toInt.toNat a1) 222 ((sa s 221 (s.1 26).toInt.toNat a1).1 26).toInt.toNat ((sa s 221 (s.1 26).toInt.toNat a1).1 7)).1 26).toInt.toNat (-1)) 225 ((sa (sa (sa s 221 (s.1 26).toInt.toNat a1) 222 ((sa s 221 (s.1 26).toInt.toNat a1).1 26).toInt.toNat ((sa s 221 (s.1 26).toInt.toNat a1).1 7)) 224 ((sa (sa s 221 (s.1 26).toInt.toNat a1) 222 ((sa s 221 (s.1 26).toInt.toNat a1).1 26).toInt.toNat ((sa s 221 (s.1 26).toInt.toNat a1).1 7)).1 26).toInt.toNat (-1)).1 26).toInt.toNat (-1)).1 26).toInt.toNat 0) 227 ((sa (sa (sa (sa (sa s 221 (s.1 26).toInt.toNat a1) 222 ((sa s 221 (s.1 26).toInt.toNat a1).1 26).toInt.toNat ((sa s 221 (s.1 26).toInt.toNat a1).1 7)) 224 ((sa (sa s 221 (s.1 26).toInt.toNat a1) 222 ((sa s 221 (s.1 26).toInt.toNat a1).1 26).toInt.toNat ((sa s 221 (s.1 26).toInt.toNat a1).1 7)).1 26).toInt.toNat (-1)) 225 ((sa (sa (sa s 221 (s.1 26).toInt.toNat a1) 222 ((sa s 221 (s.1 26).toInt.toNat a1).1 26).toInt.toNat ((sa s 221 (s.1 26).toInt.toNat a1).1 7)) 224 ((sa (sa s 221 (s.1 26).toInt.toNat a1) 222 ((sa s 221 (s.1 26).toInt.toNat a1).1 26).toInt.toNat ((sa s 221 (s.1 26).toInt.toNat a1).1 7)).1 26).toInt.toNat (-1)).1 26).toInt.toNat (-1)) 226 ((sa (sa (sa (sa s 221 (s.1 26).toInt.toNat a1) 222 ((sa s 221 (s.1 26).toInt.toNat a1).1 26).toInt.toNat ((sa s 221 (s.1 26).toInt.toNat a1).1 7)) 224 ((sa (sa s 221 (s.1 26).toInt.toNat a1) 222 ((sa s 221 (s.1 26).toInt.toNat a1).1 26).toInt.toNat ((sa s 221 (s.1 26).toInt.toNat a1).1 7)).1 26).toInt.toNat (-1)) 225 ((sa (sa (sa s 221 (s.1 26).toInt.toNat a1) 222 ((sa s 221 (s.1 26).toInt.toNat a1).1 26).toInt.toNat ((sa s 221 (s.1 26).toInt.toNat a1).1 7)) 224 ((sa (sa s 221 (s.1 26).toInt.toNat a1) 222 ((sa s 221 (s.1 26).toInt.toNat a1).1 26).toInt.toNat ((sa s 221 (s.1 26).toInt.toNat a1).1 7)).1 26).toInt.toNat (-1)).1 26).toInt.toNat (-1)).1 26).toInt.toNat 0).1 26).toInt.toNat (-1)).1 26).toInt.toNat (-1)).1 26).toInt.toNat (-1)).1 26), .ref 230] (xo_push (.int 0)) rfl rfl ?_
  refine g_ias rfl rfl (i_in (x := (sa (sa (sa (sa (sa (sa (sa (sa s 221 (s.1 26).toInt.toNat a1) 222 ((sa s 221 (s.1 26).toInt.toNat a1).1 26).toInt.toNat ((sa s 221 (s.1 26).toInt.toNat a1).1 7)) 224 ((sa (sa s 221 (s.1 26).toInt.toNat a1) 222 ((sa s 221 (s.1 26).toInt.toNat a1).1 26).toInt.toNat ((sa s 221 (s.1 26).toInt.toNat a1).1 7)).1 26).toInt.toNat (-1)) 225 ((sa (sa (sa s 221 (s.1 26).toInt.toNat a1) 222 ((sa s 221 (s.1 26).toInt.toNat a1).1 26).toInt.toNat ((sa s 221 (s.1 26).toInt.toNat a1).1 7)) 224 ((sa (sa s 221 (s.1 26).toInt.toNat a1) 222 ((sa s 221 (s.1 26).toInt.toNat a1).1 26).toInt.toNat ((sa s 221 (s.1 26).toInt.toNat a1).1 7)).1 26).toInt.toNat (-1)).1 26).toInt.toNat (-1)) 226 ((sa (sa (sa (sa s 221 (s.1 26).toInt.toNat a1) 222 ((sa s 221 (s.1 26).toInt.toNat a1).1 26).toInt.toNat ((sa s 221 (s.1 26).toInt.toNat a1).1 7)) 224 ((sa (sa s 221 (s.1 26).toInt.toNat a1) 222 ((sa s 221 (s.1 26).toInt.toNat a1).1 26).toInt.toNat ((sa s 221 (s.1 26).toInt.toNat a1).1 7)).1 26).toInt.toNat (-1)) 225 ((sa (sa (sa s 221 (s.1 26).toInt.toNat a1) 222 ((sa s 221 (s.1 26).toInt.toNat a1).1 26).toInt.toNat ((sa s 221 (s.1 26).toInt.toNat a1).1 7)) 224 ((sa (sa s 221 (s.1 26).toInt.toNat a1) 222 ((sa s 221 (s.1 26).toInt.toNat a1).1 26).toInt.toNat ((sa s 221 (s.1 26).toInt.toNat a1).1 7)).1 26).toInt.toNat (-1)).1 26).toInt.toNat (-1)).1 26).toInt.toNat 0) 227 ((sa (sa (sa (sa (sa s 221 (s.1 26).toInt.toNat a1) 222 ((sa s 221 (s.1 26).toInt.toNat a1).1 26).toInt.toNat ((sa s 221 (s.1 26).toInt.toNat a1).1 7)) 224 ((sa (sa s 221 (s.1 26).toInt.toNat a1) 222 ((sa s 221 (s.1 26).toInt.toNat a1).1 26).toInt.toNat ((sa s 221 (s.1 26).toInt.toNat a1).1 7)).1 26).toInt.toNat (-1)) 225 ((sa (sa (sa s 221 (s.1 26).toInt.toNat a1) 222 ((sa s 221 (s.1 26).toInt.toNat a1).1 26).toInt.toNat ((sa s 221 (s.1 26).toInt.toNat a1).1 7)) 224 ((sa (sa s 221 (s.1 26).toInt.toNat a1) 222 ((sa s 221 (s.1 26).toInt.toNat a1).1 26).toInt.toNat ((sa s 221 (s.1 26).toInt.toNat a1).1 7)).1 26).toInt.toNat (-1)).1 26).toInt.toNat (-1)) 226 ((sa (sa (sa (sa s 221 (s.1 26).toInt.toNat a1) 222 ((sa s 221 (s.1 26).toInt.toNat a1).1 26).toInt.toNat ((sa s 221 (s.1 26).toInt.toNat a1).1 7)) 224 ((sa (sa s 221 (s.1 26).toInt.toNat a1) 222 ((sa s 221 (s.1 26).toInt.toNat a1).1 26).toInt.toNat ((sa s 221 (s.1 26).toInt.toNat a1).1 7)).1 26).toInt.toNat (-1)) 225 ((sa (sa (sa s 221 (s.1 26).toInt.toNat a1) 222 ((sa s 221 (s.1 26).toInt.toNat a1).1 26).toInt.toNat ((sa s 221 (s.1 26).toInt.toNat a1).1 7)) 224 ((sa (sa s 221 (s.1 26).toInt.toNat a1) 222 ((sa s 221 (s.1 26).toInt.toNat a1).1 26).toInt.toNat ((sa s 221 (s.1 26).toInt.toNat a1).1 7)).1 26).toInt.toNat (-1)).1 26).toInt.toNat (-1)).1 26).toInt.toNat 0).1 26).toInt.toNat (-1)) 228 ((sa (sa (sa (sa (sa (sa s 221 (s.1 26).toInt.toNat a1) 222 ((sa s 221 (s.1 26).toInt.toNat a1).1 26).toInt.toNat ((sa s 221 (s.1 26).toInt.toNat a1).1 7)) 224 ((sa (sa s 221 (s.1 26).toInt.toNat a1) 222 ((sa s 221 (s.1 26).toInt.toNat a1).1 26).toInt.toNat ((sa s 221 (s.1 26).toInt.toNat a1).1 7)).1 26).toInt.toNat (-1)) 225 ((sa (sa (sa s 221 (s.1 26).toInt.toNat a1) 222 ((sa s 221 (s.1 26).toInt.toNat a1).1 26).toInt.toNat ((sa s 221 (s.1 26).toInt.toNat a1).1 7)) 224 ((sa (sa s 221 (s.1 26).toInt.toNat a1) 222 ((sa s 221 (s.1 26).toInt.toNat a1).1 26).toInt.toNat ((sa s 221 (s.1 26).toInt.toNat a1).1 7)).1 26).toInt.toNat (-1)).1 26).toInt.toNat (-1)) 226 ((sa (sa (sa (sa s 221 (s.1 26).toInt.toNat a1) 222 ((sa s 221 (s.1 26).toInt.toNat a1).1 26).toInt.toNat ((sa s 221 (s.1 26).toInt.toNat a1).1 7)) 224 ((sa (sa s 221 (s.1 26).toInt.toNat a1) 222 ((sa s 221 (s.1 26).toInt.toNat a1).1 26).toInt.toNat ((sa s 221 (s.1 26).toInt.toNat a1).1 7)).1 26).toInt.toNat (-1)) 225 ((sa (sa (sa s 221 (s.1 26).toInt.toNat a1) 222 ((sa s 221 (s.1 26).toInt.toNat a1).1 26).toInt.toNat ((sa s 221 (s.1 26).toInt.toNat a1).1 7)) 224 ((sa (sa s 221 (s.1 26).toInt.toNat a1) 222 ((sa s 221 (s.1 26).toInt.toNat a1).1 26).toInt.toNat ((sa s 221 (s.1 26).toInt.toNat a1).1 7)).1 26).toInt.toNat (-1)).1 26).toInt.toNat (-1)).1 26).toInt.toNat 0) 227 ((sa (sa (sa (sa (sa s 221 (s.1 26).toInt.toNat a1) 222 ((sa s 221 (s.1 26).toInt.toNat a1).1 26).toInt.toNat ((sa s 221 (s.1 26).toInt.toNat a1).1 7)) 224 ((sa (sa s 221 (s.1 26).toInt.toNat a1) 222 ((sa s 221 (s.1 26).toInt.toNat a1).1 26).toInt.toNat ((sa s 221 (s.1 26).toInt.toNat a1).1 7)).1 26).toInt.toNat (-1)) 225 ((sa (sa (sa s 221 (s.1 26).toInt.toNat a1) 222 ((sa s 221 (s.1 26).toInt.toNat a1).1 26).toInt.toNat ((sa s 221 (s.1 26).toInt.toNat a1).1 7)) 224 ((sa (sa s 221 (s.1 26).toInt.toNat a1) 222 ((sa s 221 (s.1 26).toInt.toNat a1).1 26).toInt.toNat ((sa s 221 (s.1 26).toInt.toNat a1).1 7)).1 26).toInt.toNat (-1)).1 26).toInt.toNat (-1)) 226 ((sa (sa (sa (sa s 221 (s.1 26).toInt.toNat a1) 222 ((sa s 221 (s.1 26).toInt.toNat a1).1 26).toInt.toNat ((sa s 221 (s.1 26).toInt.toNat a1).1 7)) 224 ((sa (sa s 221 (s.1 26).toInt.toNat a1) 222 ((sa s 221 (s.1 26).toInt.toNat a1).1 26).toInt.toNat ((sa s 221 (s.1 26).toInt.toNat a1).1 7)).1 26).toInt.toNat (-1)) 225 ((sa (sa (sa s 221 (s.1 26).toInt.toNat a1) 222 ((sa s 221 (s.1 26).toInt.toNat a1).1 26).toInt.toNat ((sa s 221 (s.1 26).toInt.toNat a1).1 7)) 224 ((sa (sa s 221 (s.1 26).toInt.toNat a1) 222 ((sa s 221 (s.1 26).toInt.toNat a1).1 26).toInt.toNat ((sa s 221 (s.1 26).toInt.toNat a1).1 7)).1 26).toInt.toNat (-1)).1 26).toInt.toNat (-1)).1 26).toInt.toNat 0).1 26).toInt.toNat (-1)).1 26).toInt.toNat (-1)) 229 ((sa (sa (sa (sa (sa (sa (sa s 221 (s.1 26).toInt.toNat a1) 222 ((sa s 221 (s.1 26).toInt.toNat a1).1 26).toInt.toNat ((sa s 221 (s.1 26).toInt.toNat a1).1 7)) 224 ((sa (sa s 221 (s.1 26).toInt.toNat a1) 222 ((sa s 221 (s.1 26).toInt.toNat a1).1 26).toInt.toNat ((sa s 221 (s.1 26).toInt.toNat a1).1 7)).1 26).toInt.toNat (-1)) 225 ((sa (sa (sa s 221 (s.1 26).toInt.toNat a1) 222 ((sa s 221 (s.1 26).toInt.toNat a1).1 26).toInt.toNat ((sa s 221 (s.1 26).toInt.toNat a1).1 7)) 224 ((sa (sa s 221 (s.1 26).toInt.toNat a1) 222 ((sa s 221 (s.1 26).toInt.toNat a1).1 26).toInt.toNat ((sa s 221 (s.1 26).toInt.toNat a1).1 7)).1 26).toInt.toNat (-1)).1 26).toInt.toNat (-1)) 226 ((sa (sa (sa (sa s 221 (s.1 26).toInt.toNat a1) 222 ((sa s 221 (s.1 26).toInt.toNat a1).1 26).toInt.toNat ((sa s 221 (s.1 26).toInt.toNat a1).1 7)) 224 ((sa (sa s 221 (s.1 26).toInt.toNat a1) 222 ((sa s 221 (s.1 26).toInt.toNat a1).1 26).toInt.toNat ((sa s 221 (s.1 26).toInt.toNat a1).1 7)).1 26).toInt.toNat (-1)) 225 ((sa (sa (sa s 221 (s.1 26).toInt.toNat a1) 222 ((sa s 221 (s.1 26).toInt.toNat a1).1 26).toInt.toNat ((sa s 221 (s.1 26).toInt.toNat a1).1 7)) 224 ((sa (sa s 221 (s.1 26).toInt.toNat a1) 222 ((sa s 221 (s.1 26).toInt.toNat a1).1 26).toInt.toNat ((sa s 221 (s.1 26).toInt.toNat a1).1 7)).1 26).toInt.toNat (-1)).1 26).toInt.toNat (-1)).1 26).toInt.toNat 0) 227 ((sa (sa (sa (sa (sa s 221 (s.1 26).toInt.toNat a1) 222 ((sa s 221 (s.1 26).toInt.toNat a1).1 26).toInt.toNat ((sa s 221 (s.1 26).toInt.toNat a1).1 7)) 224 ((sa (sa s 221 (s.1 26).toInt.toNat a1) 222 ((sa s 221 (s.1 26).toInt.toNat a1).1 26).toInt.toNat ((sa s 221 (s.1 26).toInt.toNat a1).1 7)).1 26).toInt.toNat (-1)) 225 ((sa (sa (sa s 221 (s.1 26).toInt.toNat a1) 222 ((sa s 221 (s.1 26).toInt.toNat a1).1 26).toInt.toNat ((sa s 221 (s.1 26).toInt.toNat a1).1 7)) 224 ((sa (sa s 221 (s.1 26).toInt.toNat a1) 222 ((sa s 221 (s.1 26).toInt.toNat a1).1 26).toInt.toNat ((sa s 221 (s.1 26).toInt.toNat a1).1 7)).1 26).toInt.toNat (-1)).1 26).toInt.toNat (-1)) 226 ((sa (sa (sa (sa s 221 (s.1 26).toInt.toNat a1) 222 ((sa s 221 (s.1 26).toInt.toNat a1).1 26).toInt.toNat ((sa s 221 (s.1 26).toInt.toNat a1).1 7)) 224 ((sa (sa s 221 (s.1 26).toInt.toNat a1) 222 ((sa s 221 (s.1 26).toInt.toNat a1).1 26).toInt.toNat ((sa s 221 (s.1 26).toInt.toNat a1).1 7)).1 26).toInt.toNat (-1)) 225 ((sa (sa (sa s 221 (s.1 26).toInt.toNat a1) 222 ((sa s 221 (s.1 26).toInt.toNat a1).1 26).toInt.toNat ((sa s 221 (s.1 26).toInt.toNat a1).1 7)) 224 ((sa (sa s 221 (s.1 26).toInt.toNat a1) 222 ((sa s 221 (s.1 26).toInt.toNat a1).1 26).toInt.toNat ((sa s 221 (s.1 26).toInt.toNat a1).1 7)).1 26).toInt.toNat (-1)).1 26).toInt.toNat (-1)).1 26).toInt.toNat 0).1 26).toInt.toNat (-1)) 228 ((sa (sa (sa (sa (sa (sa s 221 (s.1 26).toInt.toNat a1) 222 ((sa s 221 (s.1 26).toInt.toNat a1).1 26).toInt.toNat ((sa s 221 (s.1 26).toInt.toNat a1).1 7)) 224 ((sa (sa s 221 (s.1 26).toInt.toNat a1) 222 ((sa s 221 (s.1 26).toInt.toNat a1).1 26).toInt.toNat ((sa s 221 (s.1 26).toInt.toNat a1).1 7)).1 26).toInt.toNat (-1)) 225 ((sa (sa (sa s 221 (s.1 26).toInt.toNat a1) 222 ((sa s 221 (s.1 26).toInt.toNat a1).1 26).toInt.toNat ((sa s 221 (s.1 26).toInt.toNat a1).1 7)) 224 ((sa (sa s 221 (s.1 26).toInt.toNat a1) 222 ((sa s 221 (s.1 26).toInt.toNat a1).1 26).toInt.toNat ((sa s 221 (s.1 26).toInt.toNat a1).1 7)).1 26).toInt.toNat (-1)).1 26).toInt.toNat (-1)) 226 ((sa (sa (sa (sa s 221 (s.1 26).toInt.toNat a1) 222 ((sa s 221 (s.1 26).toInt.toNat a1).1 26).toInt.toNat ((sa s 221 (s.1 26).toInt.toNat a1).1 7)) 224 ((sa (sa s 221 (s.1 26).toInt.toNat a1) 222 ((sa s 221 (s.1 26).toInt.toNat a1).1 26).toInt.toNat ((sa s 221 (s.1 26).toInt.toNat a1).1 7)).1 26).toInt.toNat (-1)) 225 ((sa (sa (sa s 221 (s.1 26).toInt.toNat a1) 222 ((sa s 221 (s.1 26).toInt.toNat a1).1 26).toInt.toNat ((sa s 221 (s.1 26).toInt.toNat a1).1 7)) 224 ((sa (sa s 221 (s.1 26).toInt.toNat a1) 222 ((sa s 221 (s.1 26).toInt.toNat a1).1 26).toInt.toNat ((sa s 221 (s.1 26).toInt.toNat a1).1 7)).1 26).toInt.toNat (-1)).1 26).toInt.toNat (-1)).1 26).toInt.toNat 0) 227 ((sa (sa (sa (sa (sa s 221 (s.1 26).toInt.toNat a1) 222 ((sa s 221 (s.1 26).toInt.toNat a1).1 26).toInt.toNat ((sa s 221 (s.1 26).toInt.toNat a1).1 7)) 224 ((sa (sa s 221 (s.1 26).toInt.toNat a1) 222 ((sa s 221 (s.1 26).toInt.toNat a1).1 26).toInt.toNat ((sa s 221 (s.1 26).toInt.toNat a1).1 7)).1 26).toInt.toNat (-1)) 225 ((sa (sa (sa s 221 (s.1 26).toInt.toNat a1) 222 ((sa s 221 (s.1 26).toInt.toNat a1).1 26).toInt.toNat ((sa s 221 (s.1 26).toInt.toNat a1).1 7)) 224 ((sa (sa s 221 (s.1 26).toInt.toNat a1) 222 ((sa s 221 (s.1 26).toInt.toNat a1).1 26).toInt.toNat ((sa s 221 (s.1 26).toInt.toNat a1).1 7)).1 26).toInt.toNat (-1)).1 26).toInt.toNat (-1)) 226 ((sa (sa (sa (sa s 221 (s.1 26).toInt.toNat a1) 222 ((sa s 221 (s.1 26).toInt.toNat a1).1 26).toInt.toNat ((sa s 221 (s.1 26).toInt.toNat a1).1 7)) 224 ((sa (sa s 221 (s.1 26).toInt.toNat a1) 222 ((sa s 221 (s.1 26).toInt.toNat a1).1 26).toInt.toNat ((sa s 221 (s.1 26).toInt.toNat a1).1 7)).1 26).toInt.toNat (-1)) 225 ((sa (sa (sa s 221 (s.1 26).toInt.toNat a1) 222 ((sa s 221 (s.1 26).toInt.toNat a1).1 26).toInt.toNat ((sa s 221 (s.1 26).toInt.toNat a1).1 7)) 224 ((sa (sa s 221 (s.1 26).toInt.toNat a1) 222 ((sa s 221 (s.1 26).toInt.toNat a1).1 26).toInt.toNat ((sa s 221 (s.1 26).toInt.toNat a1).1 7)).1 26).toInt.toNat (-1)).1 26).toInt.toNat (-1)).1 26).toInt.toNat 0).1 26).toInt.toNat (-1)).1 26).toInt.toNat (-1)).1 26).toInt.toNat (-1)).1 26) rfl h.1) ?_
  replace h := h.2
  replace h := h _ rfl
  refine g_ld rfl rfl rfl ?_
  refine g_c [.ref 213, .ref 213] xo_dup rfl rfl ?_
  refine g_get rfl rfl ?_
  change Go _ _ _ _ _ _ [.int ((sa (sa (sa (sa (sa (sa (sa (sa (sa s 221 (s.1 26).toInt.toNat a1) 222 ((sa s 221 (s.1 26).toInt.toNat a1).1 26).toInt.toNat ((sa s 221 (s.1 26).toInt.toNat a1).1 7)) 224 ((sa (sa s 221 (s.1 26).toInt.toNat a1) 222 ((sa s 221 (s.1 26).toInt.toNat a1).1 26).toInt.toNat ((sa s 221 (s.1 26).toInt.toNat a1).1 7)).1 26).toInt.toNat (-1)) 225 ((sa (sa (sa s 221 (s.1 26).toInt.toNat a1) 222 ((sa s 221 (s.1 26).toInt.toNat a1).1 26).toInt.toNat ((sa s 221 (s.1 26).toInt.toNat a1).1 7)) 224 ((sa (sa s 221 (s.1 26).toInt.toNat a1) 222 ((sa s 221 (s.1 26).toInt.toNat a1).1 26).toInt.toNat ((sa s 221 (s.1 26).toInt.toNat a1).1 7)).1 26).toInt.toNat (-1)).1 26).toInt.toNat (-1)) 226 ((sa (sa (sa (sa s 221 (s.1 26).toInt.toNat a1) 222 ((sa s 221 (s.1 26).toInt.toNat a1).1 26).toInt.toNat ((sa s 221 (s.1 26).toInt.toNat a1).1 7)) 224 ((sa (sa s 221 (s.1 26).toInt.toNat a1) 222 ((sa s 221 (s.1 26).toInt.toNat a1).1 26).toInt.toNat ((sa s 221 (s.1 26).toInt.toNat a1).1 7)).1 26).toInt.toNat (-1)) 225 ((sa (sa (sa s 221 (s.1 26).toInt.toNat a1) 222 ((sa s 221 (s.1 26).toInt.toNat a1).1 26).toInt.toNat ((sa s 221 (s.1 26).toInt.toNat a1).1 7)) 224 ((sa (sa s 221 (s.1 26).toInt.toNat a1) 222 ((sa s 221 (s.1 26).toInt.toNat a1).1 26).toInt.toNat ((sa s 221 (s.1 26).toInt.toNat a1).1 7)).1 26).toInt.toNat (-1)).1 26).toInt.toNat (-1)).1 26).toInt.toNat 0) 227 ((sa (sa (sa (sa (sa s 221 (s.1 26).toInt.toNat a1) 222 ((sa s 221 (s.1 26).toInt.toNat a1).1 26).toInt.toNat ((sa s 221 (s.1 26).toInt.toNat a1).1 7)) 224 ((sa (sa s 221 (s.1 26).toInt.toNat a1) 222 ((sa s 221 (s.1 26).toInt.toNat a1).1 26).toInt.toNat ((sa s 221 (s.1 26).toInt.toNat a1).1 7)).1 26).toInt.toNat (-1)) 225 ((sa (sa (sa s 221 (s.1 26).toInt.toNat a1) 222 ((sa s 221 (s.1 26).toInt.toNat a1).1 26).toInt.toNat ((sa s 221 (s.1 26).toInt.toNat a1).1 7)) 224 ((sa (sa s 221 (s.1 26).toInt.toNat a1) 222 ((sa s 221 (s.1 26).toInt.toNat a1).1 26).toInt.toNat ((sa s 221 (s.1 26).toInt.toNat a1).1 7)).1 26).toInt.toNat (-1)).1 26).toInt.toNat (-1)) 226 ((sa (sa (sa (sa s 221 (s.1 26).toInt.toNat a1) 222 ((sa s 221 (s.1 26).toInt.toNat a1).1 26).toInt.toNat ((sa s 221 (s.1 26).toInt.toNat a1).1 7)) 224 ((sa (sa s 221 (s.1 26).toInt.toNat a1) 222 ((sa s 221 (s.1 26).toInt.toNat a1).1 26).toInt.toNat ((sa s 221 (s.1 26).toInt.toNat a1).1 7)).1 26).toInt.toNat (-1)) 225 ((sa (sa (sa s 221 (s.1 26).toInt.toNat a1) 222 ((sa s 221 (s.1 26).toInt.toNat a1).1 26).toInt.toNat ((sa s 221 (s.1 26).toInt.toNat a1).1 7)) 224 ((sa (sa s 221 (s.1 26).toInt.toNat a1) 222 ((sa s 221 (s.1 26).toInt.toNat a1).1 26).toInt.toNat ((sa s 221 (s.1 26).toInt.toNat a1).1 7)).1 26).toInt.toNat (-1)).1 26).toInt.toNat (-1)).1 26).toInt.toNat 0).1 26).toInt.toNat (-1)) 228 ((sa (sa (sa (sa (sa (sa s 221 (s.1 26).toInt.toNat a1) 222 ((sa s 221 (s.1 26).toInt.toNat a1).1 26).toInt.toNat ((sa s 221 (s.1 26).toInt.toNat a1).1 7)) 224 ((sa (sa s 221 (s.1 26).toInt.toNat a1) 222 ((sa s 221 (s.1 26).toInt.toNat a1).1 26).toInt.toNat ((sa s 221 (s.1 26).toInt.toNat a1).1 7)).1 26).toInt.toNat (-1)) 225 ((sa (sa (sa s 221 (s.1 26).toInt.toNat a1) 222 ((sa s 221 (s.1 26).toInt.toNat a1).1 26).toInt.toNat ((sa s 221 (s.1 26).toInt.toNat a1).1 7)) 224 ((sa (sa s 221 (s.1 26).toInt.toNat a1) 222 ((sa s 221 (s.1 26).toInt.toNat a1).1 26).toInt.toNat ((sa s 221 (s.1 26).toInt.toNat a1).1 7)).1 26).toInt.toNat (-1)).1 26).toInt.toNat (-1)) 226 ((sa (sa (sa (sa s 221 (s.1 26).toInt.toNat a1) 222 ((sa s 221 (s.1 26).toInt.toNat a1).1 26).toInt.toNat ((sa s 221 (s.1 26).toInt.toNat a1).1 7)) 224 ((sa (sa s 221 (s.1 26).toInt.toNat a1) 222 ((sa s 221 (s.1 26).toInt.toNat a1).1 26).toInt.toNat ((sa s 221 (s.1 26).toInt.toNat a1).1 7)).1 26).toInt.toNat (-1)) 225 ((sa (sa (sa s 221 (s.1 26).toInt.toNat a1) 222 ((sa s 221 (s.1 26).toInt.toNat a1).1 26).toInt.toNat ((sa s 221 (s.1 26).toInt.toNat a1).1 7)) 224 ((sa (sa s 221 (s.1 26).toInt.toNat a1) 222 ((sa s 221 (s.1 26).toInt.toNat a1).1 26).toInt.toNat ((sa s 221 (s.1 26).toInt.toNat a1).1 7)).1 26).toInt.toNat (-1)).1 26).toInt.toNat (-1)).1 26).toInt.toNat 0) 227 ((sa (sa (sa (sa (sa s 221 (s.1 26).toInt.toNat a1) 222 ((sa s 221 (s.1 26).toInt.toNat a1).1 26).toInt.toNat ((sa s 221 (s.1 26).toInt.toNat a1).1 7)) 224 ((sa (sa s 221 (s.1 26).toInt.toNat a1) 222 ((sa s 221 (s.1 26).toInt.toNat a1).1 26).toInt.toNat ((sa s 221 (s.1 26).toInt.toNat a1).1 7)).1 26).toInt.toNat (-1)) 225 ((sa (sa (sa s 221 (s.1 26).toInt.toNat a1) 222 ((sa s 221 (s.1 26).toInt.toNat a1).1 26).toInt.toNat ((sa s 221 (s.1 26).toInt.toNat a1).1 7)) 224 ((sa (sa s 221 (s.1 26).toInt.toNat a1) 222 ((sa s 221 (s.1 26).toInt.toNat a1).1 26).toInt.toNat ((sa s 221 (s.1 26).toInt.toNat a1).1 7)).1 26).toInt.toNat (-1)).1 26).toInt.toNat (-1)) 226 ((sa (sa (sa (sa s 221 (s.1 26).toInt.toNat a1) 222 ((sa s 221 (s.1 26).toInt.toNat a1).1 26).toInt.toNat ((sa s 221 (s.1 26).toInt.toNat a1).1 7)) 224 ((sa (sa s 221 (s.1 26).toInt.toNat a1) 222 ((sa s 221 (s.1 26).toInt.toNat a1).1 26).toInt.toNat ((sa s 221 (s.1 26).toInt.toNat a1).1 7)).1 26).toInt.toNat (-1)) 225 ((sa (sa (sa s 221 (s.1 26).toInt.toNat a1) 222 ((sa s 221 (s.1 26).toInt.toNat a1).1 26).toInt.toNat ((sa s 221 (s.1 26).toInt.toNat a1).1 7)) 224 ((sa (sa s 221 (s.1 26).toInt.toNat a1) 222 ((sa s 221 (s.1 26).toInt.toNat a1).1 26).toInt.toNat ((sa s 221 (s.1 26).toInt.toNat a1).1 7)).1 26).toInt.toNat (-1)).1 26).toInt.toNat (-1)).1 26).toInt.toNat 0).1 26).toInt.toNat (-1)).1 26).toInt.toNat (-1)) 229 ((sa (sa (sa (sa (sa (sa (sa s 221 (s.1 26).toInt.toNat a1) 222 ((sa s 221 (s.1 26).toInt.toNat a1).1 26).toInt.toNat ((sa s 221 (s.1 26).toInt.toNat a1).1 7)) 224 ((sa (sa s 221 (s.1 26).toInt.toNat a1) 222 ((sa s 221 (s.1 26).toInt.toNat a1).1 26).toInt.toNat ((sa s 221 (s.1 26).toInt.toNat a1).1 7)).1 26).toInt.toNat (-1)) 225 ((sa (sa (sa s 221 (s.1 26).toInt.toNat a1) 222 ((sa s 221 (s.1 26).toInt.toNat a1).1 26).toInt.toNat ((sa s 221 (s.1 26).toInt.toNat a1).1 7)) 224 ((sa (sa s 221 (s.1 26).toInt.toNat a1) 222 ((sa s 221 (s.1 26).toInt.toNat a1).1 26).toInt.toNat ((sa s 221 (s.1 26).toInt.toNat a1).1 7)).1 26).toInt.toNat (-1)).1 26).toInt.toNat (-1)) 226 ((sa (sa (sa (sa s 221 (s.1 26).toInt.toNat a1) 222 ((sa s 221 (s.1 26).toInt.toNat a1).1 26).toInt.toNat ((sa s 221 (s.1 26).toInt.toNat a1).1 7)) 224 ((sa (sa s 221 (s.1 26).toInt.toNat a1) 222 ((sa s 221 (s.1 26).toInt.toNat a1).1 26).toInt.toNat ((sa s 221 (s.1 26).toInt.toNat a1).1 7)).1 26).toInt.toNat (-1)) 225 ((sa (sa (sa s 221 (s.1 26).toInt.toNat a1) 222 ((sa s 221 (s.1 26).toInt.toNat a1).1 26).toInt.toNat ((sa s 221 (s.1 26).toInt.toNat a1).1 7)) 224 ((sa (sa s 221 (s.1 26).toInt.toNat a1) 222 ((sa s 221 (s.1 26).toInt.toNat a1).1 26).toInt.toNat ((sa s 221 (s.1 26).toInt.toNat a1).1 7)).1 26).toInt.toNat (-1)).1 26).toInt.toNat (-1)).1 26).toInt.toNat 0) 227 ((sa (sa (sa (sa (sa s 221 (s.1 26).toInt.toNat a1) 222 ((sa s 221 (s.1 26).toInt.toNat a1).1 26).toInt.toNat ((sa s 221 (s.1 26).toInt.toNat a1).1 7)) 224 ((sa (sa s 221 (s.1 26).toInt.toNat a1) 222 ((sa s 221 (s.1 26).toInt.toNat a1).1 26).toInt.toNat ((sa s 221 (s.1 26).toInt.toNat a1).1 7)).1 26).toInt.toNat (-1)) 225 ((sa (sa (sa s 221 (s.1 26).toInt.toNat a1) 222 ((sa s 221 (s.1 26).toInt.toNat a1).1 26).toInt.toNat ((sa s 221 (s.1 26).toInt.toNat a1).1 7)) 224 ((sa (sa s 221 (s.1 26).toInt.toNat a1) 222 ((sa s 221 (s.1 26).toInt.toNat a1).1 26).toInt.toNat ((sa s 221 (s.1 26).toInt.toNat a1).1 7)).1 26).toInt.toNat (-1)).1 26).toInt.toNat (-1)) 226 ((sa (sa (sa (sa s 221 (s.1 26).toInt.toNat a1) 222 ((sa s 221 (s.1 26).toInt.toNat a1).1 26).toInt.toNat ((sa s 221 (s.1 26).toInt.toNat a1).1 7)) 224 ((sa (sa s 221 (s.1 26).toInt.toNat a1) 222 ((sa s 221 (s.1 26).toInt.toNat a1).1 26).toInt.toNat ((sa s 221 (s.1 26).toInt.toNat a1).1 7)).1 26).toInt.toNat (-1)) 225 ((sa (sa (sa s 221 (s.1 26).toInt.toNat a1) 222 ((sa s 221 (s.1 26).toInt.toNat a1).1 26).toInt.toNat ((sa s 221 (s.1 26).toInt.toNat a1).1 7)) 224 ((sa (sa s 221 (s.1 26).toInt.toNat a1) 222 ((sa s 221 (s.1 26).toInt.toNat a1).1 26).toInt.toNat ((sa s 221 (s.1 26).toInt.toNat a1).1 7)).1 26).toInt.toNat (-1)).1 26).toInt.toNat (-1)).1 26).toInt.toNat 0).1 26).toInt.toNat (-1)) 228 ((sa (sa (sa (sa (sa (sa s 221 (s.1 26).toInt.toNat a1) 222 ((sa s 221 (s.1 26).toInt.toNat a1).1 26).toInt.toNat ((sa s 221 (s.1 26).toInt.toNat a1).1 7)) 224 ((sa (sa s 221 (s.1 26).toInt.toNat a1) 222 ((sa s 221 (s.1 26).toInt.toNat a1).1 26).toInt.toNat ((sa s 221 (s.1 26).toInt.toNat a1).1 7)).1 26).toInt.toNat (-1)) 225 ((sa (sa (sa s 221 (s.1 26).toInt.toNat a1) 222 ((sa s 221 (s.1 26).toInt.toNat a1).1 26).toInt.toNat ((sa s 221 (s.1 26).toInt.toNat a1).1 7)) 224 ((sa (sa s 221 (s.1 26).toInt.toNat a1) 222 ((sa s 221 (s.1 26).toInt.toNat a1).1 26).toInt.toNat ((sa s 221 (s.1 26).toInt.toNat a1).1 7)).1 26).toInt.toNat (-1)).1 26).toInt.toNat (-1)) 226 ((sa (sa (sa (sa s 221 (s.1 26).toInt.toNat a1) 222 ((sa s 221 (s.1 26).toInt.toNat a1).1 26).toInt.toNat ((sa s 221 (s.1 26).toInt.toNat a1).1 7)) 224 ((sa (sa s 221 (s.1 26).toInt.toNat a1) 222 ((sa s 221 (s.1 26).toInt.toNat a1).1 26).toInt.toNat ((sa s 221 (s.1 26).toInt.toNat a1).1 7)).1 26).toInt.toNat (-1)) 225 ((sa (sa (sa s 221 (s.1 26).toInt.toNat a1) 222 ((sa s 221 (s.1 26).toInt.toNat a1).1 26).toInt.toNat ((sa s 221 (s.1 26).toInt.toNat a1).1 7)) 224 ((sa (sa s 221 (s.1 26).toInt.toNat a1) 222 ((sa s 221 (s.1 26).toInt.toNat a1).1 26).toInt.toNat ((sa s 221 (s.1 26).toInt.toNat a1).1 7)).1 26).toInt.toNat (-1)).1 26).toInt.toNat (-1)).1 26).toInt.toNat 0) 227 ((sa (sa (sa (sa (sa s 221 (s.1 26).toInt.toNat a1) 222 ((sa s 221 (s.1 26).toInt.toNat a1).1 26).toInt.toNat ((sa s 221 (s.1 26).toInt.toNat a1).1 7)) 224 ((sa (sa s 221 (s.1 26).toInt.toNat a1) 222 ((sa s 221 (s.1 26).toInt.toNat a1).1 26).toInt.toNat ((sa s 221 (s.1 26).toInt.toNat a1).1 7)).1 26).toInt.toNat (-1)) 225 ((sa (sa (sa s 221 (s.1 26).toInt.toNat a1) 222 ((sa s 221 (s.1 26).toInt.toNat a1).1 26).toInt.toNat ((sa s 221 (s.1 26).toInt.toNat a1).1 7)) 224 ((sa (sa s 221 (s.1 26).toInt.toNat a1) 222 ((sa s 221 (s.1 26).toInt.toNat a1).1 26).toInt.toNat ((sa s 221 (s.1 26).toInt.toNat a1).1 7)).1 26).toInt.toNat (-1)).1 26).toInt.toNat (-1)) 226 ((sa (sa (sa (sa s 221 (s.1 26).toInt.toNat a1) 222 ((sa s 221 (s.1 26).toInt.toNat a1).1 26).toInt.toNat ((sa s 221 (s.1 26).toInt.toNat a1).1 7)) 224 ((sa (sa s 221 (s.1 26).toInt.toNat a1) 222 ((sa s 221 (s.1 26).toInt.toNat a1).1 26).toInt.toNat ((sa s 221 (s.1 26).toInt.toNat a1).1 7)).1 26).toInt.toNat (-1)) 225 ((sa (sa (sa s 221 (s.1 26).toInt.toNat a1) 222 ((sa s 221 (s.1 26).toInt.toNat a1).1 26).toInt.toNat ((sa s 221 (s.1 26).toInt.toNat a1).1 7)) 224 ((sa (sa s 221 (s.1 26).toInt.toNat a1) 222 ((sa s 221 (s.1 26).toInt.toNat a1).1 26).toInt.toNat ((sa s 221 (s.1 26).toInt.toNat a1).1 7)).1 26).toInt.toNat (-1)).1 26).toInt.toNat (-1)).1 26).toInt.toNat 0).1 26).toInt.toNat (-1)).1 26).toInt.toNat (-1)).1 26).toInt.toNat (-1)) 230 ((sa (sa (sa (sa (sa (sa (sa (sa s 221 (s.1 26).toInt.toNat a1) 222 ((sa s 221 (s.1 26).toInt.toNat a1).1 26).toInt.toNat ((sa s 221 (s.1 26).toInt.toNat a1).1 7)) 224 ((sa (sa s 221 (s.1 26).toInt.toNat a1) 222 ((sa s 221 (s.1 26).toInt.toNat a1).1 26).toInt.toNat ((sa s 221 (s.1 26).toInt.toNat a1).1 7)).1 26).toInt.toNat (-1)) 225 ((sa (sa (sa s 221 (s.1 26).toInt.toNat a1) 222 ((sa s 221 (s.1 26).toInt.toNat a1).1 26).toInt.toNat ((sa s 221 (s.1 26).toInt.toNat a1).1 7)) 224 ((sa (sa s 221 (s.1 26).toInt.toNat a1) 222 ((sa s 221 (s.1 26).toInt.toNat a1).1 26).toInt.toNat ((sa s 221 (s.1 26).toInt.toNat a1).1 7)).1 26).toInt.toNat (-1)).1 26).toInt.toNat (-1)) 226 ((sa (sa (sa (sa s 221 (s.1 26).toInt.toNat a1) 222 ((sa s 221 (s.1 26).toInt.toNat a1).1 26).toInt.toNat ((sa s 221 (s.1 26).toInt.toNat a1).1 7)) 224 ((sa (sa s 221 (s.1 26).toInt.toNat a1) 222 ((sa s 221 (s.1 26).toInt.toNat a1).1 26).toInt.toNat ((sa s 221 (s.1 26).toInt.toNat a1).1 7)).1 26).toInt.toNat (-1)) 225 ((sa (sa (sa s 221 (s.1 26).toInt.toNat a1) 222 ((sa s 221 (s.1 26).toInt.toNat a1).1 26).toInt.toNat ((sa s 221 (s.1 26).toInt.toNat a1).1 7)) 224 ((sa (sa s 221 (s.1 26).toInt.toNat a1) 222 ((sa s 221 (s.1 26).toInt.toNat a1).1 26).toInt.toNat ((sa s 221 (s.1 26).toInt.toNat a1).1 7)).1 26).toInt.toNat (-1)).1 26).toInt.toNat (-1)).1 26).toInt.toNat 0) 227 ((sa (sa (sa (sa (sa s 221 (s.1 26).toInt.toNat a1) 222 ((sa s 221 (s.1 26).toInt.toNat a1).1 26).toInt.toNat ((sa s 221 (s.1 26).toInt.toNat a1).1 7)) 224 ((sa (sa s 221 (s.1 26).toInt.toNat a1) 222 ((sa s 221 (s.1 26).toInt.toNat a1).1 26).toInt.toNat ((sa s 221 (s.1 26).toInt.toNat a1).1 7)).1 26).toInt.toNat (-1)) 225 ((sa (sa (sa s 221 (s.1 26).toInt.toNat a1) 222 ((sa s 221 (s.1 26).toInt.toNat a1).1 26).toInt.toNat ((sa s 221 (s.1 26).toInt.toNat a1).1 7)) 224 ((sa (sa s 221 (s.1 26).toInt.toNat a1) 222 ((sa s 221 (s.1 26).toInt.toNat a1).1 26).toInt.toNat ((sa s 221 (s.1 26).toInt.toNat a1).1 7)).1 26).toInt.toNat (-1)).1 26).toInt.toNat (-1)) 226 ((sa (sa (sa (sa s 221 (s.1 26).toInt.toNat a1) 222 ((sa s 221 (s.1 26).toInt.toNat a1).1 26).toInt.toNat ((sa s 221 (s.1 26).toInt.toNat a1).1 7)) 224 ((sa (sa s 221 (s.1 26).toInt.toNat a1) 222 ((sa s 221 (s.1 26).toInt.toNat a1).1 26).toInt.toNat ((sa s 221 (s.1 26).toInt.toNat a1).1 7)).1 26).toInt.toNat (-1)) 225 ((sa (sa (sa s 221 (s.1 26).toInt.toNat a1) 222 ((sa s 221 (s.1 26).toInt.toNat a1).1 26).toInt.toNat ((sa s 221 (s.1 26).toInt.toNat a1).1 7)) 224 ((sa (sa s 221 (s.1 26).toInt.toNat a1) 222 ((sa s 221 (s.1 26).toInt.toNat a1).1 26).toInt.toNat ((sa s 221 (s.1 26).toInt.toNat a1).1 7)).1 26).toInt.toNat (-1)).1 26).toInt.toNat (-1)).1 26).toInt.toNat 0).1 26).toInt.toNat (-1)) 228 ((sa (sa (sa (sa (sa (sa s 221 (s.1 26).toInt.toNat a1) 222 ((sa s 221 (s.1 26).toInt.toNat a1).1 26).toInt.toNat ((sa s 221 (s.1 26).toInt.toNat a1).1 7)) 224 ((sa (sa s 221 (s.1 26).toInt.toNat a1) 222 ((sa s 221 (s.1 26).toInt.toNat a1).1 26).toInt.toNat ((sa s 221 (s.1 26).toInt.toNat a1).1 7)).1 26).toInt.toNat (-1)) 225 ((sa (sa (sa s 221 (s.1 26).toInt.toNat a1) 222 ((sa s 221 (s.1 26).toInt.toNat a1).1 26).toInt.toNat ((sa s 221 (s.1 26).toInt.toNat a1).1 7)) 224 ((sa (sa s 221 (s.1 26).toInt.toNat a1) 222 ((sa s 221 (s.1 26).toInt.toNat a1).1 26).toInt.toNat ((sa s 221 (s.1 26).toInt.toNat a1).1 7)).1 26).toInt.toNat (-1)).1 26).toInt.toNat (-1)) 226 ((sa (sa (sa (sa s 221 (s.1 26).toInt.toNat a1) 222 ((sa s 221 (s.1 26).toInt.toNat a1).1 26).toInt.toNat ((sa s 221 (s.1 26).toInt.toNat a1).1 7)) 224 ((sa (sa s 221 (s.1 26).toInt.toNat a1) 222 ((sa s 221 (s.1 26).toInt.toNat a1).1 26).toInt.toNat ((sa s 221 (s.1 26).toInt.toNat a1).1 7)).1 26).toInt.toNat (-1)) 225 ((sa (sa (sa s 221 (s.1 26).toInt.toNat a1) 222 ((sa s 221 (s.1 26).toInt.toNat a1).1 26).toInt.toNat ((sa s 221 (s.1 26).toInt.toNat a1).1 7)) 224 ((sa (sa s 221 (s.1 26).toInt.toNat a1) 222 ((sa s 221 (s.1 26).toInt.toNat a1).1 26).toInt.toNat ((sa s 221 (s.1 26).toInt.toNat a1).1 7)).1 26).toInt.toNat (-1)).1 26).toInt.toNat (-1)).1 26).toInt.toNat 0) 227 ((sa (sa (sa (sa (sa s 221 (s.1 26).toInt.toNat a1) 222 ((sa s 221 (s.1 26).toInt.toNat a1).1 26).toInt.toNat ((sa s 221 (s.1 26).toInt.toNat a1).1 7)) 224 ((sa (sa s 221 (s.1 26).toInt.toNat a1) 222 ((sa s 221 (s.1 26).toInt.toNat a1).1 26).toInt.toNat ((sa s 221 (s.1 26).toInt.toNat a1).1 7)).1 26).toInt.toNat (-1)) 225 ((sa (sa (sa s 221 (s.1 26).toInt.toNat a1) 222 ((sa s 221 (s.1 26).toInt.toNat a1).1 26).toInt.toNat ((sa s 221 (s.1 26).toInt.toNat a1).1 7)) 224 ((sa (sa s 221 (s.1 26).toInt.toNat a1) 222 ((sa s 221 (s.1 26).toInt.toNat a1).1 26).toInt.toNat ((sa s 221 (s.1 26).toInt.toNat a1).1 7)).1 26).toInt.toNat (-1)).1 26).toInt.toNat (-1)) 226 ((sa (sa (sa (sa s 221 (s.1 26).toInt.toNat a1) 222 ((sa s 221 (s.1 26).toInt.toNat a1).1 26).toInt.toNat ((sa s 221 (s.1 26).toInt.toNat a1).1 7)) 224 ((sa (sa s 221 (s.1 26).toInt.toNat a1) 222 ((sa s 221 (s.1 26).toInt.toNat a1).1 26).toInt.toNat ((sa s 221 (s.1 26).toInt.toNat a1).1 7)).1 26).toInt.toNat (-1)) 225 ((sa (sa (sa s 221 (s.1 26).toInt.toNat a1) 222 ((sa s 221 (s.1 26).toInt.toNat a1).1 26).toInt.toNat ((sa s 221 (s.1 26).toInt.toNat a1).1 7)) 224 ((sa (sa s 221 (s.1 26).toInt.toNat a1) 222 ((sa s 221 (s.1 26).toInt.toNat a1).1 26).toInt.toNat ((sa s 221 (s.1 26).toInt.toNat a1).1 7)).1 26).toInt.toNat (-1)).1 26).toInt.toNat (-1)).1 26).toInt.toNat 0).1 26).toInt.toNat (-1)).1 26).toInt.toNat (-1)) 229 ((sa (sa (sa (sa (sa (sa (sa s 221 (s.1 26).toInt.toNat a1) 222 ((sa s 221 (s.1 26).toInt.toNat a1).1 26).toInt.toNat ((sa s 221 (s.1 26).toInt.toNat a1).1 7)) 224 ((sa (sa s 221 (s.1 26).toInt.toNat a1) 222 ((sa s 221 (s.1 26).toInt.toNat a1).1 26).toInt.toNat ((sa s 221 (s.1 26).toInt.toNat a1).1 7)).1 26).toInt.toNat (-1)) 225 ((sa (sa (sa s 221 (s.1 26).toInt.toNat a1) 222 ((sa s 221 (s.1 26).toInt.toNat a1).1 26).toInt.toNat ((sa s 221 (s.1 26).toInt.toNat a1).1 7)) 224 ((sa (sa s 221 (s.1 26).toInt.toNat a1) 222 ((sa s 221 (s.1 26).toInt.toNat a1).1 26).toInt.toNat ((sa s 221 (s.1 26).toInt.toNat a1).1 7)).1 26).toInt.toNat (-1)).1 26).toInt.toNat (-1)) 226 ((sa (sa (sa (sa s 221 (s.1 26).toInt.toNat a1) 222 ((sa s 221 (s.1 26).toInt.toNat a1).1 26).toInt.toNat ((sa s 221 (s.1 26).toInt.toNat a1).1 7)) 224 ((sa (sa s 221 (s.1 26).toInt.toNat a1) 222 ((sa s 221 (s.1 26).toInt.toNat a1).1 26).toInt.toNat ((sa s 221 (s.1 26).toInt.toNat a1).1 7)).1 26).toInt.toNat (-1)) 225 ((sa (sa (sa s 221 (s.1 26).toInt.toNat a1) 222 ((sa s 221 (s.1 26).toInt.toNat a1).1 26).toInt.toNat ((sa s 221 (s.1 26).toInt.toNat a1).1 7)) 224 ((sa (sa s 221 (s.1 26).toInt.toNat a1) 222 ((sa s 221 (s.1 26).toInt.toNat a1).1 26).toInt.toNat ((sa s 221 (s.1 26).toInt.toNat a1).1 7)).1 26).toInt.toNat (-1)).1 26).toInt.toNat (-1)).1 26).toInt.toNat 0) 227 ((sa (sa (sa (sa (sa s 221 (s.1 26).toInt.toNat a1) 222 ((sa s 221 (s.1 26).toInt.toNat a1).1 26).toInt.toNat ((sa s 221 (s.1 26).toInt.toNat a1).1 7)) 224 ((sa (sa s 221 (s.1 26).toInt.toNat a1) 222 ((sa s 221 (s.1 26).toInt.toNat a1).1 26).toInt.toNat ((sa s 221 (s.1 26).toInt.toNat a1).1 7)).1 26).toInt.toNat (-1)) 225 ((sa (sa (sa s 221 (s.1 26).toInt.toNat a1) 222 ((sa s 221 (s.1 26).toInt.toNat a1).1 26).toInt.toNat ((sa s 221 (s.1 26).toInt.toNat a1).1 7)) 224 ((sa (sa s 221 (s.1 26).toInt.toNat a1) 222 ((sa s 221 (s.1 26).toInt.toNat a1).1 26).toInt.toNat ((sa s 221 (s.1 26).toInt.toNat a1).1 7)).1 26).toInt.toNat (-1)).1 26).toInt.toNat (-1)) 226 ((sa (sa (sa (sa s 221 (s.1 26).toInt.toNat a1) 222 ((sa s 221 (s.1 26).toInt.toNat a1).1 26).toInt.toNat ((sa s 221 (s.1 26).toInt.toNat a1).1 7)) 224 ((sa (sa s 221 (s.1 26).toInt.toNat a1) 222 ((sa s 221 (s.1 26).toInt.toNat a1).1 26).toInt.toNat ((sa s 221 (s.1 26).toInt.toNat a1).1 7)).1 26).toInt.toNat (-1)) 225 ((sa (sa (sa s 221 (s.1 26).toInt.toNat a1) 222 ((sa s 221 (s.1 26).toInt.toNat a1).1 26).toInt.toNat ((sa s 221 (s.1 26).toInt.toNat a1).1 7)) 224 ((sa (sa s 221 (s.1 26).toInt.toNat a1) 222 ((sa s 221 (s.1 26).toInt.toNat a1).1 26).toInt.toNat ((sa s 221 (s.1 26).toInt.toNat a1).1 7)).1 26).toInt.toNat (-1)).1 26).toInt.toNat (-1)).1 26).toInt.toNat 0).1 26).toInt.toNat (-1)) 228 ((sa (sa (sa (sa (sa (sa s 221 (s.1 26).toInt.toNat a1) 222 ((sa s 221 (s.1 26).toInt.toNat a1).1 26).toInt.toNat ((sa s 221 (s.1 26).toInt.toNat a1).1 7)) 224 ((sa (sa s 221 (s.1 26).toInt.toNat a1) 222 ((sa s 221 (s.1 26).toInt.toNat a1).1 26).toInt.toNat ((sa s 221 (s.1 26).toInt.toNat a1).1 7)).1 26).toInt.toNat (-1)) 225 ((sa (sa (sa s 221 (s.1 26).toInt.toNat a1) 222 ((sa s 221 (s.1 26).toInt.toNat a1).1 26).toInt.toNat ((sa s 221 (s.1 26).toInt.toNat a1).1 7)) 224 ((sa (sa s 221 (s.1 26).toInt.toNat a1) 222 ((sa s 221 (s.1 26).toInt.toNat a1).1 26).toInt.toNat ((sa s 221 (s.1 26).toInt.toNat a1).1 7)).1 26).toInt.toNat (-1)).1 26).toInt.toNat (-1)) 226 ((sa (sa (sa (sa s 221 (s.1 26).toInt.toNat a1) 222 ((sa s 221 (s.1 26).toInt.toNat a1).1 26).toInt.toNat ((sa s 221 (s.1 26).toInt.toNat a1).1 7)) 224 ((sa (sa s 221 (s.1 26).toInt.toNat a1) 222 ((sa s 221 (s.1 26).toInt.toNat a1).1 26).toInt.toNat ((sa s 221 (s.1 26).toInt.toNat a1).1 7)).1 26).toInt.toNat (-1)) 225 ((sa (sa (sa s 221 (s.1 26).toInt.toNat a1) 222 ((sa s 221 (s.1 26).toInt.toNat a1).1 26).toInt.toNat ((sa s 221 (s.1 26).toInt.toNat a1).1 7)) 224 ((sa (sa s 221 (s.1 26).toInt.toNat a1) 222 ((sa s 221 (s.1 26).toInt.toNat a1).1 26).toInt.toNat ((sa s 221 (s.1 26).toInt.toNat a1).1 7)).1 26).toInt.toNat (-1)).1 26).toInt.toNat (-1)).1 26).toInt.toNat 0) 227 ((sa (sa (sa (sa (sa s 221 (s.1 26).toInt.toNat a1) 222 ((sa s 221 (s.1 26).toInt.toNat a1).1 26).toInt.toNat ((sa s 221 (s.1 26).toInt.toNat a1).1 7)) 224 ((sa (sa s 221 (s.1 26).toInt.toNat a1) 222 ((sa s 221 (s.1 26).toInt.toNat a1).1 26).toInt.toNat ((sa s 221 (s.1 26).toInt.toNat a1).1 7)).1 26).toInt.toNat (-1)) 225 ((sa (sa (sa s 221 (s.1 26).toInt.toNat a1) 222 ((sa s 221 (s.1 26).toInt.toNat a1).1 26).toInt.toNat ((sa s 221 (s.1 26).toInt.toNat a1).1 7)) 224 ((sa (sa s 221 (s.1 26).toInt.toNat a1) 222 ((sa s 221 (s.1 26).toInt.toNat a1).1 26).toInt.toNat ((sa s 221 (s.1 26).toInt.toNat a1).1 7)).1 26).toInt.toNat (-1)).1 26).toInt.toNat (-1)) 226 ((sa (sa (sa (sa s 221 (s.1 26).toInt.toNat a1) 222 ((sa s 221 (s.1 26).toInt.toNat a1).1 26).toInt.toNat ((sa s 221 (s.1 26).toInt.toNat a1).1 7)) 224 ((sa (sa s 221 (s.1 26).toInt.toNat a1) 222 ((sa s 221 (s.1 26).toInt.toNat a1).1 26).toInt.toNat ((sa s 221 (s.1 26).toInt.toNat a1).1 7)).1 26).toInt.toNat (-1)) 225 ((sa (sa (sa s 221 (s.1 26).toInt.toNat a1) 222 ((sa s 221 (s.1 26).toInt.toNat a1).1 26).toInt.toNat ((sa s 221 (s.1 26).toInt.toNat a1).1 7)) 224 ((sa (sa s 221 (s.1 26).toInt.toNat a1) 222 ((sa s 221 (s.1 26).toInt.toNat a1).1 26).toInt.toNat ((sa s 221 (s.1 26).toInt.toNat a1).1 7)).1 26).toInt.toNat (-1)).1 26).toInt.toNat (-1)).1 26).toInt.toNat 0).1 26).toInt.toNat (-1)).1 26).toInt.toNat (-1)).1 26).toInt.toNat (-1)).1 26).toInt.toNat 0).1 26), .ref 213] _ _
  refine g_c [.int 1, .int ((sa (sa (sa (sa (sa (sa (sa (sa (sa s 221 (s.1 26).toInt.toNat a1) 222 ((sa s 221 (s.1 26).toInt.toNat a1).1 26).toInt.toNat ((sa s 221 (s.1 26).toInt.toNat a1).1 7)) 224 ((sa (sa s 221 (s.1 26).toInt.toNat a1) 222 ((sa s 221 (s.1 26).toInt.toNat a1).1 26).toInt.toNat ((sa s 221 (s.1 26).toInt.toNat a1).1 7)).1 26).toInt.toNat (-1)) 225 ((sa (sa (sa s 221 (s.1 26).toInt.toNat a1) 222 ((sa s 221 (s.1 26).toInt.toNat a1).1 26).toInt.toNat ((sa s 221 (s.1 26).toInt.toNat a1).1 7)) 224 ((sa (sa s 221 (s.1 26).toInt.toNat a1) 222 ((sa s 221 (s.1 26).toInt.toNat a1).1 26).toInt.toNat ((sa s 221 (s.1 26).toInt.toNat a1).1 7)).1 26).toInt.toNat (-1)).1 26).toInt.toNat (-1)) 226 ((sa (sa (sa (sa s 221 (s.1 26).toInt.toNat a1) 222 ((sa s 221 (s.1 26).toInt.toNat a1).1 26).toInt.toNat ((sa s 221 (s.1 26).toInt.toNat a1).1 7)) 224 ((sa (sa s 221 (s.1 26).toInt.toNat a1) 222 ((sa s 221 (s.1 26).toInt.toNat a1).1 26).toInt.toNat ((sa s 221 (s.1 26).toInt.toNat a1).1 7)).1 26).toInt.toNat (-1)) 225 ((sa (sa (sa s 221 (s.1 26).toInt.toNat a1) 222 ((sa s 221 (s.1 26).toInt.toNat a1).1 26).toInt.toNat ((sa s 221 (s.1 26).toInt.toNat a1).1 7)) 224 ((sa (sa s 221 (s.1 26).toInt.toNat a1) 222 ((sa s 221 (s.1 26).toInt.toNat a1).1 26).toInt.toNat ((sa s 221 (s.1 26).toInt.toNat a1).1 7)).1 26).toInt.toNat (-1)).1 26).toInt.toNat (-1)).1 26).toInt.toNat 0) 227 ((sa (sa (sa (sa (sa s 221 (s.1 26).toInt.toNat a1) 222 ((sa s 221 (s.1 26).toInt.toNat a1).1 26).toInt.toNat ((sa s 221 (s.1 26).toInt.toNat a1).1 7)) 224 ((sa (sa s 221 (s.1 26).toInt.toNat a1) 222 ((sa s 221 (s.1 26).toInt.toNat a1).1 26).toInt.toNat ((sa s 221 (s.1 26).toInt.toNat a1).1 7)).1 26).toInt.toNat (-1)) 225 ((sa (sa (sa s 221 (s.1 26).toInt.toNat a1) 222 ((sa s 221 (s.1 26).toInt.toNat a1).1 26).toInt.toNat ((sa s 221 (s.1 26).toInt.toNat a1).1 7)) 224 ((sa (sa s 221 (s.1 26).toInt.toNat a1) 222 ((sa s 221 (s.1 26).toInt.toNat a1).1 26).toInt.toNat ((sa s 221 (s.1 26).toInt.toNat a1).1 7)).1 26).toInt.toNat (-1)).1 26).toInt.toNat (-1)) 226 ((sa (sa (sa (sa s 221 (s.1 26).toInt.toNat a1) 222 ((sa s 221 (s.1 26).toInt.toNat a1).1 26).toInt.toNat ((sa s 221 (s.1 26).toInt.toNat a1).1 7)) 224 ((sa (sa s 221 (s.1 26).toInt.toNat a1) 222 ((sa s 221 (s.1 26).toInt.toNat a1).1 26).toInt.toNat ((sa s 221 (s.1 26).toInt.toNat a1).1 7)).1 26).toInt.toNat (-1)) 225 ((sa (sa (sa s 221 (s.1 26).toInt.toNat a1) 222 ((sa s 221 (s.1 26).toInt.toNat a1).1 26).toInt.toNat ((sa s 221 (s.1 26).toInt.toNat a1).1 7)) 224 ((sa (sa s 221 (s.1 26).toInt.toNat a1) 222 ((sa s 221 (s.1 26).toInt.toNat a1).1 26).toInt.toNat ((sa s 221 (s.1 26).toInt.toNat a1).1 7)).1 26).toInt.toNat (-1)).1 26).toInt.toNat (-1)).1 26).toInt.toNat 0).1 26).toInt.toNat (-1)) 228 ((sa (sa (sa (sa (sa (sa s 221 (s.1 26).toInt.toNat a1) 222 ((sa s 221 (s.1 26).toInt.toNat a1).1 26).toInt.toNat ((sa s 221 (s.1 26).toInt.toNat a1).1 7)) 224 ((sa (sa s 221 (s.1 26).toInt.toNat a1) 222 ((sa s 221 (s.1 26).toInt.toNat a1).1 26).toInt.toNat ((sa s 221 (s.1 26).toInt.toNat a1).1 7)).1 26).toInt.toNat (-1)) 225 ((sa (sa (sa s 221 (s.1 26).toInt.toNat a1) 222 ((sa s 221 (s.1 26).toInt.toNat a1).1 26).toInt.toNat ((sa s 221 (s.1 26).toInt.toNat a1).1 7)) 224 ((sa (sa s 221 (s.1 26).toInt.toNat a1) 222 ((sa s 221 (s.1 26).toInt.toNat a1).1 26).toInt.toNat ((sa s 221 (s.1 26).toInt.toNat a1).1 7)).1 26).toInt.toNat (-1)).1 26).toInt.toNat (-1)) 226 ((sa (sa (sa (sa s 221 (s.1 26).toInt.toNat a1) 222 ((sa s 221 (s.1 26).toInt.toNat a1).1 26).toInt.toNat ((sa s 221 (s.1 26).toInt.toNat a1).1 7)) 224 ((sa (sa s 221 (s.1 26).toInt.toNat a1) 222 ((sa s 221 (s.1 26).toInt.toNat a1).1 26).toInt.toNat ((sa s 221 (s.1 26).toInt.toNat a1).1 7)).1 26).toInt.toNat (-1)) 225 ((sa (sa (sa s 221 (s.1 26).toInt.toNat a1) 222 ((sa s 221 (s.1 26).toInt.toNat a1).1 26).toInt.toNat ((sa s 221 (s.1 26).toInt.toNat a1).1 7)) 224 ((sa (sa s 221 (s.1 26).toInt.toNat a1) 222 ((sa s 221 (s.1 26).toInt.toNat a1).1 26).toInt.toNat ((sa s 221 (s.1 26).toInt.toNat a1).1 7)).1 26).toInt.toNat (-1)).1 26).toInt.toNat (-1)).1 26).toInt.toNat 0) 227 ((sa (sa (sa (sa (sa s 221 (s.1 26).toInt.toNat a1) 222 ((sa s 221 (s.1 26).toInt.toNat a1).1 26).toInt.toNat ((sa s 221 (s.1 26).toInt.toNat a1).1 7)) 224 ((sa (sa s 221 (s.1 26).toInt.toNat a1) 222 ((sa s 221 (s.1 26).toInt.toNat a1).1 26).toInt.toNat ((sa s 221 (s.1 26).toInt.toNat a1).1 7)).1 26).toInt.toNat (-1)) 225 ((sa (sa (sa s 221 (s.1 26).toInt.toNat a1) 222 ((sa s 221 (s.1 26).toInt.toNat a1).1 26).toInt.toNat ((sa s 221 (s.1 26).toInt.toNat a1).1 7)) 224 ((sa (sa s 221 (s.1 26).toInt.toNat a1) 222 ((sa s 221 (s.1 26).toInt.toNat a1).1 26).toInt.toNat ((sa s 221 (s.1 26).toInt.toNat a1).1 7)).1 26).toInt.toNat (-1)).1 26).toInt.toNat (-1)) 226 ((sa (sa (sa (sa s 221 (s.1 26).toInt.toNat a1) 222 ((sa s 221 (s.1 26).toInt.toNat a1).1 26).toInt.toNat ((sa s 221 (s.1 26).toInt.toNat a1).1 7)) 224 ((sa (sa s 221 (s.1 26).toInt.toNat a1) 222 ((sa s 221 (s.1 26).toInt.toNat a1).1 26).toInt.toNat ((sa s 221 (s.1 26).toInt.toNat a1).1 7)).1 26).toInt.toNat (-1)) 225 ((sa (sa (sa s 221 (s.1 26).toInt.toNat a1) 222 ((sa s 221 (s.1 26).toInt.toNat a1).1 26).toInt.toNat ((sa s 221 (s.1 26).toInt.toNat a1).1 7)) 224 ((sa (sa s 221 (s.1 26).toInt.toNat a1) 222 ((sa s 221 (s.1 26).toInt.toNat a1).1 26).toInt.toNat ((sa s 221 (s.1 26).toInt.toNat a1).1 7)).1 26).toInt.toNat (-1)).1 26).toInt.toNat (-1)).1 26).toInt.toNat 0).1 26).toInt.toNat (-1)).1 26).toInt.toNat (-1)) 229 ((sa (sa (sa (sa (sa (sa (sa s 221 (s.1 26).toInt.toNat a1) 222 ((sa s 221 (s.1 26).toInt.toNat a1).1 26).toInt.toNat ((sa s 221 (s.1 26).toInt.toNat a1).1 7)) 224 ((sa (sa s 221 (s.1 26).toInt.toNat a1) 222 ((sa s 221 (s.1 26).toInt.toNat a1).1 26).toInt.toNat ((sa s 221 (s.1 26).toInt.toNat a1).1 7)).1 26).toInt.toNat (-1)) 225 ((sa (sa (sa s 221 (s.1 26).toInt.toNat a1) 222 ((sa s 221 (s.1 26).toInt.toNat a1).1 26).toInt.toNat ((sa s 221 (s.1 26).toInt.toNat a1).1 7)) 224 ((sa (sa s 221 (s.1 26).toInt.toNat a1) 222 ((sa s 221 (s.1 26).toInt.toNat a1).1 26).toInt.toNat ((sa s 221 (s.1 26).toInt.toNat a1).1 7)).1 26).toInt.toNat (-1)).1 26).toInt.toNat (-1)) 226 ((sa (sa (sa (sa s 221 (s.1 26).toInt.toNat a1) 222 ((sa s 221 (s.1 26).toInt.toNat a1).1 26).toInt.toNat ((sa s 221 (s.1 26).toInt.toNat a1).1 7)) 224 ((sa (sa s 221 (s.1 26).toInt.toNat a1) 222 ((sa s 221 (s.1 26).toInt.toNat a1).1 26).toInt.toNat ((sa s 221 (s.1 26).toInt.toNat a1).1 7)).1 26).toInt.toNat (-1)) 225 ((sa (sa (sa s 221 (s.1 26).toInt.toNat a1) 222 ((sa s 221 (s.1 26).toInt.toNat a1).1 26).toInt.toNat ((sa s 221 (s.1 26).toInt.toNat a1).1 7)) 224 ((sa (sa s 221 (s.1 26).toInt.toNat a1) 222 ((sa s 221 (s.1 26).toInt.toNat a1).1 26).toInt.toNat ((sa s 221 (s.1 26).toInt.toNat a1).1 7)).1 26).toInt.toNat (-1)).1 26).toInt.toNat (-1)).1 26).toInt.toNat 0) 227 ((sa (sa (sa (sa (sa s 221 (s.1 26).toInt.toNat a1) 222 ((sa s 221 (s.1 26).toInt.toNat a1).1 26).toInt.toNat ((sa s 221 (s.1 26).toInt.toNat a1).1 7)) 224 ((sa (sa s 221 (s.1 26).toInt.toNat a1) 222 ((sa s 221 (s.1 26).toInt.toNat a1).1 26).toInt.toNat ((sa s 221 (s.1 26).toInt.toNat a1).1 7)).1 26).toInt.toNat (-1)) 225 ((sa (sa (sa s 221 (s.1 26).toInt.toNat a1) 222 ((sa s 221 (s.1 26).toInt.toNat a1).1 26).toInt.toNat ((sa s 221 (s.1 26).toInt.toNat a1).1 7)) 224 ((sa (sa s 221 (s.1 26).toInt.toNat a1) 222 ((sa s 221 (s.1 26).toInt.toNat a1).1 26).toInt.toNat ((sa s 221 (s.1 26).toInt.toNat a1).1 7)).1 26).toInt.toNat (-1)).1 26).toInt.toNat (-1)) 226 ((sa (sa (sa (sa s 221 (s.1 26).toInt.toNat a1) 222 ((sa s 221 (s.1 26).toInt.toNat a1).1 26).toInt.toNat ((sa s 221 (s.1 26).toInt.toNat a1).1 7)) 224 ((sa (sa s 221 (s.1 26).toInt.toNat a1) 222 ((sa s 221 (s.1 26).toInt.toNat a1).1 26).toInt.toNat ((sa s 221 (s.1 26).toInt.toNat a1).1 7)).1 26).toInt.toNat (-1)) 225 ((sa (sa (sa s 221 (s.1 26).toInt.toNat a1) 222 ((sa s 221 (s.1 26).toInt.toNat a1).1 26).toInt.toNat ((sa s 221 (s.1 26).toInt.toNat a1).1 7)) 224 ((sa (sa s 221 (s.1 26).toInt.toNat a1) 222 ((sa s 221 (s.1 26).toInt.toNat a1).1 26).toInt.toNat ((sa s 221 (s.1 26).toInt.toNat a1).1 7)).1 26).toInt.toNat (-1)).1 26).toInt.toNat (-1)).1 26).toInt.toNat 0).1 26).toInt.toNat (-1)) 228 ((sa (sa (sa (sa (sa (sa s 221 (s.1 26).toInt.toNat a1) 222 ((sa s 221 (s.1 26).toInt.toNat a1).1 26).toInt.toNat ((sa s 221 (s.1 26).toInt.toNat a1).1 7)) 224 ((sa (sa s 221 (s.1 26).toInt.toNat a1) 222 ((sa s 221 (s.1 26).toInt.toNat a1).1 26).toInt.toNat ((sa s 221 (s.1 26).toInt.toNat a1).1 7)).1 26).toInt.toNat (-1)) 225 ((sa (sa (sa s 221 (s.1 26).toInt.toNat a1) 222 ((sa s 221 (s.1 26).toInt.toNat a1).1 26).toInt.toNat ((sa s 221 (s.1 26).toInt.toNat a1).1 7)) 224 ((sa (sa s 221 (s.1 26).toInt.toNat a1) 222 ((sa s 221 (s.1 26).toInt.toNat a1).1 26).toInt.toNat ((sa s 221 (s.1 26).toInt.toNat a1).1 7)).1 26).toInt.toNat (-1)).1 26).toInt.toNat (-1)) 226 ((sa (sa (sa (sa s 221 (s.1 26).toInt.toNat a1) 222 ((sa s 221 (s.1 26).toInt.toNat a1).1 26).toInt.toNat ((sa s 221 (s.1 26).toInt.toNat a1).1 7)) 224 ((sa (sa s 221 (s.1 26).toInt.toNat a1) 222 ((sa s 221 (s.1 26).toInt.toNat a1).1 26).toInt.toNat ((sa s 221 (s.1 26).toInt.toNat a1).1 7)).1 26).toInt.toNat (-1)) 225 ((sa (sa (sa s 221 (s.1 26).toInt.toNat a1) 222 ((sa s 221 (s.1 26).toInt.toNat a1).1 26).toInt.toNat ((sa s 221 (s.1 26).toInt.toNat a1).1 7)) 224 ((sa (sa s 221 (s.1 26).toInt.toNat a1) 222 ((sa s 221 (s.1 26).toInt.toNat a1).1 26).toInt.toNat ((sa s 221 (s.1 26).toInt.toNat a1).1 7)).1 26).toInt.toNat (-1)).1 26).toInt.toNat (-1)).1 26).toInt.toNat 0) 227 ((sa (sa (sa (sa (sa s 221 (s.1 26).toInt.toNat a1) 222 ((sa s 221 (s.1 26).toInt.toNat a1).1 26).toInt.toNat ((sa s 221 (s.1 26).toInt.toNat a1).1 7)) 224 ((sa (sa s 221 (s.1 26).toInt.toNat a1) 222 ((sa s 221 (s.1 26).toInt.toNat a1).1 26).toInt.toNat ((sa s 221 (s.1 26).toInt.toNat a1).1 7)).1 26).toInt.toNat (-1)) 225 ((sa (sa (sa s 221 (s.1 26).toInt.toNat a1) 222 ((sa s 221 (s.1 26).toInt.toNat a1).1 26).toInt.toNat ((sa s 221 (s.1 26).toInt.toNat a1).1 7)) 224 ((sa (sa s 221 (s.1 26).toInt.toNat a1) 222 ((sa s 221 (s.1 26).toInt.toNat a1).1 26).toInt.toNat ((sa s 221 (s.1 26).toInt.toNat a1).1 7)).1 26).toInt.toNat (-1)).1 26).toInt.toNat (-1)) 226 ((sa (sa (sa (sa s 221 (s.1 26).toInt.toNat a1) 222 ((sa s 221 (s.1 26).toInt.toNat a1).1 26).toInt.toNat ((sa s 221 (s.1 26).toInt.toNat a1).1 7)) 224 ((sa (sa s 221 (s.1 26).toInt.toNat a1) 222 ((sa s 221 (s.1 26).toInt.toNat a1).1 26).toInt.toNat ((sa s 221 (s.1 26).toInt.toNat a1).1 7)).1 26).toInt.toNat (-1)) 225 ((sa (sa (sa s 221 (s.1 26).toInt.toNat a1) 222 ((sa s 221 (s.1 26).toInt.toNat a1).1 26).toInt.toNat ((sa s 221 (s.1 26).toInt.toNat a1).1 7)) 224 ((sa (sa s 221 (s.1 26).toInt.toNat a1) 222 ((sa s 221 (s.1 26).toInt.toNat a1).1 26).toInt.toNat ((sa s 221 (s.1 26).toInt.toNat a1).1 7)).1 26).toInt.toNat (-1)).1 26).toInt.toNat (-1)).1 26).toInt.toNat 0).1 26).toInt.toNat (-1)).1 26).toInt.toNat (-1)).1 26).toInt.toNat (-1)) 230 ((sa (sa (sa (sa (sa (sa (sa (sa s 221 (s.1 26).toInt.toNat a1) 222 ((sa s 221 (s.1 26).toInt.toNat a1).1 26).toInt.toNat ((sa s 221 (s.1 26).toInt.toNat a1).1 7)) 224 ((sa (sa s 221 (s.1 26).toInt.toNat a1) 222 ((sa s 221 (s.1 26).toInt.toNat a1).1 26).toInt.toNat ((sa s 221 (s.1 26).toInt.toNat a1).1 7)).1 26).toInt.toNat (-1)) 225 ((sa (sa (sa s 221 (s.1 26).toInt.toNat a1) 222 ((sa s 221 (s.1 26).toInt.toNat a1).1 26).toInt.toNat ((sa s 221 (s.1 26).toInt.toNat a1).1 7)) 224 ((sa (sa s 221 (s.1 26).toInt.toNat a1) 222 ((sa s 221 (s.1 26).toInt.toNat a1).1 26).toInt.toNat ((sa s 221 (s.1 26).toInt.toNat a1).1 7)).1 26).toInt.toNat (-1)).1 26).toInt.toNat (-1)) 226 ((sa (sa (sa (sa s 221 (s.1 26).toInt.toNat a1) 222 ((sa s 221 (s.1 26).toInt.toNat a1).1 26).toInt.toNat ((sa s 221 (s.1 26).toInt.toNat a1).1 7)) 224 ((sa (sa s 221 (s.1 26).toInt.toNat a1) 222 ((sa s 221 (s.1 26).toInt.toNat a1).1 26).toInt.toNat ((sa s 221 (s.1 26).toInt.toNat a1).1 7)).1 26).toInt.toNat (-1)) 225 ((sa (sa (sa s 221 (s.1 26).toInt.toNat a1) 222 ((sa s 221 (s.1 26).toInt.toNat a1).1 26).toInt.toNat ((sa s 221 (s.1 26).toInt.toNat a1).1 7)) 224 ((sa (sa s 221 (s.1 26).toInt.toNat a1) 222 ((sa s 221 (s.1 26).toInt.toNat a1).1 26).toInt.toNat ((sa s 221 (s.1 26).toInt.toNat a1).1 7)).1 26).toInt.toNat (-1)).1 26).toInt.toNat (-1)).1 26).toInt.toNat 0) 227 ((sa (sa (sa (sa (sa s 221 (s.1 26).toInt.toNat a1) 222 ((sa s 221 (s.1 26).toInt.toNat a1).1 26).toInt.toNat ((sa s 221 (s.1 26).toInt.toNat a1).1 7)) 224 ((sa (sa s 221 (s.1 26).toInt.toNat a1) 222 ((sa s 221 (s.1 26).toInt.toNat a1).1 26).toInt.toNat ((sa s 221 (s.1 26).toInt.toNat a1).1 7)).1 26).toInt.toNat (-1)) 225 ((sa (sa (sa s 221 (s.1 26).toInt.toNat a1) 222 ((sa s 221 (s.1 26).toInt.toNat a1).1 26).toInt.toNat ((sa s 221 (s.1 26).toInt.toNat a1).1 7)) 224 ((sa (sa s 221 (s.1 26).toInt.toNat a1) 222 ((sa s 221 (s.1 26).toInt.toNat a1).1 26).toInt.toNat ((sa s 221 (s.1 26).toInt.toNat a1).1 7)).1 26).toInt.toNat (-1)).1 26).toInt.toNat (-1)) 226 ((sa (sa (sa (sa s 221 (s.1 26).toInt.toNat a1) 222 ((sa s 221 (s.1 26).toInt.toNat a1).1 26).toInt.toNat ((sa s 221 (s.1 26).toInt.toNat a1).1 7)) 224 ((sa (sa s 221 (s.1 26).toInt.toNat a1) 222 ((sa s 221 (s.1 26).toInt.toNat a1).1 26).toInt.toNat ((sa s 221 (s.1 26).toInt.toNat a1).1 7)).1 26).toInt.toNat (-1)) 225 ((sa (sa (sa s 221 (s.1 26).toInt.toNat a1) 222 ((sa s 221 (s.1 26).toInt.toNat a1).1 26).toInt.toNat ((sa s 221 (s.1 26).toInt.toNat a1).1 7)) 224 ((sa (sa s 221 (s.1 26).toInt.toNat a1) 222 ((sa s 221 (s.1 26).toInt.toNat a1).1 26).toInt.toNat ((sa s 221 (s.1 26).toInt.toNat a1).1 7)).1 26).toInt.toNat (-1)).1 26).toInt.toNat (-1)).1 26).toInt.toNat 0).1 26).toInt.toNat (-1)) 228 ((sa (sa (sa (sa (sa (sa s 221 (s.1 26).toInt.toNat a1) 222 ((sa s 221 (s.1 26).toInt.toNat a1).1 26).toInt.toNat ((sa s 221 (s.1 26).toInt.toNat a1).1 7)) 224 ((sa (sa s 221 (s.1 26).toInt.toNat a1) 222 ((sa s 221 (s.1 26).toInt.toNat a1).1 26).toInt.toNat ((sa s 221 (s.1 26).toInt.toNat a1).1 7)).1 26).toInt.toNat (-1)) 225 ((sa (sa (sa s 221 (s.1 26).toInt.toNat a1) 222 ((sa s 221 (s.1 26).toInt.toNat a1).1 26).toInt.toNat ((sa s 221 (s.1 26).toInt.toNat a1).1 7)) 224 ((sa (sa s 221 (s.1 26).toInt.toNat a1) 222 ((sa s 221 (s.1 26).toInt.toNat a1).1 26).toInt.toNat ((sa s 221 (s.1 26).toInt.toNat a1).1 7)).1 26).toInt.toNat (-1)).1 26).toInt.toNat (-1)) 226 ((sa (sa (sa (sa s 221 (s.1 26).toInt.toNat a1) 222 ((sa s 221 (s.1 26).toInt.toNat a1).1 26).toInt.toNat ((sa s 221 (s.1 26).toInt.toNat a1).1 7)) 224 ((sa (sa s 221 (s.1 26).toInt.toNat a1) 222 ((sa s 221 (s.1 26).toInt.toNat a1).1 26).toInt.toNat ((sa s 221 (s.1 26).toInt.toNat a1).1 7)).1 26).toInt.toNat (-1)) 225 ((sa (sa (sa s 221 (s.1 26).toInt.toNat a1) 222 ((sa s 221 (s.1 26).toInt.toNat a1).1 26).toInt.toNat ((sa s 221 (s.1 26).toInt.toNat a1).1 7)) 224 ((sa (sa s 221 (s.1 26).toInt.toNat a1) 222 ((sa s 221 (s.1 26).toInt.toNat a1).1 26).toInt.toNat ((sa s 221 (s.1 26).toInt.toNat a1).1 7)).1 26).toInt.toNat (-1)).1 26).toInt.toNat (-1)).1 26).toInt.toNat 0) 227 ((sa (sa (sa (sa (sa s 221 (s.1 26).toInt.toNat a1) 222 ((sa s 221 (s.1 26).toInt.toNat a1).1 26).toInt.toNat ((sa s 221 (s.1 26).toInt.toNat a1).1 7)) 224 ((sa (sa s 221 (s.1 26).toInt.toNat a1) 222 ((sa s 221 (s.1 26).toInt.toNat a1).1 26).toInt.toNat ((sa s 221 (s.1 26).toInt.toNat a1).1 7)).1 26).toInt.toNat (-1)) 225 ((sa (sa (sa s 221 (s.1 26).toInt.toNat a1) 222 ((sa s 221 (s.1 26).toInt.toNat a1).1 26).toInt.toNat ((sa s 221 (s.1 26).toInt.toNat a1).1 7)) 224 ((sa (sa s 221 (s.1 26).toInt.toNat a1) 222 ((sa s 221 (s.1 26).toInt.toNat a1).1 26).toInt.toNat ((sa s 221 (s.1 26).toInt.toNat a1).1 7)).1 26).toInt.toNat (-1)).1 26).toInt.toNat (-1)) 226 ((sa (sa (sa (sa s 221 (s.1 26).toInt.toNat a1) 222 ((sa s 221 (s.1 26).toInt.toNat a1).1 26).toInt.toNat ((sa s 221 (s.1 26).toInt.toNat a1).1 7)) 224 ((sa (sa s 221 (s.1 26).toInt.toNat a1) 222 ((sa s 221 (s.1 26).toInt.toNat a1).1 26).toInt.toNat ((sa s 221 (s.1 26).toInt.toNat a1).1 7)).1 26).toInt.toNat (-1)) 225 ((sa (sa (sa s 221 (s.1 26).toInt.toNat a1) 222 ((sa s 221 (s.1 26).toInt.toNat a1).1 26).toInt.toNat ((sa s 221 (s.1 26).toInt.toNat a1).1 7)) 224 ((sa (sa s 221 (s.1 26).toInt.toNat a1) 222 ((sa s 221 (s.1 26).toInt.toNat a1).1 26).toInt.toNat ((sa s 221 (s.1 26).toInt.toNat a1).1 7)).1 26).toInt.toNat (-1)).1 26).toInt.toNat (-1)).1 26).toInt.toNat 0).1 26).toInt.toNat (-1)).1 26).toInt.toNat (-1)) 229 ((sa (sa (sa (sa (sa (sa (sa s 221 (s.1 26).toInt.toNat a1) 222 ((sa s 221 (s.1 26).toInt.toNat a1).1 26).toInt.toNat ((sa s 221 (s.1 26).toInt.toNat a1).1 7)) 224 ((sa (sa s 221 (s.1 26).toInt.toNat a1) 222 ((sa s 221 (s.1 26).toInt.toNat a1).1 26).toInt.toNat ((sa s 221 (s.1 26).toInt.toNat a1).1 7)).1 26).toInt.toNat (-1)) 225 ((sa (sa (sa s 221 (s.1 26).toInt.toNat a1) 222 ((sa s 221 (s.1 26).toInt.toNat a1).1 26).toInt.toNat ((sa s 221 (s.1 26).toInt.toNat a1).1 7)) 224 ((sa (sa s 221 (s.1 26).toInt.toNat a1) 222 ((sa s 221 (s.1 26).toInt.toNat a1).1 26).toInt.toNat ((sa s 221 (s.1 26).toInt.toNat a1).1 7)).1 26).toInt.toNat (-1)).1 26).toInt.toNat (-1)) 226 ((sa (sa (sa (sa s 221 (s.1 26).toInt.toNat a1) 222 ((sa s 221 (s.1 26).toInt.toNat a1).1 26).toInt.toNat ((sa s 221 (s.1 26).toInt.toNat a1).1 7)) 224 ((sa (sa s 221 (s.1 26).toInt.toNat a1) 222 ((sa s 221 (s.1 26).toInt.toNat a1).1 26).toInt.toNat ((sa s 221 (s.1 26).toInt.toNat a1).1 7)).1 26).toInt.toNat (-1)) 225 ((sa (sa (sa s 221 (s.1 26).toInt.toNat a1) 222 ((sa s 221 (s.1 26).toInt.toNat a1).1 26).toInt.toNat ((sa s 221 (s.1 26).toInt.toNat a1).1 7)) 224 ((sa (sa s 221 (s.1 26).toInt.toNat a1) 222 ((sa s 221 (s.1 26).toInt.toNat a1).1 26).toInt.toNat ((sa s 221 (s.1 26).toInt.toNat a1).1 7)).1 26).toInt.toNat (-1)).1 26).toInt.toNat (-1)).1 26).toInt.toNat 0) 227 ((sa (sa (sa (sa (sa s 221 (s.1 26).toInt.toNat a1) 222 ((sa s 221 (s.1 26).toInt.toNat a1).1 26).toInt.toNat ((sa s 221 (s.1 26).toInt.toNat a1).1 7)) 224 ((sa (sa s 221 (s.1 26).toInt.toNat a1) 222 ((sa s 221 (s.1 26).toInt.toNat a1).1 26).toInt.toNat ((sa s 221 (s.1 26).toInt.toNat a1).1 7)).1 26).toInt.toNat (-1)) 225 ((sa (sa (sa s 221 (s.1 26).toInt.toNat a1) 222 ((sa s 221 (s.1 26).toInt.toNat a1).1 26).toInt.toNat ((sa s 221 (s.1 26).toInt.toNat a1).1 7)) 224 ((sa (sa s 221 (s.1 26).toInt.toNat a1) 222 ((sa s 221 (s.1 26).toInt.toNat a1).1 26).toInt.toNat ((sa s 221 (s.1 26).toInt.toNat a1).1 7)).1 26).toInt.toNat (-1)).1 26).toInt.toNat (-1)) 226 ((sa (sa (sa (sa s 221 (s.1 26).toInt.toNat a1) 222 ((sa s 221 (s.1 26).toInt.toNat a1).1 26).toInt.toNat ((sa s 221 (s.1 26).toInt.toNat a1).1 7)) 224 ((sa (sa s 221 (s.1 26).toInt.toNat a1) 222 ((sa s 221 (s.1 26).toInt.toNat a1).1 26).toInt.toNat ((sa s 221 (s.1 26).toInt.toNat a1).1 7)).1 26).toInt.toNat (-1)) 225 ((sa (sa (sa s 221 (s.1 26).toInt.toNat a1) 222 ((sa s 221 (s.1 26).toInt.toNat a1).1 26).toInt.toNat ((sa s 221 (s.1 26).toInt.toNat a1).1 7)) 224 ((sa (sa s 221 (s.1 26).toInt.toNat a1) 222 ((sa s 221 (s.1 26).toInt.toNat a1).1 26).toInt.toNat ((sa s 221 (s.1 26).toInt.toNat a1).1 7)).1 26).toInt.toNat (-1)).1 26).toInt.toNat (-1)).1 26).toInt.toNat 0).1 26).toInt.toNat (-1)) 228 ((sa (sa (sa (sa (sa (sa s 221 (s.1 26).toInt.toNat a1) 222 ((sa s 221 (s.1 26).toInt.toNat a1).1 26).toInt.toNat ((sa s 221 (s.1 26).toInt.toNat a1).1 7)) 224 ((sa (sa s 221 (s.1 26).toInt.toNat a1) 222 ((sa s 221 (s.1 26).toInt.toNat a1).1 26).toInt.toNat ((sa s 221 (s.1 26).toInt.toNat a1).1 7)).1 26).toInt.toNat (-1)) 225 ((sa (sa (sa s 221 (s.1 26).toInt.toNat a1) 222 ((sa s 221 (s.1 26).toInt.toNat a1).1 26).toInt.toNat ((sa s 221 (s.1 26).toInt.toNat a1).1 7)) 224 ((sa (sa s 221 (s.1 26).toInt.toNat a1) 222 ((sa s 221 (s.1 26).toInt.toNat a1).1 26).toInt.toNat ((sa s 221 (s.1 26).toInt.toNat a1).1 7)).1 26).toInt.toNat (-1)).1 26).toInt.toNat (-1)) 226 ((sa (sa (sa (sa s 221 (s.1 26).toInt.toNat a1) 222 ((sa s 221 (s.1 26).toInt.toNat a1).1 26).toInt.toNat ((sa s 221 (s.1 26).toInt.toNat a1).1 7)) 224 ((sa (sa s 221 (s.1 26).toInt.toNat a1) 222 ((sa s 221 (s.1 26).toInt.toNat a1).1 26).toInt.toNat ((sa s 221 (s.1 26).toInt.toNat a1).1 7)).1 26).toInt.toNat (-1)) 225 ((sa (sa (sa s 221 (s.1 26).toInt.toNat a1) 222 ((sa s 221 (s.1 26).toInt.toNat a1).1 26).toInt.toNat ((sa s 221 (s.1 26).toInt.toNat a1).1 7)) 224 ((sa (sa s 221 (s.1 26).toInt.toNat a1) 222 ((sa s 221 (s.1 26).toInt.toNat a1).1 26).toInt.toNat ((sa s 221 (s.1 26).toInt.toNat a1).1 7)).1 26).toInt.toNat (-1)).1 26).toInt.toNat (-1)).1 26).toInt.toNat 0) 227 ((sa (sa (sa (sa (sa s 221 (s.1 26).toInt.toNat a1) 222 ((sa s 221 (s.1 26).toInt.toNat a1).1 26).toInt.toNat ((sa s 221 (s.1 26).toInt.toNat a1).1 7)) 224 ((sa (sa s 221 (s.1 26).toInt.toNat a1) 222 ((sa s 221 (s.1 26).toInt.toNat a1).1 26).toInt.toNat ((sa s 221 (s.1 26).toInt.toNat a1).1 7)).1 26).toInt.toNat (-1)) 225 ((sa (sa (sa s 221 (s.1 26).toInt.toNat a1) 222 ((sa s 221 (s.1 26).toInt.toNat a1).1 26).toInt.toNat ((sa s 221 (s.1 26).toInt.toNat a1).1 7)) 224 ((sa (sa s 221 (s.1 26).toInt.toNat a1) 222 ((sa s 221 (s.1 26).toInt.toNat a1).1 26).toInt.toNat ((sa s 221 (s.1 26).toInt.toNat a1).1 7)).1 26).toInt.toNat (-1)).1 26).toInt.toNat (-1)) 226 ((sa (sa (sa (sa s 221 (s.1 26).toInt.toNat a1) 222 ((sa s 221 (s.1 26).toInt.toNat a1).1 26).toInt.toNat ((sa s 221 (s.1 26).toInt.toNat a1).1 7)) 224 ((sa (sa s 221 (s.1 26).toInt.toNat a1) 222 ((sa s 221 (s.1 26).toInt.toNat a1).1 26).toInt.toNat ((sa s 221 (s.1 26).toInt.toNat a1).1 7)).1 26).toInt.toNat (-1)) 225 ((sa (sa (sa s 221 (s.1 26).toInt.toNat a1) 222 ((sa s 221 (s.1 26).toInt.toNat a1).1 26).toInt.toNat ((sa s 221 (s.1 26).toInt.toNat a1).1 7)) 224 ((sa (sa s 221 (s.1 26).toInt.toNat a1) 222 ((sa s 221 (s.1 26).toInt.toNat a1).1 26).toInt.toNat ((sa s 221 (s.1 26).toInt.toNat a1).1 7)).1 26).toInt.toNat (-1)).1 26).toInt.toNat (-1)).1 26).toInt.toNat 0).1 26).toInt.toNat (-1)).1 26).toInt.toNat (-1)).1 26).toInt.toNat (-1)).1 26).toInt.toNat 0).1 26), .ref 213] (xo_push (.int 1)) rfl rfl ?_
  have ex10 := i_add (x := (sa (sa (sa (sa (sa (sa (sa (sa (sa s 221 (s.1 26).toInt.toNat a1) 222 ((sa s 221 (s.1 26).toInt.toNat a1).1 26).toInt.toNat ((sa s 221 (s.1 26).toInt.toNat a1).1 7)) 224 ((sa (sa s 221 (s.1 26).toInt.toNat a1) 222 ((sa s 221 (s.1 26).toInt.toNat a1).1 26).toInt.toNat ((sa s 221 (s.1 26).toInt.toNat a1).1 7)).1 26).toInt.toNat (-1)) 225 ((sa (sa (sa s 221 (s.1 26).toInt.toNat a1) 222 ((sa s 221 (s.1 26).toInt.toNat a1).1 26).toInt.toNat ((sa s 221 (s.1 26).toInt.toNat a1).1 7)) 224 ((sa (sa s 221 (s.1 26).toInt.toNat a1) 222 ((sa s 221 (s.1 26).toInt.toNat a1).1 26).toInt.toNat ((sa s 221 (s.1 26).toInt.toNat a1).1 7)).1 26).toInt.toNat (-1)).1 26).toInt.toNat (-1)) 226 ((sa (sa (sa (sa s 221 (s.1 26).toInt.toNat a1) 222 ((sa s 221 (s.1 26).toInt.toNat a1).1 26).toInt.toNat ((sa s 221 (s.1 26).toInt.toNat a1).1 7)) 224 ((sa (sa s 221 (s.1 26).toInt.toNat a1) 222 ((sa s 221 (s.1 26).toInt.toNat a1).1 26).toInt.toNat ((sa s 221 (s.1 26).toInt.toNat a1).1 7)).1 26).toInt.toNat (-1)) 225 ((sa (sa (sa s 221 (s.1 26).toInt.toNat a1) 222 ((sa s 221 (s.1 26).toInt.toNat a1).1 26).toInt.toNat ((sa s 221 (s.1 26).toInt.toNat a1).1 7)) 224 ((sa (sa s 221 (s.1 26).toInt.toNat a1) 222 ((sa s 221 (s.1 26).toInt.toNat a1).1 26).toInt.toNat ((sa s 221 (s.1 26).toInt.toNat a1).1 7)).1 26).toInt.toNat (-1)).1 26).toInt.toNat (-1)).1 26).toInt.toNat 0) 227 ((sa (sa (sa (sa (sa s 221 (s.1 26).toInt.toNat a1) 222 ((sa s 221 (s.1 26).toInt.toNat a1).1 26).toInt.toNat ((sa s 221 (s.1 26).toInt.toNat a1).1 7)) 224 ((sa (sa s 221 (s.1 26).toInt.toNat a1) 222 ((sa s 221 (s.1 26).toInt.toNat a1).1 26).toInt.toNat ((sa s 221 (s.1 26).toInt.toNat a1).1 7)).1 26).toInt.toNat (-1)) 225 ((sa (sa (sa s 221 (s.1 26).toInt.toNat a1) 222 ((sa s 221 (s.1 26).toInt.toNat a1).1 26).toInt.toNat ((sa s 221 (s.1 26).toInt.toNat a1).1 7)) 224 ((sa (sa s 221 (s.1 26).toInt.toNat a1) 222 ((sa s 221 (s.1 26).toInt.toNat a1).1 26).toInt.toNat ((sa s 221 (s.1 26).toInt.toNat a1).1 7)).1 26).toInt.toNat (-1)).1 26).toInt.toNat (-1)) 226 ((sa (sa (sa (sa s 221 (s.1 26).toInt.toNat a1) 222 ((sa s 221 (s.1 26).toInt.toNat a1).1 26).toInt.toNat ((sa s 221 (s.1 26).toInt.toNat a1).1 7)) 224 ((sa (sa s 221 (s.1 26).toInt.toNat a1) 222 ((sa s 221 (s.1 26).toInt.toNat a1).1 26).toInt.toNat ((sa s 221 (s.1 26).toInt.toNat a1).1 7)).1 26).toInt.toNat (-1)) 225 ((sa (sa (sa s 221 (s.1 26).toInt.toNat a1) 222 ((sa s 221 (s.1 26).toInt.toNat a1).1 26).toInt.toNat ((sa s 221 (s.1 26).toInt.toNat a1).1 7)) 224 ((sa (sa s 221 (s.1 26).toInt.toNat a1) 222 ((sa s 221 (s.1 26).toInt.toNat a1).1 26).toInt.toNat ((sa s 221 (s.1 26).toInt.toNat a1).1 7)).1 26).toInt.toNat (-1)).1 26).toInt.toNat (-1)).1 26).toInt.toNat 0).1 26).toInt.toNat (-1)) 228 ((sa (sa (sa (sa (sa (sa s 221 (s.1 26).toInt.toNat a1) 222 ((sa s 221 (s.1 26).toInt.toNat a1).1 26).toInt.toNat ((sa s 221 (s.1 26).toInt.toNat a1).1 7)) 224 ((sa (sa s 221 (s.1 26).toInt.toNat a1) 222 ((sa s 221 (s.1 26).toInt.toNat a1).1 26).toInt.toNat ((sa s 221 (s.1 26).toInt.toNat a1).1 7)).1 26).toInt.toNat (-1)) 225 ((sa (sa (sa s 221 (s.1 26).toInt.toNat a1) 222 ((sa s 221 (s.1 26).toInt.toNat a1).1 26).toInt.toNat ((sa s 221 (s.1 26).toInt.toNat a1).1 7)) 224 ((sa (sa s 221 (s.1 26).toInt.toNat a1) 222 ((sa s 221 (s.1 26).toInt.toNat a1).1 26).toInt.toNat ((sa s 221 (s.1 26).toInt.toNat a1).1 7)).1 26).toInt.toNat (-1)).1 26).toInt.toNat (-1)) 226 ((sa (sa (sa (sa s 221 (s.1 26).toInt.toNat a1) 222 ((sa s 221 (s.1 26).toInt.toNat a1).1 26).toInt.toNat ((sa s 221 (s.1 26).toInt.toNat a1).1 7)) 224 ((sa (sa s 221 (s.1 26).toInt.toNat a1) 222 ((sa s 221 (s.1 26).toInt.toNat a1).1 26).toInt.toNat ((sa s 221 (s.1 26).toInt.toNat a1).1 7)).1 26).toInt.toNat (-1)) 225 ((sa (sa (sa s 221 (s.1 26).toInt.toNat a1) 222 ((sa s 221 (s.1 26).toInt.toNat a1).1 26).toInt.toNat ((sa s 221 (s.1 26).toInt.toNat a1).1 7)) 224 ((sa (sa s 221 (s.1 26).toInt.toNat a1) 222 ((sa s 221 (s.1 26).toInt.toNat a1).1 26).toInt.toNat ((sa s 221 (s.1 26).toInt.toNat a1).1 7)).1 26).toInt.toNat (-1)).1 26).toInt.toNat (-1)).1 26).toInt.toNat 0) 227 ((sa (sa (sa (sa (sa s 221 (s.1 26).toInt.toNat a1) 222 ((sa s 221 (s.1 26).toInt.toNat a1).1 26).toInt.toNat ((sa s 221 (s.1 26).toInt.toNat a1).1 7)) 224 ((sa (sa s 221 (s.1 26).toInt.toNat a1) 222 ((sa s 221 (s.1 26).toInt.toNat a1).1 26).toInt.toNat ((sa s 221 (s.1 26).toInt.toNat a1).1 7)).1 26).toInt.toNat (-1)) 225 ((sa (sa (sa s 221 (s.1 26).toInt.toNat a1) 222 ((sa s 221 (s.1 26).toInt.toNat a1).1 26).toInt.toNat ((sa s 221 (s.1 26).toInt.toNat a1).1 7)) 224 ((sa (sa s 221 (s.1 26).toInt.toNat a1) 222 ((sa s 221 (s.1 26).toInt.toNat a1).1 26).toInt.toNat ((sa s 221 (s.1 26).toInt.toNat a1).1 7)).1 26).toInt.toNat (-1)).1 26).toInt.toNat (-1)) 226 ((sa (sa (sa (sa s 221 (s.1 26).toInt.toNat a1) 222 ((sa s 221 (s.1 26).toInt.toNat a1).1 26).toInt.toNat ((sa s 221 (s.1 26).toInt.toNat a1).1 7)) 224 ((sa (sa s 221 (s.1 26).toInt.toNat a1) 222 ((sa s 221 (s.1 26).toInt.toNat a1).1 26).toInt.toNat ((sa s 221 (s.1 26).toInt.toNat a1).1 7)).1 26).toInt.toNat (-1)) 225 ((sa (sa (sa s 221 (s.1 26).toInt.toNat a1) 222 ((sa s 221 (s.1 26).toInt.toNat a1).1 26).toInt.toNat ((sa s 221 (s.1 26).toInt.toNat a1).1 7)) 224 ((sa (sa s 221 (s.1 26).toInt.toNat a1) 222 ((sa s 221 (s.1 26).toInt.toNat a1).1 26).toInt.toNat ((sa s 221 (s.1 26).toInt.toNat a1).1 7)).1 26).toInt.toNat (-1)).1 26).toInt.toNat (-1)).1 26).toInt.toNat 0).1 26).toInt.toNat (-1)).1 26).toInt.toNat (-1)) 229 ((sa (sa (sa (sa (sa (sa (sa s 221 (s.1 26).toInt.toNat a1) 222 ((sa s 221 (s.1 26).toInt.toNat a1).1 26).toInt.toNat ((sa s 221 (s.1 26).toInt.toNat a1).1 7)) 224 ((sa (sa s 221 (s.1 26).toInt.toNat a1) 222 ((sa s 221 (s.1 26).toInt.toNat a1).1 26).toInt.toNat ((sa s 221 (s.1 26).toInt.toNat a1).1 7)).1 26).toInt.toNat (-1)) 225 ((sa (sa (sa s 221 (s.1 26).toInt.toNat a1) 222 ((sa s 221 (s.1 26).toInt.toNat a1).1 26).toInt.toNat ((sa s 221 (s.1 26).toInt.toNat a1).1 7)) 224 ((sa (sa s 221 (s.1 26).toInt.toNat a1) 222 ((sa s 221 (s.1 26).toInt.toNat a1).1 26).toInt.toNat ((sa s 221 (s.1 26).toInt.toNat a1).1 7)).1 26).toInt.toNat (-1)).1 26).toInt.toNat (-1)) 226 ((sa (sa (sa (sa s 221 (s.1 26).toInt.toNat a1) 222 ((sa s 221 (s.1 26).toInt.toNat a1).1 26).toInt.toNat ((sa s 221 (s.1 26).toInt.toNat a1).1 7)) 224 ((sa (sa s 221 (s.1 26).toInt.toNat a1) 222 ((sa s 221 (s.1 26).toInt.toNat a1).1 26).toInt.toNat ((sa s 221 (s.1 26).toInt.toNat a1).1 7)).1 26).toInt.toNat (-1)) 225 ((sa (sa (sa s 221 (s.1 26).toInt.toNat a1) 222 ((sa s 221 (s.1 26).toInt.toNat a1).1 26).toInt.toNat ((sa s 221 (s.1 26).toInt.toNat a1).1 7)) 224 ((sa (sa s 221 (s.1 26).toInt.toNat a1) 222 ((sa s 221 (s.1 26).toInt.toNat a1).1 26).toInt.toNat ((sa s 221 (s.1 26).toInt.toNat a1).1 7)).1 26).toInt.toNat (-1)).1 26).toInt.toNat (-1)).1 26).toInt.toNat 0) 227 ((sa (sa (sa (sa (sa s 221 (s.1 26).toInt.toNat a1) 222 ((sa s 221 (s.1 26).toInt.toNat a1).1 26).toInt.toNat ((sa s 221 (s.1 26).toInt.toNat a1).1 7)) 224 ((sa (sa s 221 (s.1 26).toInt.toNat a1) 222 ((sa s 221 (s.1 26).toInt.toNat a1).1 26).toInt.toNat ((sa s 221 (s.1 26).toInt.toNat a1).1 7)).1 26).toInt.toNat (-1)) 225 ((sa (sa (sa s 221 (s.1 26).toInt.toNat a1) 222 ((sa s 221 (s.1 26).toInt.toNat a1).1 26).toInt.toNat ((sa s 221 (s.1 26).toInt.toNat a1).1 7)) 224 ((sa (sa s 221 (s.1 26).toInt.toNat a1) 222 ((sa s 221 (s.1 26).toInt.toNat a1).1 26).toInt.toNat ((sa s 221 (s.1 26).toInt.toNat a1).1 7)).1 26).toInt.toNat (-1)).1 26).toInt.toNat (-1)) 226 ((sa (sa (sa (sa s 221 (s.1 26).toInt.toNat a1) 222 ((sa s 221 (s.1 26).toInt.toNat a1).1 26).toInt.toNat ((sa s 221 (s.1 26).toInt.toNat a1).1 7)) 224 ((sa (sa s 221 (s.1 26).toInt.toNat a1) 222 ((sa s 221 (s.1 26).toInt.toNat a1).1 26).toInt.toNat ((sa s 221 (s.1 26).toInt.toNat a1).1 7)).1 26).toInt.toNat (-1)) 225 ((sa (sa (sa s 221 (s.1 26).toInt.toNat a1) 222 ((sa s 221 (s.1 26).toInt.toNat a1).1 26).toInt.toNat ((sa s 221 (s.1 26).toInt.toNat a1).1 7)) 224 ((sa (sa s 221 (s.1 26).toInt.toNat a1) 222 ((sa s 221 (s.1 26).toInt.toNat a1).1 26).toInt.toNat ((sa s 221 (s.1 26).toInt.toNat a1).1 7)).1 26).toInt.toNat (-1)).1 26).toInt.toNat (-1)).1 26).toInt.toNat 0).1 26).toInt.toNat (-1)) 228 ((sa (sa (sa (sa (sa (sa s 221 (s.1 26).toInt.toNat a1) 222 ((sa s 221 (s.1 26).toInt.toNat a1).1 26).toInt.toNat ((sa s 221 (s.1 26).toInt.toNat a1).1 7)) 224 ((sa (sa s 221 (s.1 26).toInt.toNat a1) 222 ((sa s 221 (s.1 26).toInt.toNat a1).1 26).toInt.toNat ((sa s 221 (s.1 26).toInt.toNat a1).1 7)).1 26).toInt.toNat (-1)) 225 ((sa (sa (sa s 221 (s.1 26).toInt.toNat a1) 222 ((sa s 221 (s.1 26).toInt.toNat a1).1 26).toInt.toNat ((sa s 221 (s.1 26).toInt.toNat a1).1 7)) 224 ((sa (sa s 221 (s.1 26).toInt.toNat a1) 222 ((sa s 221 (s.1 26).toInt.toNat a1).1 26).toInt.toNat ((sa s 221 (s.1 26).toInt.toNat a1).1 7)).1 26).toInt.toNat (-1)).1 26).toInt.toNat (-1)) 226 ((sa (sa (sa (sa s 221 (s.1 26).toInt.toNat a1) 222 ((sa s 221 (s.1 26).toInt.toNat a1).1 26).toInt.toNat ((sa s 221 (s.1 26).toInt.toNat a1).1 7)) 224 ((sa (sa s 221 (s.1 26).toInt.toNat a1) 222 ((sa s 221 (s.1 26).toInt.toNat a1).1 26).toInt.toNat ((sa s 221 (s.1 26).toInt.toNat a1).1 7)).1 26).toInt.toNat (-1)) 225 ((sa (sa (sa s 221 (s.1 26).toInt.toNat a1) 222 ((sa s 221 (s.1 26).toInt.toNat a1).1 26).toInt.toNat ((sa s 221 (s.1 26).toInt.toNat a1).1 7)) 224 ((sa (sa s 221 (s.1 26).toInt.toNat a1) 222 ((sa s 221 (s.1 26).toInt.toNat a1).1 26).toInt.toNat ((sa s 221 (s.1 26).toInt.toNat a1).1 7)).1 26).toInt.toNat (-1)).1 26).toInt.toNat (-1)).1 26).toInt.toNat 0) 227 ((sa (sa (sa (sa (sa s 221 (s.1 26).toInt.toNat a1) 222 ((sa s 221 (s.1 26).toInt.toNat a1).1 26).toInt.toNat ((sa s 221 (s.1 26).toInt.toNat a1).1 7)) 224 ((sa (sa s 221 (s.1 26).toInt.toNat a1) 222 ((sa s 221 (s.1 26).toInt.toNat a1).1 26).toInt.toNat ((sa s 221 (s.1 26).toInt.toNat a1).1 7)).1 26).toInt.toNat (-1)) 225 ((sa (sa (sa s 221 (s.1 26).toInt.toNat a1) 222 ((sa s 221 (s.1 26).toInt.toNat a1).1 26).toInt.toNat ((sa s 221 (s.1 26).toInt.toNat a1).1 7)) 224 ((sa (sa s 221 (s.1 26).toInt.toNat a1) 222 ((sa s 221 (s.1 26).toInt.toNat a1).1 26).toInt.toNat ((sa s 221 (s.1 26).toInt.toNat a1).1 7)).1 26).toInt.toNat (-1)).1 26).toInt.toNat (-1)) 226 ((sa (sa (sa (sa s 221 (s.1 26).toInt.toNat a1) 222 ((sa s 221 (s.1 26).toInt.toNat a1).1 26).toInt.toNat ((sa s 221 (s.1 26).toInt.toNat a1).1 7)) 224 ((sa (sa s 221 (s.1 26).toInt.toNat a1) 222 ((sa s 221 (s.1 26).toInt.toNat a1).1 26).toInt.toNat ((sa s 221 (s.1 26).toInt.toNat a1).1 7)).1 26).toInt.toNat (-1)) 225 ((sa (sa (sa s 221 (s.1 26).toInt.toNat a1) 222 ((sa s 221 (s.1 26).toInt.toNat a1).1 26).toInt.toNat ((sa s 221 (s.1 26).toInt.toNat a1).1 7)) 224 ((sa (sa s 221 (s.1 26).toInt.toNat a1) 222 ((sa s 221 (s.1 26).toInt.toNat a1).1 26).toInt.toNat ((sa s 221 (s.1 26).toInt.toNat a1).1 7)).1 26).toInt.toNat (-1)).1 26).toInt.toNat (-1)).1 26).toInt.toNat 0).1 26).toInt.toNat (-1)).1 26).toInt.toNat (-1)).1 26).toInt.toNat (-1)) 230 ((sa (sa (sa (sa (sa (sa (sa (sa s 221 (s.1 26).toInt.toNat a1) 222 ((sa s 221 (s.1 26).toInt.toNat a1).1 26).toInt.toNat ((sa s 221 (s.1 26).toInt.toNat a1).1 7)) 224 ((sa (sa s 221 (s.1 26).toInt.toNat a1) 222 ((sa s 221 (s.1 26).toInt.toNat a1).1 26).toInt.toNat ((sa s 221 (s.1 26).toInt.toNat a1).1 7)).1 26).toInt.toNat (-1)) 225 ((sa (sa (sa s 221 (s.1 26).toInt.toNat a1) 222 ((sa s 221 (s.1 26).toInt.toNat a1).1 26).toInt.toNat ((sa s 221 (s.1 26).toInt.toNat a1).1 7)) 224 ((sa (sa s 221 (s.1 26).toInt.toNat a1) 222 ((sa s 221 (s.1 26).toInt.toNat a1).1 26).toInt.toNat ((sa s 221 (s.1 26).toInt.toNat a1).1 7)).1 26).toInt.toNat (-1)).1 26).toInt.toNat (-1)) 226 ((sa (sa (sa (sa s 221 (s.1 26).toInt.toNat a1) 222 ((sa s 221 (s.1 26).toInt.toNat a1).1 26).toInt.toNat ((sa s 221 (s.1 26).toInt.toNat a1).1 7)) 224 ((sa (sa s 221 (s.1 26).toInt.toNat a1) 222 ((sa s 221 (s.1 26).toInt.toNat a1).1 26).toInt.toNat ((sa s 221 (s.1 26).toInt.toNat a1).1 7)).1 26).toInt.toNat (-1)) 225 ((sa (sa (sa s 221 (s.1 26).toInt.toNat a1) 222 ((sa s 221 (s.1 26).toInt.toNat a1).1 26).toInt.toNat ((sa s 221 (s.1 26).toInt.toNat a1).1 7)) 224 ((sa (sa s 221 (s.1 26).toInt.toNat a1) 222 ((sa s 221 (s.1 26).toInt.toNat a1).1 26).toInt.toNat ((sa s 221 (s.1 26).toInt.toNat a1).1 7)).1 26).toInt.toNat (-1)).1 26).toInt.toNat (-1)).1 26).toInt.toNat 0) 227 ((sa (sa (sa (sa (sa s 221 (s.1 26).toInt.toNat a1) 222 ((sa s 221 (s.1 26).toInt.toNat a1).1 26).toInt.toNat ((sa s 221 (s.1 26).toInt.toNat a1).1 7)) 224 ((sa (sa s 221 (s.1 26).toInt.toNat a1) 222 ((sa s 221 (s.1 26).toInt.toNat a1).1 26).toInt.toNat ((sa s 221 (s.1 26).toInt.toNat a1).1 7)).1 26).toInt.toNat (-1)) 225 ((sa (sa (sa s 221 (s.1 26).toInt.toNat a1) 222 ((sa s 221 (s.1 26).toInt.toNat a1).1 26).toInt.toNat ((sa s 221 (s.1 26).toInt.toNat a1).1 7)) 224 ((sa (sa s 221 (s.1 26).toInt.toNat a1) 222 ((sa s 221 (s.1 26).toInt.toNat a1).1 26).toInt.toNat ((sa s 221 (s.1 26).toInt.toNat a1).1 7)).1 26).toInt.toNat (-1)).1 26).toInt.toNat (-1)) 226 ((sa (sa (sa (sa s 221 (s.1 26).toInt.toNat a1) 222 ((sa s 221 (s.1 26).toInt.toNat a1).1 26).toInt.toNat ((sa s 221 (s.1 26).toInt.toNat a1).1 7)) 224 ((sa (sa s 221 (s.1 26).toInt.toNat a1) 222 ((sa s 221 (s.1 26).toInt.toNat a1).1 26).toInt.toNat ((sa s 221 (s.1 26).toInt.toNat a1).1 7)).1 26).toInt.toNat (-1)) 225 ((sa (sa (sa s 221 (s.1 26).toInt.toNat a1) 222 ((sa s 221 (s.1 26).toInt.toNat a1).1 26).toInt.toNat ((sa s 221 (s.1 26).toInt.toNat a1).1 7)) 224 ((sa (sa s 221 (s.1 26).toInt.toNat a1) 222 ((sa s 221 (s.1 26).toInt.toNat a1).1 26).toInt.toNat ((sa s 221 (s.1 26).toInt.toNat a1).1 7)).1 26).toInt.toNat (-1)).1 26).toInt.toNat (-1)).1 26).toInt.toNat 0).1 26).toInt.toNat (-1)) 228 ((sa (sa (sa (sa (sa (sa s 221 (s.1 26).toInt.toNat a1) 222 ((sa s 221 (s.1 26).toInt.toNat a1).1 26).toInt.toNat ((sa s 221 (s.1 26).toInt.toNat a1).1 7)) 224 ((sa (sa s 221 (s.1 26).toInt.toNat a1) 222 ((sa s 221 (s.1 26).toInt.toNat a1).1 26).toInt.toNat ((sa s 221 (s.1 26).toInt.toNat a1).1 7)).1 26).toInt.toNat (-1)) 225 ((sa (sa (sa s 221 (s.1 26).toInt.toNat a1) 222 ((sa s 221 (s.1 26).toInt.toNat a1).1 26).toInt.toNat ((sa s 221 (s.1 26).toInt.toNat a1).1 7)) 224 ((sa (sa s 221 (s.1 26).toInt.toNat a1) 222 ((sa s 221 (s.1 26).toInt.toNat a1).1 26).toInt.toNat ((sa s 221 (s.1 26).toInt.toNat a1).1 7)).1 26).toInt.toNat (-1)).1 26).toInt.toNat (-1)) 226 ((sa (sa (sa (sa s 221 (s.1 26).toInt.toNat a1) 222 ((sa s 221 (s.1 26).toInt.toNat a1).1 26).toInt.toNat ((sa s 221 (s.1 26).toInt.toNat a1).1 7)) 224 ((sa (sa s 221 (s.1 26).toInt.toNat a1) 222 ((sa s 221 (s.1 26).toInt.toNat a1).1 26).toInt.toNat ((sa s 221 (s.1 26).toInt.toNat a1).1 7)).1 26).toInt.toNat (-1)) 225 ((sa (sa (sa s 221 (s.1 26).toInt.toNat a1) 222 ((sa s 221 (s.1 26).toInt.toNat a1).1 26).toInt.toNat ((sa s 221 (s.1 26).toInt.toNat a1).1 7)) 224 ((sa (sa s 221 (s.1 26).toInt.toNat a1) 222 ((sa s 221 (s.1 26).toInt.toNat a1).1 26).toInt.toNat ((sa s 221 (s.1 26).toInt.toNat a1).1 7)).1 26).toInt.toNat (-1)).1 26).toInt.toNat (-1)).1 26).toInt.toNat 0) 227 ((sa (sa (sa (sa (sa s 221 (s.1 26).toInt.toNat a1) 222 ((sa s 221 (s.1 26).toInt.toNat a1).1 26).toInt.toNat ((sa s 221 (s.1 26).toInt.toNat a1).1 7)) 224 ((sa (sa s 221 (s.1 26).toInt.toNat a1) 222 ((sa s 221 (s.1 26).toInt.toNat a1).1 26).toInt.toNat ((sa s 221 (s.1 26).toInt.toNat a1).1 7)).1 26).toInt.toNat (-1)) 225 ((sa (sa (sa s 221 (s.1 26).toInt.toNat a1) 222 ((sa s 221 (s.1 26).toInt.toNat a1).1 26).toInt.toNat ((sa s 221 (s.1 26).toInt.toNat a1).1 7)) 224 ((sa (sa s 221 (s.1 26).toInt.toNat a1) 222 ((sa s 221 (s.1 26).toInt.toNat a1).1 26).toInt.toNat ((sa s 221 (s.1 26).toInt.toNat a1).1 7)).1 26).toInt.toNat (-1)).1 26).toInt.toNat (-1)) 226 ((sa (sa (sa (sa s 221 (s.1 26).toInt.toNat a1) 222 ((sa s 221 (s.1 26).toInt.toNat a1).1 26).toInt.toNat ((sa s 221 (s.1 26).toInt.toNat a1).1 7)) 224 ((sa (sa s 221 (s.1 26).toInt.toNat a1) 222 ((sa s 221 (s.1 26).toInt.toNat a1).1 26).toInt.toNat ((sa s 221 (s.1 26).toInt.toNat a1).1 7)).1 26).toInt.toNat (-1)) 225 ((sa (sa (sa s 221 (s.1 26).toInt.toNat a1) 222 ((sa s 221 (s.1 26).toInt.toNat a1).1 26).toInt.toNat ((sa s 221 (s.1 26).toInt.toNat a1).1 7)) 224 ((sa (sa s 221 (s.1 26).toInt.toNat a1) 222 ((sa s 221 (s.1 26).toInt.toNat a1).1 26).toInt.toNat ((sa s 221 (s.1 26).toInt.toNat a1).1 7)).1 26).toInt.toNat (-1)).1 26).toInt.toNat (-1)).1 26).toInt.toNat 0).1 26).toInt.toNat (-1)).1 26).toInt.toNat (-1)) 229 ((sa (sa (sa (sa (sa (sa (sa s 221 (s.1 26).toInt.toNat a1) 222 ((sa s 221 (s.1 26).toInt.toNat a1).1 26).toInt.toNat ((sa s 221 (s.1 26).toInt.toNat a1).1 7)) 224 ((sa (sa s 221 (s.1 26).toInt.toNat a1) 222 ((sa s 221 (s.1 26).toInt.toNat a1).1 26).toInt.toNat ((sa s 221 (s.1 26).toInt.toNat a1).1 7)).1 26).toInt.toNat (-1)) 225 ((sa (sa (sa s 221 (s.1 26).toInt.toNat a1) 222 ((sa s 221 (s.1 26).toInt.toNat a1).1 26).toInt.toNat ((sa s 221 (s.1 26).toInt.toNat a1).1 7)) 224 ((sa (sa s 221 (s.1 26).toInt.toNat a1) 222 ((sa s 221 (s.1 26).toInt.toNat a1).1 26).toInt.toNat ((sa s 221 (s.1 26).toInt.toNat a1).1 7)).1 26).toInt.toNat (-1)).1 26).toInt.toNat (-1)) 226 ((sa (sa (sa (sa s 221 (s.1 26).toInt.toNat a1) 222 ((sa s 221 (s.1 26).toInt.toNat a1).1 26).toInt.toNat ((sa s 221 (s.1 26).toInt.toNat a1).1 7)) 224 ((sa (sa s 221 (s.1 26).toInt.toNat a1) 222 ((sa s 221 (s.1 26).toInt.toNat a1).1 26).toInt.toNat ((sa s 221 (s.1 26).toInt.toNat a1).1 7)).1 26).toInt.toNat (-1)) 225 ((sa (sa (sa s 221 (s.1 26).toInt.toNat a1) 222 ((sa s 221 (s.1 26).toInt.toNat a1).1 26).toInt.toNat ((sa s 221 (s.1 26).toInt.toNat a1).1 7)) 224 ((sa (sa s 221 (s.1 26).toInt.toNat a1) 222 ((sa s 221 (s.1 26).toInt.toNat a1).1 26).toInt.toNat ((sa s 221 (s.1 26).toInt.toNat a1).1 7)).1 26).toInt.toNat (-1)).1 26).toInt.toNat (-1)).1 26).toInt.toNat 0) 227 ((sa (sa (sa (sa (sa s 221 (s.1 26).toInt.toNat a1) 222 ((sa s 221 (s.1 26).toInt.toNat a1).1 26).toInt.toNat ((sa s 221 (s.1 26).toInt.toNat a1).1 7)) 224 ((sa (sa s 221 (s.1 26).toInt.toNat a1) 222 ((sa s 221 (s.1 26).toInt.toNat a1).1 26).toInt.toNat ((sa s 221 (s.1 26).toInt.toNat a1).1 7)).1 26).toInt.toNat (-1)) 225 ((sa (sa (sa s 221 (s.1 26).toInt.toNat a1) 222 ((sa s 221 (s.1 26).toInt.toNat a1).1 26).toInt.toNat ((sa s 221 (s.1 26).toInt.toNat a1).1 7)) 224 ((sa (sa s 221 (s.1 26).toInt.toNat a1) 222 ((sa s 221 (s.1 26).toInt.toNat a1).1 26).toInt.toNat ((sa s 221 (s.1 26).toInt.toNat a1).1 7)).1 26).toInt.toNat (-1)).1 26).toInt.toNat (-1)) 226 ((sa (sa (sa (sa s 221 (s.1 26).toInt.toNat a1) 222 ((sa s 221 (s.1 26).toInt.toNat a1).1 26).toInt.toNat ((sa s 221 (s.1 26).toInt.toNat a1).1 7)) 224 ((sa (sa s 221 (s.1 26).toInt.toNat a1) 222 ((sa s 221 (s.1 26).toInt.toNat a1).1 26).toInt.toNat ((sa s 221 (s.1 26).toInt.toNat a1).1 7)).1 26).toInt.toNat (-1)) 225 ((sa (sa (sa s 221 (s.1 26).toInt.toNat a1) 222 ((sa s 221 (s.1 26).toInt.toNat a1).1 26).toInt.toNat ((sa s 221 (s.1 26).toInt.toNat a1).1 7)) 224 ((sa (sa s 221 (s.1 26).toInt.toNat a1) 222 ((sa s 221 (s.1 26).toInt.toNat a1).1 26).toInt.toNat ((sa s 221 (s.1 26).toInt.toNat a1).1 7)).1 26).toInt.toNat (-1)).1 26).toInt.toNat (-1)).1 26).toInt.toNat 0).1 26).toInt.toNat (-1)) 228 ((sa (sa (sa (sa (sa (sa s 221 (s.1 26).toInt.toNat a1) 222 ((sa s 221 (s.1 26).toInt.toNat a1).1 26).toInt.toNat ((sa s 221 (s.1 26).toInt.toNat a1).1 7)) 224 ((sa (sa s 221 (s.1 26).toInt.toNat a1) 222 ((sa s 221 (s.1 26).toInt.toNat a1).1 26).toInt.toNat ((sa s 221 (s.1 26).toInt.toNat a1).1 7)).1 26).toInt.toNat (-1)) 225 ((sa (sa (sa s 221 (s.1 26).toInt.toNat a1) 222 ((sa s 221 (s.1 26).toInt.toNat a1).1 26).toInt.toNat ((sa s 221 (s.1 26).toInt.toNat a1).1 7)) 224 ((sa (sa s 221 (s.1 26).toInt.toNat a1) 222 ((sa s 221 (s.1 26).toInt.toNat a1).1 26).toInt.toNat ((sa s 221 (s.1 26).toInt.toNat a1).1 7)).1 26).toInt.toNat (-1)).1 26).toInt.toNat (-1)) 226 ((sa (sa (sa (sa s 221 (s.1 26).toInt.toNat a1) 222 ((sa s 221 (s.1 26).toInt.toNat a1).1 26).toInt.toNat ((sa s 221 (s.1 26).toInt.toNat a1).1 7)) 224 ((sa (sa s 221 (s.1 26).toInt.toNat a1) 222 ((sa s 221 (s.1 26).toInt.toNat a1).1 26).toInt.toNat ((sa s 221 (s.1 26).toInt.toNat a1).1 7)).1 26).toInt.toNat (-1)) 225 ((sa (sa (sa s 221 (s.1 26).toInt.toNat a1) 222 ((sa s 221 (s.1 26).toInt.toNat a1).1 26).toInt.toNat ((sa s 221 (s.1 26).toInt.toNat a1).1 7)) 224 ((sa (sa s 221 (s.1 26).toInt.toNat a1) 222 ((sa s 221 (s.1 26).toInt.toNat a1).1 26).toInt.toNat ((sa s 221 (s.1 26).toInt.toNat a1).1 7)).1 26).toInt.toNat (-1)).1 26).toInt.toNat (-1)).1 26).toInt.toNat 0) 227 ((sa (sa (sa (sa (sa s 221 (s.1 26).toInt.toNat a1) 222 ((sa s 221 (s.1 26).toInt.toNat a1).1 26).toInt.toNat ((sa s 221 (s.1 26).toInt.toNat a1).1 7)) 224 ((sa (sa s 221 (s.1 26).toInt.toNat a1) 222 ((sa s 221 (s.1 26).toInt.toNat a1).1 26).toInt.toNat ((sa s 221 (s.1 26).toInt.toNat a1).1 7)).1 26).toInt.toNat (-1)) 225 ((sa (sa (sa s 221 (s.1 26).toInt.toNat a1) 222 ((sa s 221 (s.1 26).toInt.toNat a1).1 26).toInt.toNat ((sa s 221 (s.1 26).toInt.toNat a1).1 7)) 224 ((sa (sa s 221 (s.1 26).toInt.toNat a1) 222 ((sa s 221 (s.1 26).toInt.toNat a1).1 26).toInt.toNat ((sa s 221 (s.1 26).toInt.toNat a1).1 7)).1 26).toInt.toNat (-1)).1 26).toInt.toNat (-1)) 226 ((sa (sa (sa (sa s 221 (s.1 26).toInt.toNat a1) 222 ((sa s 221 (s.1 26).toInt.toNat a1).1 26).toInt.toNat ((sa s 221 (s.1 26).toInt.toNat a1).1 7)) 224 ((sa (sa s 221 (s.1 26).toInt.toNat a1) 222 ((sa s 221 (s.1 26).toInt.toNat a1).1 26).toInt.toNat ((sa s 221 (s.1 26).toInt.toNat a1).1 7)).1 26).toInt.toNat (-1)) 225 ((sa (sa (sa s 221 (s.1 26).toInt.toNat a1) 222 ((sa s 221 (s.1 26).toInt.toNat a1).1 26).toInt.toNat ((sa s 221 (s.1 26).toInt.toNat a1).1 7)) 224 ((sa (sa s 221 (s.1 26).toInt.toNat a1) 222 ((sa s 221 (s.1 26).toInt.toNat a1).1 26).toInt.toNat ((sa s 221 (s.1 26).toInt.toNat a1).1 7)).1 26).toInt.toNat (-1)).1 26).toInt.toNat (-1)).1 26).toInt.toNat 0).1 26).toInt.toNat (-1)).1 26).toInt.toNat (-1)).1 26).toInt.toNat (-1)).1 26).toInt.toNat 0).1 26) (y := 1) rfl (show (1 : Int32).toInt = 1 by decide) h.1
  replace h := h.2 _ ex10
  refine g_c [.int (((sa (sa (sa (sa (sa (sa (sa (sa (sa s 221 (s.1 26).toInt.toNat a1) 222 ((sa s 221 (s.1 26).toInt.toNat a1).1 26).toInt.toNat ((sa s 221 (s.1 26).toInt.toNat a1).1 7)) 224 ((sa (sa s 221 (s.1 26).toInt.toNat a1) 222 ((sa s 221 (s.1 26).toInt.toNat a1).1 26).toInt.toNat ((sa s 221 (s.1 26).toInt.toNat a1).1 7)).1 26).toInt.toNat (-1)) 225 ((sa (sa (sa s 221 (s.1 26).toInt.toNat a1) 222 ((sa s 221 (s.1 26).toInt.toNat a1).1 26).toInt.toNat ((sa s 221 (s.1 26).toInt.toNat a1).1 7)) 224 ((sa (sa s 221 (s.1 26).toInt.toNat a1) 222 ((sa s 221 (s.1 26).toInt.toNat a1).1 26).toInt.toNat ((sa s 221 (s.1 26).toInt.toNat a1).1 7)).1 26).toInt.toNat (-1)).1 26).toInt.toNat (-1)) 226 ((sa (sa (sa (sa s 221 (s.1 26).toInt.toNat a1) 222 ((sa s 221 (s.1 26).toInt.toNat a1).1 26).toInt.toNat ((sa s 221 (s.1 26).toInt.toNat a1).1 7)) 224 ((sa (sa s 221 (s.1 26).toInt.toNat a1) 222 ((sa s 221 (s.1 26).toInt.toNat a1).1 26).toInt.toNat ((sa s 221 (s.1 26).toInt.toNat a1).1 7)).1 26).toInt.toNat (-1)) 225 ((sa (sa (sa s 221 (s.1 26).toInt.toNat a1) 222 ((sa s 221 (s.1 26).toInt.toNat a1).1 26).toInt.toNat ((sa s 221 (s.1 26).toInt.toNat a1).1 7)) 224 ((sa (sa s 221 (s.1 26).toInt.toNat a1) 222 ((sa s 221 (s.1 26).toInt.toNat a1).1 26).toInt.toNat ((sa s 221 (s.1 26).toInt.toNat a1).1 7)).1 26).toInt.toNat (-1)).1 26).toInt.toNat (-1)).1 26).toInt.toNat 0) 227 ((sa (sa (sa (sa (sa s 221 (s.1 26).toInt.toNat a1) 222 ((sa s 221 (s.1 26).toInt.toNat a1).1 26).toInt.toNat ((sa s 221 (s.1 26).toInt.toNat a1).1 7)) 224 ((sa (sa s 221 (s.1 26).toInt.toNat a1) 222 ((sa s 221 (s.1 26).toInt.toNat a1).1 26).toInt.toNat ((sa s 221 (s.1 26).toInt.toNat a1).1 7)).1 26).toInt.toNat (-1)) 225 ((sa (sa (sa s 221 (s.1 26).toInt.toNat a1) 222 ((sa s 221 (s.1 26).toInt.toNat a1).1 26).toInt.toNat ((sa s 221 (s.1 26).toInt.toNat a1).1 7)) 224 ((sa (sa s 221 (s.1 26).toInt.toNat a1) 222 ((sa s 221 (s.1 26).toInt.toNat a1).1 26).toInt.toNat ((sa s 221 (s.1 26).toInt.toNat a1).1 7)).1 26).toInt.toNat (-1)).1 26).toInt.toNat (-1)) 226 ((sa (sa (sa (sa s 221 (s.1 26).toInt.toNat a1) 222 ((sa s 221 (s.1 26).toInt.toNat a1).1 26).toInt.toNat ((sa s 221 (s.1 26).toInt.toNat a1).1 7)) 224 ((sa (sa s 221 (s.1 26).toInt.toNat a1) 222 ((sa s 221 (s.1 26).toInt.toNat a1).1 26).toInt.toNat ((sa s 221 (s.1 26).toInt.toNat a1).1 7)).1 26).toInt.toNat (-1)) 225 ((sa (sa (sa s 221 (s.1 26).toInt.toNat a1) 222 ((sa s 221 (s.1 26).toInt.toNat a1).1 26).toInt.toNat ((sa s 221 (s.1 26).toInt.toNat a1).1 7)) 224 ((sa (sa s 221 (s.1 26).toInt.toNat a1) 222 ((sa s 221 (s.1 26).toInt.toNat a1).1 26).toInt.toNat ((sa s 221 (s.1 26).toInt.toNat a1).1 7)).1 26).toInt.toNat (-1)).1 26).toInt.toNat (-1)).1 26).toInt.toNat 0).1 26).toInt.toNat (-1)) 228 ((sa (sa (sa (sa (sa (sa s 221 (s.1 26).toInt.toNat a1) 222 ((sa s 221 (s.1 26).toInt.toNat a1).1 26).toInt.toNat ((sa s 221 (s.1 26).toInt.toNat a1).1 7)) 224 ((sa (sa s 221 (s.1 26).toInt.toNat a1) 222 ((sa s 221 (s.1 26).toInt.toNat a1).1 26).toInt.toNat ((sa s 221 (s.1 26).toInt.toNat a1).1 7)).1 26).toInt.toNat (-1)) 225 ((sa (sa (sa s 221 (s.1 26).toInt.toNat a1) 222 ((sa s 221 (s.1 26).toInt.toNat a1).1 26).toInt.toNat ((sa s 221 (s.1 26).toInt.toNat a1).1 7)) 224 ((sa (sa s 221 (s.1 26).toInt.toNat a1) 222 ((sa s 221 (s.1 26).toInt.toNat a1).1 26).toInt.toNat ((sa s 221 (s.1 26).toInt.toNat a1).1 7)).1 26).toInt.toNat (-1)).1 26).toInt.toNat (-1)) 226 ((sa (sa (sa (sa s 221 (s.1 26).toInt.toNat a1) 222 ((sa s 221 (s.1 26).toInt.toNat a1).1 26).toInt.toNat ((sa s 221 (s.1 26).toInt.toNat a1).1 7)) 224 ((sa (sa s 221 (s.1 26).toInt.toNat a1) 222 ((sa s 221 (s.1 26).toInt.toNat a1).1 26).toInt.toNat ((sa s 221 (s.1 26).toInt.toNat a1).1 7)).1 26).toInt.toNat (-1)) 225 ((sa (sa (sa s 221 (s.1 26).toInt.toNat a1) 222 ((sa s 221 (s.1 26).toInt.toNat a1).1 26).toInt.toNat ((sa s 221 (s.1 26).toInt.toNat a1).1 7)) 224 ((sa (sa s 221 (s.1 26).toInt.toNat a1) 222 ((sa s 221 (s.1 26).toInt.toNat a1).1 26).toInt.toNat ((sa s 221 (s.1 26).toInt.toNat a1).1 7)).1 26).toInt.toNat (-1)).1 26).toInt.toNat (-1)).1 26).toInt.toNat 0) 227 ((sa (sa (sa (sa (sa s 221 (s.1 26).toInt.toNat a1) 222 ((sa s 221 (s.1 26).toInt.toNat a1).1 26).toInt.toNat ((sa s 221 (s.1 26).toInt.toNat a1).1 7)) 224 ((sa (sa s 221 (s.1 26).toInt.toNat a1) 222 ((sa s 221 (s.1 26).toInt.toNat a1).1 26).toInt.toNat ((sa s 221 (s.1 26).toInt.toNat a1).1 7)).1 26).toInt.toNat (-1)) 225 ((sa (sa (sa s 221 (s.1 26).toInt.toNat a1) 222 ((sa s 221 (s.1 26).toInt.toNat a1).1 26).toInt.toNat ((sa s 221 (s.1 26).toInt.toNat a1).1 7)) 224 ((sa (sa s 221 (s.1 26).toInt.toNat a1) 222 ((sa s 221 (s.1 26).toInt.toNat a1).1 26).toInt.toNat ((sa s 221 (s.1 26).toInt.toNat a1).1 7)).1 26).toInt.toNat (-1)).1 26).toInt.toNat (-1)) 226 ((sa (sa (sa (sa s 221 (s.1 26).toInt.toNat a1) 222 ((sa s 221 (s.1 26).toInt.toNat a1).1 26).toInt.toNat ((sa s 221 (s.1 26).toInt.toNat a1).1 7)) 224 ((sa (sa s 221 (s.1 26).toInt.toNat a1) 222 ((sa s 221 (s.1 26).toInt.toNat a1).1 26).toInt.toNat ((sa s 221 (s.1 26).toInt.toNat a1).1 7)).1 26).toInt.toNat (-1)) 225 ((sa (sa (sa s 221 (s.1 26).toInt.toNat a1) 222 ((sa s 221 (s.1 26).toInt.toNat a1).1 26).toInt.toNat ((sa s 221 (s.1 26).toInt.toNat a1).1 7)) 224 ((sa (sa s 221 (s.1 26).toInt.toNat a1) 222 ((sa s 221 (s.1 26).toInt.toNat a1).1 26).toInt.toNat ((sa s 221 (s.1 26).toInt.toNat a1).1 7)).1 26).toInt.toNat (-1)).1 26).toInt.toNat (-1)).1 26).toInt.toNat 0).1 26).toInt.toNat (-1)).1 26).toInt.toNat (-1)) 229 ((sa (sa (sa (sa (sa (sa (sa s 221 (s.1 26).toInt.toNat a1) 222 ((sa s 221 (s.1 26).toInt.toNat a1).1 26).toInt.toNat ((sa s 221 (s.1 26).toInt.toNat a1).1 7)) 224 ((sa (sa s 221 (s.1 26).toInt.toNat a1) 222 ((sa s 221 (s.1 26).toInt.toNat a1).1 26).toInt.toNat ((sa s 221 (s.1 26).toInt.toNat a1).1 7)).1 26).toInt.toNat (-1)) 225 ((sa (sa (sa s 221 (s.1 26).toInt.toNat a1) 222 ((sa s 221 (s.1 26).toInt.toNat a1).1 26).toInt.toNat ((sa s 221 (s.1 26).toInt.toNat a1).1 7)) 224 ((sa (sa s 221 (s.1 26).toInt.toNat a1) 222 ((sa s 221 (s.1 26).toInt.toNat a1).1 26).toInt.toNat ((sa s 221 (s.1 26).toInt.toNat a1).1 7)).1 26).toInt.toNat (-1)).1 26).toInt.toNat (-1)) 226 ((sa (sa (sa (sa s 221 (s.1 26).toInt.toNat a1) 222 ((sa s 221 (s.1 26).toInt.toNat a1).1 26).toInt.toNat ((sa s 221 (s.1 26).toInt.toNat a1).1 7)) 224 ((sa (sa s 221 (s.1 26).toInt.toNat a1) 222 ((sa s 221 (s.1 26).toInt.toNat a1).1 26).toInt.toNat ((sa s 221 (s.1 26).toInt.toNat a1).1 7)).1 26).toInt.toNat (-1)) 225 ((sa (sa (sa s 221 (s.1 26).toInt.toNat a1) 222 ((sa s 221 (s.1 26).toInt.toNat a1).1 26).toInt.toNat ((sa s 221 (s.1 26).toInt.toNat a1).1 7)) 224 ((sa (sa s 221 (s.1 26).toInt.toNat a1) 222 ((sa s 221 (s.1 26).toInt.toNat a1).1 26).toInt.toNat ((sa s 221 (s.1 26).toInt.toNat a1).1 7)).1 26).toInt.toNat (-1)).1 26).toInt.toNat (-1)).1 26).toInt.toNat 0) 227 ((sa (sa (sa (sa (sa s 221 (s.1 26).toInt.toNat a1) 222 ((sa s 221 (s.1 26).toInt.toNat a1).1 26).toInt.toNat ((sa s 221 (s.1 26).toInt.toNat a1).1 7)) 224 ((sa (sa s 221 (s.1 26).toInt.toNat a1) 222 ((sa s 221 (s.1 26).toInt.toNat a1).1 26).toInt.toNat ((sa s 221 (s.1 26).toInt.toNat a1).1 7)).1 26).toInt.toNat (-1)) 225 ((sa (sa (sa s 221 (s.1 26).toInt.toNat a1) 222 ((sa s 221 (s.1 26).toInt.toNat a1).1 26).toInt.toNat ((sa s 221 (s.1 26).toInt.toNat a1).1 7)) 224 ((sa (sa s 221 (s.1 26).toInt.toNat a1) 222 ((sa s 221 (s.1 26).toInt.toNat a1).1 26).toInt.toNat ((sa s 221 (s.1 26).toInt.toNat a1).1 7)).1 26).toInt.toNat (-1)).1 26).toInt.toNat (-1)) 226 ((sa (sa (sa (sa s 221 (s.1 26).toInt.toNat a1) 222 ((sa s 221 (s.1 26).toInt.toNat a1).1 26).toInt.toNat ((sa s 221 (s.1 26).toInt.toNat a1).1 7)) 224 ((sa (sa s 221 (s.1 26).toInt.toNat a1) 222 ((sa s 221 (s.1 26).toInt.toNat a1).1 26).toInt.toNat ((sa s 221 (s.1 26).toInt.toNat a1).1 7)).1 26).toInt.toNat (-1)) 225 ((sa (sa (sa s 221 (s.1 26).toInt.toNat a1) 222 ((sa s 221 (s.1 26).toInt.toNat a1).1 26).toInt.toNat ((sa s 221 (s.1 26).toInt.toNat a1).1 7)) 224 ((sa (sa s 221 (s.1 26).toInt.toNat a1) 222 ((sa s 221 (s.1 26).toInt.toNat a1).1 26).toInt.toNat ((sa s 221 (s.1 26).toInt.toNat a1).1 7)).1 26).toInt.toNat (-1)).1 26).toInt.toNat (-1)).1 26).toInt.toNat 0).1 26).toInt.toNat (-1)) 228 ((sa (sa (sa (sa (sa (sa s 221 (s.1 26).toInt.toNat a1) 222 ((sa s 221 (s.1 26).toInt.toNat a1).1 26).toInt.toNat ((sa s 221 (s.1 26).toInt.toNat a1).1 7)) 224 ((sa (sa s 221 (s.1 26).toInt.toNat a1) 222 ((sa s 221 (s.1 26).toInt.toNat a1).1 26).toInt.toNat ((sa s 221 (s.1 26).toInt.toNat a1).1 7)).1 26).toInt.toNat (-1)) 225 ((sa (sa (sa s 221 (s.1 26).toInt.toNat a1) 222 ((sa s 221 (s.1 26).toInt.toNat a1).1 26).toInt.toNat ((sa s 221 (s.1 26).toInt.toNat a1).1 7)) 224 ((sa (sa s 221 (s.1 26).toInt.toNat a1) 222 ((sa s 221 (s.1 26).toInt.toNat a1).1 26).toInt.toNat ((sa s 221 (s.1 26).toInt.toNat a1).1 7)).1 26).toInt.toNat (-1)).1 26).toInt.toNat (-1)) 226 ((sa (sa (sa (sa s 221 (s.1 26).toInt.toNat a1) 222 ((sa s 221 (s.1 26).toInt.toNat a1).1 26).toInt.toNat ((sa s 221 (s.1 26).toInt.toNat a1).1 7)) 224 ((sa (sa s 221 (s.1 26).toInt.toNat a1) 222 ((sa s 221 (s.1 26).toInt.toNat a1).1 26).toInt.toNat ((sa s 221 (s.1 26).toInt.toNat a1).1 7)).1 26).toInt.toNat (-1)) 225 ((sa (sa (sa s 221 (s.1 26).toInt.toNat a1) 222 ((sa s 221 (s.1 26).toInt.toNat a1).1 26).toInt.toNat ((sa s 221 (s.1 26).toInt.toNat a1).1 7)) 224 ((sa (sa s 221 (s.1 26).toInt.toNat a1) 222 ((sa s 221 (s.1 26).toInt.toNat a1).1 26).toInt.toNat ((sa s 221 (s.1 26).toInt.toNat a1).1 7)).1 26).toInt.toNat (-1)).1 26).toInt.toNat (-1)).1 26).toInt.toNat 0) 227 ((sa (sa (sa (sa (sa s 221 (s.1 26).toInt.toNat a1) 222 ((sa s 221 (s.1 26).toInt.toNat a1).1 26).toInt.toNat ((sa s 221 (s.1 26).toInt.toNat a1).1 7)) 224 ((sa (sa s 221 (s.1 26).toInt.toNat a1) 222 ((sa s 221 (s.1 26).toInt.toNat a1).1 26).toInt.toNat ((sa s 221 (s.1 26).toInt.toNat a1).1 7)).1 26).toInt.toNat (-1)) 225 ((sa (sa (sa s 221 (s.1 26).toInt.toNat a1) 222 ((sa s 221 (s.1 26).toInt.toNat a1).1 26).toInt.toNat ((sa s 221 (s.1 26).toInt.toNat a1).1 7)) 224 ((sa (sa s 221 (s.1 26).toInt.toNat a1) 222 ((sa s 221 (s.1 26).toInt.toNat a1).1 26).toInt.toNat ((sa s 221 (s.1 26).toInt.toNat a1).1 7)).1 26).toInt.toNat (-1)).1 26).toInt.toNat (-1)) 226 ((sa (sa (sa (sa s 221 (s.1 26).toInt.toNat a1) 222 ((sa s 221 (s.1 26).toInt.toNat a1).1 26).toInt.toNat ((sa s 221 (s.1 26).toInt.toNat a1).1 7)) 224 ((sa (sa s 221 (s.1 26).toInt.toNat a1) 222 ((sa s 221 (s.1 26).toInt.toNat a1).1 26).toInt.toNat ((sa s 221 (s.1 26).toInt.toNat a1).1 7)).1 26).toInt.toNat (-1)) 225 ((sa (sa (sa s 221 (s.1 26).toInt.toNat a1) 222 ((sa s 221 (s.1 26).toInt.toNat a1).1 26).toInt.toNat ((sa s 221 (s.1 26).toInt.toNat a1).1 7)) 224 ((sa (sa s 221 (s.1 26).toInt.toNat a1) 222 ((sa s 221 (s.1 26).toInt.toNat a1).1 26).toInt.toNat ((sa s 221 (s.1 26).toInt.toNat a1).1 7)).1 26).toInt.toNat (-1)).1 26).toInt.toNat (-1)).1 26).toInt.toNat 0).1 26).toInt.toNat (-1)).1 26).toInt.toNat (-1)).1 26).toInt.toNat (-1)) 230 ((sa (sa (sa (sa (sa (sa (sa (sa s 221 (s.1 26).toInt.toNat a1) 222 ((sa s 221 (s.1 26).toInt.toNat a1).1 26).toInt.toNat ((sa s 221 (s.1 26).toInt.toNat a1).1 7)) 224 ((sa (sa s 221 (s.1 26).toInt.toNat a1) 222 ((sa s 221 (s.1 26).toInt.toNat a1).1 26).toInt.toNat ((sa s 221 (s.1 26).toInt.toNat a1).1 7)).1 26).toInt.toNat (-1)) 225 ((sa (sa (sa s 221 (s.1 26).toInt.toNat a1) 222 ((sa s 221 (s.1 26).toInt.toNat a1).1 26).toInt.toNat ((sa s 221 (s.1 26).toInt.toNat a1).1 7)) 224 ((sa (sa s 221 (s.1 26).toInt.toNat a1) 222 ((sa s 221 (s.1 26).toInt.toNat a1).1 26).toInt.toNat ((sa s 221 (s.1 26).toInt.toNat a1).1 7)).1 26).toInt.toNat (-1)).1 26).toInt.toNat (-1)) 226 ((sa (sa (sa (sa s 221 (s.1 26).toInt.toNat a1) 222 ((sa s 221 (s.1 26).toInt.toNat a1).1 26).toInt.toNat ((sa s 221 (s.1 26).toInt.toNat a1).1 7)) 224 ((sa (sa s 221 (s.1 26).toInt.toNat a1) 222 ((sa s 221 (s.1 26).toInt.toNat a1).1 26).toInt.toNat ((sa s 221 (s.1 26).toInt.toNat a1).1 7)).1 26).toInt.toNat (-1)) 225 ((sa (sa (sa s 221 (s.1 26).toInt.toNat a1) 222 ((sa s 221 (s.1 26).toInt.toNat a1).1 26).toInt.toNat ((sa s 221 (s.1 26).toInt.toNat a1).1 7)) 224 ((sa (sa s 221 (s.1 26).toInt.toNat a1) 222 ((sa s 221 (s.1 26).toInt.toNat a1).1 26).toInt.toNat ((sa s 221 (s.1 26).toInt.toNat a1).1 7)).1 26).toInt.toNat (-1)).1 26).toInt.toNat (-1)).1 26).toInt.toNat 0) 227 ((sa (sa (sa (sa (sa s 221 (s.1 26).toInt.toNat a1) 222 ((sa s 221 (s.1 26).toInt.toNat a1).1 26).toInt.toNat ((sa s 221 (s.1 26).toInt.toNat a1).1 7)) 224 ((sa (sa s 221 (s.1 26).toInt.toNat a1) 222 ((sa s 221 (s.1 26).toInt.toNat a1).1 26).toInt.toNat ((sa s 221 (s.1 26).toInt.toNat a1).1 7)).1 26).toInt.toNat (-1)) 225 ((sa (sa (sa s 221 (s.1 26).toInt.toNat a1) 222 ((sa s 221 (s.1 26).toInt.toNat a1).1 26).toInt.toNat ((sa s 221 (s.1 26).toInt.toNat a1).1 7)) 224 ((sa (sa s 221 (s.1 26).toInt.toNat a1) 222 ((sa s 221 (s.1 26).toInt.toNat a1).1 26).toInt.toNat ((sa s 221 (s.1 26).toInt.toNat a1).1 7)).1 26).toInt.toNat (-1)).1 26).toInt.toNat (-1)) 226 ((sa (sa (sa (sa s 221 (s.1 26).toInt.toNat a1) 222 ((sa s 221 (s.1 26).toInt.toNat a1).1 26).toInt.toNat ((sa s 221 (s.1 26).toInt.toNat a1).1 7)) 224 ((sa (sa s 221 (s.1 26).toInt.toNat a1) 222 ((sa s 221 (s.1 26).toInt.toNat a1).1 26).toInt.toNat ((sa s 221 (s.1 26).toInt.toNat a1).1 7)).1 26).toInt.toNat (-1)) 225 ((sa (sa (sa s 221 (s.1 26).toInt.toNat a1) 222 ((sa s 221 (s.1 26).toInt.toNat a1).1 26).toInt.toNat ((sa s 221 (s.1 26).toInt.toNat a1).1 7)) 224 ((sa (sa s 221 (s.1 26).toInt.toNat a1) 222 ((sa s 221 (s.1 26).toInt.toNat a1).1 26).toInt.toNat ((sa s 221 (s.1 26).toInt.toNat a1).1 7)).1 26).toInt.toNat (-1)).1 26).toInt.toNat (-1)).1 26).toInt.toNat 0).1 26).toInt.toNat (-1)) 228 ((sa (sa (sa (sa (sa (sa s 221 (s.1 26).toInt.toNat a1) 222 ((sa s 221 (s.1 26).toInt.toNat a1).1 26).toInt.toNat ((sa s 221 (s.1 26).toInt.toNat a1).1 7)) 224 ((sa (sa s 221 (s.1 26).toInt.toNat a1) 222 ((sa s 221 (s.1 26).toInt.toNat a1).1 26).toInt.toNat ((sa s 221 (s.1 26).toInt.toNat a1).1 7)).1 26).toInt.toNat (-1)) 225 ((sa (sa (sa s 221 (s.1 26).toInt.toNat a1) 222 ((sa s 221 (s.1 26).toInt.toNat a1).1 26).toInt.toNat ((sa s 221 (s.1 26).toInt.toNat a1).1 7)) 224 ((sa (sa s 221 (s.1 26).toInt.toNat a1) 222 ((sa s 221 (s.1 26).toInt.toNat a1).1 26).toInt.toNat ((sa s 221 (s.1 26).toInt.toNat a1).1 7)).1 26).toInt.toNat (-1)).1 26).toInt.toNat (-1)) 226 ((sa (sa (sa (sa s 221 (s.1 26).toInt.toNat a1) 222 ((sa s 221 (s.1 26).toInt.toNat a1).1 26).toInt.toNat ((sa s 221 (s.1 26).toInt.toNat a1).1 7)) 224 ((sa (sa s 221 (s.1 26).toInt.toNat a1) 222 ((sa s 221 (s.1 26).toInt.toNat a1).1 26).toInt.toNat ((sa s 221 (s.1 26).toInt.toNat a1).1 7)).1 26).toInt.toNat (-1)) 225 ((sa (sa (sa s 221 (s.1 26).toInt.toNat a1) 222 ((sa s 221 (s.1 26).toInt.toNat a1).1 26).toInt.toNat ((sa s 221 (s.1 26).toInt.toNat a1).1 7)) 224 ((sa (sa s 221 (s.1 26).toInt.toNat a1) 222 ((sa s 221 (s.1 26).toInt.toNat a1).1 26).toInt.toNat ((sa s 221 (s.1 26).toInt.toNat a1).1 7)).1 26).toInt.toNat (-1)).1 26).toInt.toNat (-1)).1 26).toInt.toNat 0) 227 ((sa (sa (sa (sa (sa s 221 (s.1 26).toInt.toNat a1) 222 ((sa s 221 (s.1 26).toInt.toNat a1).1 26).toInt.toNat ((sa s 221 (s.1 26).toInt.toNat a1).1 7)) 224 ((sa (sa s 221 (s.1 26).toInt.toNat a1) 222 ((sa s 221 (s.1 26).toInt.toNat a1).1 26).toInt.toNat ((sa s 221 (s.1 26).toInt.toNat a1).1 7)).1 26).toInt.toNat (-1)) 225 ((sa (sa (sa s 221 (s.1 26).toInt.toNat a1) 222 ((sa s 221 (s.1 26).toInt.toNat a1).1 26).toInt.toNat ((sa s 221 (s.1 26).toInt.toNat a1).1 7)) 224 ((sa (sa s 221 (s.1 26).toInt.toNat a1) 222 ((sa s 221 (s.1 26).toInt.toNat a1).1 26).toInt.toNat ((sa s 221 (s.1 26).toInt.toNat a1).1 7)).1 26).toInt.toNat (-1)).1 26).toInt.toNat (-1)) 226 ((sa (sa (sa (sa s 221 (s.1 26).toInt.toNat a1) 222 ((sa s 221 (s.1 26).toInt.toNat a1).1 26).toInt.toNat ((sa s 221 (s.1 26).toInt.toNat a1).1 7)) 224 ((sa (sa s 221 (s.1 26).toInt.toNat a1) 222 ((sa s 221 (s.1 26).toInt.toNat a1).1 26).toInt.toNat ((sa s 221 (s.1 26).toInt.toNat a1).1 7)).1 26).toInt.toNat (-1)) 225 ((sa (sa (sa s 221 (s.1 26).toInt.toNat a1) 222 ((sa s 221 (s.1 26).toInt.toNat a1).1 26).toInt.toNat ((sa s 221 (s.1 26).toInt.toNat a1).1 7)) 224 ((sa (sa s 221 (s.1 26).toInt.toNat a1) 222 ((sa s 221 (s.1 26).toInt.toNat a1).1 26).toInt.toNat ((sa s 221 (s.1 26).toInt.toNat a1).1 7)).1 26).toInt.toNat (-1)).1 26).toInt.toNat (-1)).1 26).toInt.toNat 0).1 26).toInt.toNat (-1)).1 26).toInt.toNat (-1)) 229 ((sa (sa (sa (sa (sa (sa (sa s 221 (s.1 26).toInt.toNat a1) 222 ((sa s 221 (s.1 26).toInt.toNat a1).1 26).toInt.toNat ((sa s 221 (s.1 26).toInt.toNat a1).1 7)) 224 ((sa (sa s 221 (s.1 26).toInt.toNat a1) 222 ((sa s 221 (s.1 26).toInt.toNat a1).1 26).toInt.toNat ((sa s 221 (s.1 26).toInt.toNat a1).1 7)).1 26).toInt.toNat (-1)) 225 ((sa (sa (sa s 221 (s.1 26).toInt.toNat a1) 222 ((sa s 221 (s.1 26).toInt.toNat a1).1 26).toInt.toNat ((sa s 221 (s.1 26).toInt.toNat a1).1 7)) 224 ((sa (sa s 221 (s.1 26).toInt.toNat a1) 222 ((sa s 221 (s.1 26).toInt.toNat a1).1 26).toInt.toNat ((sa s 221 (s.1 26).toInt.toNat a1).1 7)).1 26).toInt.toNat (-1)).1 26).toInt.toNat (-1)) 226 ((sa (sa (sa (sa s 221 (s.1 26).toInt.toNat a1) 222 ((sa s 221 (s.1 26).toInt.toNat a1).1 26).toInt.toNat ((sa s 221 (s.1 26).toInt.toNat a1).1 7)) 224 ((sa (sa s 221 (s.1 26).toInt.toNat a1) 222 ((sa s 221 (s.1 26).toInt.toNat a1).1 26).toInt.toNat ((sa s 221 (s.1 26).toInt.toNat a1).1 7)).1 26).toInt.toNat (-1)) 225 ((sa (sa (sa s 221 (s.1 26).toInt.toNat a1) 222 ((sa s 221 (s.1 26).toInt.toNat a1).1 26).toInt.toNat ((sa s 221 (s.1 26).toInt.toNat a1).1 7)) 224 ((sa (sa s 221 (s.1 26).toInt.toNat a1) 222 ((sa s 221 (s.1 26).toInt.toNat a1).1 26).toInt.toNat ((sa s 221 (s.1 26).toInt.toNat a1).1 7)).1 26).toInt.toNat (-1)).1 26).toInt.toNat (-1)).1 26).toInt.toNat 0) 227 ((sa (sa (sa (sa (sa s 221 (s.1 26).toInt.toNat a1) 222 ((sa s 221 (s.1 26).toInt.toNat a1).1 26).toInt.toNat ((sa s 221 (s.1 26).toInt.toNat a1).1 7)) 224 ((sa (sa s 221 (s.1 26).toInt.toNat a1) 222 ((sa s 221 (s.1 26).toInt.toNat a1).1 26).toInt.toNat ((sa s 221 (s.1 26).toInt.toNat a1).1 7)).1 26).toInt.toNat (-1)) 225 ((sa (sa (sa s 221 (s.1 26).toInt.toNat a1) 222 ((sa s 221 (s.1 26).toInt.toNat a1).1 26).toInt.toNat ((sa s 221 (s.1 26).toInt.toNat a1).1 7)) 224 ((sa (sa s 221 (s.1 26).toInt.toNat a1) 222 ((sa s 221 (s.1 26).toInt.toNat a1).1 26).toInt.toNat ((sa s 221 (s.1 26).toInt.toNat a1).1 7)).1 26).toInt.toNat (-1)).1 26).toInt.toNat (-1)) 226 ((sa (sa (sa (sa s 221 (s.1 26).toInt.toNat a1) 222 ((sa s 221 (s.1 26).toInt.toNat a1).1 26).toInt.toNat ((sa s 221 (s.1 26).toInt.toNat a1).1 7)) 224 ((sa (sa s 221 (s.1 26).toInt.toNat a1) 222 ((sa s 221 (s.1 26).toInt.toNat a1).1 26).toInt.toNat ((sa s 221 (s.1 26).toInt.toNat a1).1 7)).1 26).toInt.toNat (-1)) 225 ((sa (sa (sa s 221 (s.1 26).toInt.toNat a1) 222 ((sa s 221 (s.1 26).toInt.toNat a1).1 26).toInt.toNat ((sa s 221 (s.1 26).toInt.toNat a1).1 7)) 224 ((sa (sa s 221 (s.1 26).toInt.toNat a1) 222 ((sa s 221 (s.1 26).toInt.toNat a1).1 26).toInt.toNat ((sa s 221 (s.1 26).toInt.toNat a1).1 7)).1 26).toInt.toNat (-1)).1 26).toInt.toNat (-1)).1 26).toInt.toNat 0).1 26).toInt.toNat (-1)) 228 ((sa (sa (sa (sa (sa (sa s 221 (s.1 26).toInt.toNat a1) 222 ((sa s 221 (s.1 26).toInt.toNat a1).1 26).toInt.toNat ((sa s 221 (s.1 26).toInt.toNat a1).1 7)) 224 ((sa (sa s 221 (s.1 26).toInt.toNat a1) 222 ((sa s 221 (s.1 26).toInt.toNat a1).1 26).toInt.toNat ((sa s 221 (s.1 26).toInt.toNat a1).1 7)).1 26).toInt.toNat (-1)) 225 ((sa (sa (sa s 221 (s.1 26).toInt.toNat a1) 222 ((sa s 221 (s.1 26).toInt.toNat a1).1 26).toInt.toNat ((sa s 221 (s.1 26).toInt.toNat a1).1 7)) 224 ((sa (sa s 221 (s.1 26).toInt.toNat a1) 222 ((sa s 221 (s.1 26).toInt.toNat a1).1 26).toInt.toNat ((sa s 221 (s.1 26).toInt.toNat a1).1 7)).1 26).toInt.toNat (-1)).1 26).toInt.toNat (-1)) 226 ((sa (sa (sa (sa s 221 (s.1 26).toInt.toNat a1) 222 ((sa s 221 (s.1 26).toInt.toNat a1).1 26).toInt.toNat ((sa s 221 (s.1 26).toInt.toNat a1).1 7)) 224 ((sa (sa s 221 (s.1 26).toInt.toNat a1) 222 ((sa s 221 (s.1 26).toInt.toNat a1).1 26).toInt.toNat ((sa s 221 (s.1 26).toInt.toNat a1).1 7)).1 26).toInt.toNat (-1)) 225 ((sa (sa (sa s 221 (s.1 26).toInt.toNat a1) 222 ((sa s 221 (s.1 26).toInt.toNat a1).1 26).toInt.toNat ((sa s 221 (s.1 26).toInt.toNat a1).1 7)) 224 ((sa (sa s 221 (s.1 26).toInt.toNat a1) 222 ((sa s 221 (s.1 26).toInt.toNat a1).1 26).toInt.toNat ((sa s 221 (s.1 26).toInt.toNat a1).1 7)).1 26).toInt.toNat (-1)).1 26).toInt.toNat (-1)).1 26).toInt.toNat 0) 227 ((sa (sa (sa (sa (sa s 221 (s.1 26).toInt.toNat a1) 222 ((sa s 221 (s.1 26).toInt.toNat a1).1 26).toInt.toNat ((sa s 221 (s.1 26).toInt.toNat a1).1 7)) 224 ((sa (sa s 221 (s.1 26).toInt.toNat a1) 222 ((sa s 221 (s.1 26).toInt.toNat a1).1 26).toInt.toNat ((sa s 221 (s.1 26).toInt.toNat a1).1 7)).1 26).toInt.toNat (-1)) 225 ((sa (sa (sa s 221 (s.1 26).toInt.toNat a1) 222 ((sa s 221 (s.1 26).toInt.toNat a1).1 26).toInt.toNat ((sa s 221 (s.1 26).toInt.toNat a1).1 7)) 224 ((sa (sa s 221 (s.1 26).toInt.toNat a1) 222 ((sa s 221 (s.1 26).toInt.toNat a1).1 26).toInt.toNat ((sa s 221 (s.1 26).toInt.toNat a1).1 7)).1 26).toInt.toNat (-1)).1 26).toInt.toNat (-1)) 226 ((sa (sa (sa (sa s 221 (s.1 26).toInt.toNat a1) 222 ((sa s 221 (s.1 26).toInt.toNat a1).1 26).toInt.toNat ((sa s 221 (s.1 26).toInt.toNat a1).1 7)) 224 ((sa (sa s 221 (s.1 26).toInt.toNat a1) 222 ((sa s 221 (s.1 26).toInt.toNat a1).1 26).toInt.toNat ((sa s 221 (s.1 26).toInt.toNat a1).1 7)).1 26).toInt.toNat (-1)) 225 ((sa (sa (sa s 221 (s.1 26).toInt.toNat a1) 222 ((sa s 221 (s.1 26).toInt.toNat a1).1 26).toInt.toNat ((sa s 221 (s.1 26).toInt.toNat a1).1 7)) 224 ((sa (sa s 221 (s.1 26).toInt.toNat a1) 222 ((sa s 221 (s.1 26).toInt.toNat a1).1 26).toInt.toNat ((sa s 221 (s.1 26).toInt.toNat a1).1 7)).1 26).toInt.toNat (-1)).1 26).toInt.toNat (-1)).1 26).toInt.toNat 0).1 26).toInt.toNat (-1)).1 26).toInt.toNat (-1)).1 26).toInt.toNat (-1)).1 26).toInt.toNat 0).1 26) + 1), .ref 213] xo_iadd rfl rfl ?_
  refine g_put rfl rfl rfl ?_
  replace h := h _ rfl
  refine g_ld rfl rfl rfl ?_
  refine g_get rfl rfl ?_
  change Go _ _ _ _ _ _ [.int ((sf (sa (sa (sa (sa (sa (sa (sa (sa (sa s 221 (s.1 26).toInt.toNat a1) 222 ((sa s 221 (s.1 26).toInt.toNat a1).1 26).toInt.toNat ((sa s 221 (s.1 26).toInt.toNat a1).1 7)) 224 ((sa (sa s 221 (s.1 26).toInt.toNat a1) 222 ((sa s 221 (s.1 26).toInt.toNat a1).1 26).toInt.toNat ((sa s 221 (s.1 26).toInt.toNat a1).1 7)).1 26).toInt.toNat (-1)) 225 ((sa (sa (sa s 221 (s.1 26).toInt.toNat a1) 222 ((sa s 221 (s.1 26).toInt.toNat a1).1 26).toInt.toNat ((sa s 221 (s.1 26).toInt.toNat a1).1 7)) 224 ((sa (sa s 221 (s.1 26).toInt.toNat a1) 222 ((sa s 221 (s.1 26).toInt.toNat a1).1 26).toInt.toNat ((sa s 221 (s.1 26).toInt.toNat a1).1 7)).1 26).toInt.toNat (-1)).1 26).toInt.toNat (-1)) 226 ((sa (sa (sa (sa s 221 (s.1 26).toInt.toNat a1) 222 ((sa s 221 (s.1 26).toInt.toNat a1).1 26).toInt.toNat ((sa s 221 (s.1 26).toInt.toNat a1).1 7)) 224 ((sa (sa s 221 (s.1 26).toInt.toNat a1) 222 ((sa s 221 (s.1 26).toInt.toNat a1).1 26).toInt.toNat ((sa s 221 (s.1 26).toInt.toNat a1).1 7)).1 26).toInt.toNat (-1)) 225 ((sa (sa (sa s 221 (s.1 26).toInt.toNat a1) 222 ((sa s 221 (s.1 26).toInt.toNat a1).1 26).toInt.toNat ((sa s 221 (s.1 26).toInt.toNat a1).1 7)) 224 ((sa (sa s 221 (s.1 26).toInt.toNat a1) 222 ((sa s 221 (s.1 26).toInt.toNat a1).1 26).toInt.toNat ((sa s 221 (s.1 26).toInt.toNat a1).1 7)).1 26).toInt.toNat (-1)).1 26).toInt.toNat (-1)).1 26).toInt.toNat 0) 227 ((sa (sa (sa (sa (sa s 221 (s.1 26).toInt.toNat a1) 222 ((sa s 221 (s.1 26).toInt.toNat a1).1 26).toInt.toNat ((sa s 221 (s.1 26).toInt.toNat a1).1 7)) 224 ((sa (sa s 221 (s.1 26).toInt.toNat a1) 222 ((sa s 221 (s.1 26).toInt.toNat a1).1 26).toInt.toNat ((sa s 221 (s.1 26).toInt.toNat a1).1 7)).1 26).toInt.toNat (-1)) 225 ((sa (sa (sa s 221 (s.1 26).toInt.toNat a1) 222 ((sa s 221 (s.1 26).toInt.toNat a1).1 26).toInt.toNat ((sa s 221 (s.1 26).toInt.toNat a1).1 7)) 224 ((sa (sa s 221 (s.1 26).toInt.toNat a1) 222 ((sa s 221 (s.1 26).toInt.toNat a1).1 26).toInt.toNat ((sa s 221 (s.1 26).toInt.toNat a1).1 7)).1 26).toInt.toNat (-1)).1 26).toInt.toNat (-1)) 226 ((sa (sa (sa (sa s 221 (s.1 26).toInt.toNat a1) 222 ((sa s 221 (s.1 26).toInt.toNat a1).1 26).toInt.toNat ((sa s 221 (s.1 26).toInt.toNat a1).1 7)) 224 ((sa (sa s 221 (s.1 26).toInt.toNat a1) 222 ((sa s 221 (s.1 26).toInt.toNat a1).1 26).toInt.toNat ((sa s 221 (s.1 26).toInt.toNat a1).1 7)).1 26).toInt.toNat (-1)) 225 ((sa (sa (sa s 221 (s.1 26).toInt.toNat a1) 222 ((sa s 221 (s.1 26).toInt.toNat a1).1 26).toInt.toNat ((sa s 221 (s.1 26).toInt.toNat a1).1 7)) 224 ((sa (sa s 221 (s.1 26).toInt.toNat a1) 222 ((sa s 221 (s.1 26).toInt.toNat a1).1 26).toInt.toNat ((sa s 221 (s.1 26).toInt.toNat a1).1 7)).1 26).toInt.toNat (-1)).1 26).toInt.toNat (-1)).1 26).toInt.toNat 0).1 26).toInt.toNat (-1)) 228 ((sa (sa (sa (sa (sa (sa s 221 (s.1 26).toInt.toNat a1) 222 ((sa s 221 (s.1 26).toInt.toNat a1).1 26).toInt.toNat ((sa s 221 (s.1 26).toInt.toNat a1).1 7)) 224 ((sa (sa s 221 (s.1 26).toInt.toNat a1) 222 ((sa s 221 (s.1 26).toInt.toNat a1).1 26).toInt.toNat ((sa s 221 (s.1 26).toInt.toNat a1).1 7)).1 26).toInt.toNat (-1)) 225 ((sa (sa (sa s 221 (s.1 26).toInt.toNat a1) 222 ((sa s 221 (s.1 26).toInt.toNat a1).1 26).toInt.toNat ((sa s 221 (s.1 26).toInt.toNat a1).1 7)) 224 ((sa (sa s 221 (s.1 26).toInt.toNat a1) 222 ((sa s 221 (s.1 26).toInt.toNat a1).1 26).toInt.toNat ((sa s 221 (s.1 26).toInt.toNat a1).1 7)).1 26).toInt.toNat (-1)).1 26).toInt.toNat (-1)) 226 ((sa (sa (sa (sa s 221 (s.1 26).toInt.toNat a1) 222 ((sa s 221 (s.1 26).toInt.toNat a1).1 26).toInt.toNat ((sa s 221 (s.1 26).toInt.toNat a1).1 7)) 224 ((sa (sa s 221 (s.1 26).toInt.toNat a1) 222 ((sa s 221 (s.1 26).toInt.toNat a1).1 26).toInt.toNat ((sa s 221 (s.1 26).toInt.toNat a1).1 7)).1 26).toInt.toNat (-1)) 225 ((sa (sa (sa s 221 (s.1 26).toInt.toNat a1) 222 ((sa s 221 (s.1 26).toInt.toNat a1).1 26).toInt.toNat ((sa s 221 (s.1 26).toInt.toNat a1).1 7)) 224 ((sa (sa s 221 (s.1 26).toInt.toNat a1) 222 ((sa s 221 (s.1 26).toInt.toNat a1).1 26).toInt.toNat ((sa s 221 (s.1 26).toInt.toNat a1).1 7)).1 26).toInt.toNat (-1)).1 26).toInt.toNat (-1)).1 26).toInt.toNat 0) 227 ((sa (sa (sa (sa (sa s 221 (s.1 26).toInt.toNat a1) 222 ((sa s 221 (s.1 26).toInt.toNat a1).1 26).toInt.toNat ((sa s 221 (s.1 26).toInt.toNat a1).1 7)) 224 ((sa (sa s 221 (s.1 26).toInt.toNat a1) 222 ((sa s 221 (s.1 26).toInt.toNat a1).1 26).toInt.toNat ((sa s 221 (s.1 26).toInt.toNat a1).1 7)).1 26).toInt.toNat (-1)) 225 ((sa (sa (sa s 221 (s.1 26).toInt.toNat a1) 222 ((sa s 221 (s.1 26).toInt.toNat a1).1 26).toInt.toNat ((sa s 221 (s.1 26).toInt.toNat a1).1 7)) 224 ((sa (sa s 221 (s.1 26).toInt.toNat a1) 222 ((sa s 221 (s.1 26).toInt.toNat a1).1 26).toInt.toNat ((sa s 221 (s.1 26).toInt.toNat a1).1 7)).1 26).toInt.toNat (-1)).1 26).toInt.toNat (-1)) 226 ((sa (sa (sa (sa s 221 (s.1 26).toInt.toNat a1) 222 ((sa s 221 (s.1 26).toInt.toNat a1).1 26).toInt.toNat ((sa s 221 (s.1 26).toInt.toNat a1).1 7)) 224 ((sa (sa s 221 (s.1 26).toInt.toNat a1) 222 ((sa s 221 (s.1 26).toInt.toNat a1).1 26).toInt.toNat ((sa s 221 (s.1 26).toInt.toNat a1).1 7)).1 26).toInt.toNat (-1)) 225 ((sa (sa (sa s 221 (s.1 26).toInt.toNat a1) 222 ((sa s 221 (s.1 26).toInt.toNat a1).1 26).toInt.toNat ((sa s 221 (s.1 26).toInt.toNat a1).1 7)) 224 ((sa (sa s 221 (s.1 26).toInt.toNat a1) 222 ((sa s 221 (s.1 26).toInt.toNat a1).1 26).toInt.toNat ((sa s 221 (s.1 26).toInt.toNat a1).1 7)).1 26).toInt.toNat (-1)).1 26).toInt.toNat (-1)).1 26).toInt.toNat 0).1 26).toInt.toNat (-1)).1 26).toInt.toNat (-1)) 229 ((sa (sa (sa (sa (sa (sa (sa s 221 (s.1 26).toInt.toNat a1) 222 ((sa s 221 (s.1 26).toInt.toNat a1).1 26).toInt.toNat ((sa s 221 (s.1 26).toInt.toNat a1).1 7)) 224 ((sa (sa s 221 (s.1 26).toInt.toNat a1) 222 ((sa s 221 (s.1 26).toInt.toNat a1).1 26).toInt.toNat ((sa s 221 (s.1 26).toInt.toNat a1).1 7)).1 26).toInt.toNat (-1)) 225 ((sa (sa (sa s 221 (s.1 26).toInt.toNat a1) 222 ((sa s 221 (s.1 26).toInt.toNat a1).1 26).toInt.toNat ((sa s 221 (s.1 26).toInt.toNat a1).1 7)) 224 ((sa (sa s 221 (s.1 26).toInt.toNat a1) 222 ((sa s 221 (s.1 26).toInt.toNat a1).1 26).toInt.toNat ((sa s 221 (s.1 26).toInt.toNat a1).1 7)).1 26).toInt.toNat (-1)).1 26).toInt.toNat (-1)) 226 ((sa (sa (sa (sa s 221 (s.1 26).toInt.toNat a1) 222 ((sa s 221 (s.1 26).toInt.toNat a1).1 26).toInt.toNat ((sa s 221 (s.1 26).toInt.toNat a1).1 7)) 224 ((sa (sa s 221 (s.1 26).toInt.toNat a1) 222 ((sa s 221 (s.1 26).toInt.toNat a1).1 26).toInt.toNat ((sa s 221 (s.1 26).toInt.toNat a1).1 7)).1 26).toInt.toNat (-1)) 225 ((sa (sa (sa s 221 (s.1 26).toInt.toNat a1) 222 ((sa s 221 (s.1 26).toInt.toNat a1).1 26).toInt.toNat ((sa s 221 (s.1 26).toInt.toNat a1).1 7)) 224 ((sa (sa s 221 (s.1 26).toInt.toNat a1) 222 ((sa s 221 (s.1 26).toInt.toNat a1).1 26).toInt.toNat ((sa s 221 (s.1 26).toInt.toNat a1).1 7)).1 26).toInt.toNat (-1)).1 26).toInt.toNat (-1)).1 26).toInt.toNat 0) 227 ((sa (sa (sa (sa (sa s 221 (s.1 26).toInt.toNat a1) 222 ((sa s 221 (s.1 26).toInt.toNat a1).1 26).toInt.toNat ((sa s 221 (s.1 26).toInt.toNat a1).1 7)) 224 ((sa (sa s 221 (s.1 26).toInt.toNat a1) 222 ((sa s 221 (s.1 26).toInt.toNat a1).1 26).toInt.toNat ((sa s 221 (s.1 26).toInt.toNat a1).1 7)).1 26).toInt.toNat (-1)) 225 ((sa (sa (sa s 221 (s.1 26).toInt.toNat a1) 222 ((sa s 221 (s.1 26).toInt.toNat a1).1 26).toInt.toNat ((sa s 221 (s.1 26).toInt.toNat a1).1 7)) 224 ((sa (sa s 221 (s.1 26).toInt.toNat a1) 222 ((sa s 221 (s.1 26).toInt.toNat a1).1 26).toInt.toNat ((sa s 221 (s.1 26).toInt.toNat a1).1 7)).1 26).toInt.toNat (-1)).1 26).toInt.toNat (-1)) 226 ((sa (sa (sa (sa s 221 (s.1 26).toInt.toNat a1) 222 ((sa s 221 (s.1 26).toInt.toNat a1).1 26).toInt.toNat ((sa s 221 (s.1 26).toInt.toNat a1).1 7)) 224 ((sa (sa s 221 (s.1 26).toInt.toNat a1) 222 ((sa s 221 (s.1 26).toInt.toNat a1).1 26).toInt.toNat ((sa s 221 (s.1 26).toInt.toNat a1).1 7)).1 26).toInt.toNat (-1)) 225 ((sa (sa (sa s 221 (s.1 26).toInt.toNat a1) 222 ((sa s 221 (s.1 26).toInt.toNat a1).1 26).toInt.toNat ((sa s 221 (s.1 26).toInt.toNat a1).1 7)) 224 ((sa (sa s 221 (s.1 26).toInt.toNat a1) 222 ((sa s 221 (s.1 26).toInt.toNat a1).1 26).toInt.toNat ((sa s 221 (s.1 26).toInt.toNat a1).1 7)).1 26).toInt.toNat (-1)).1 26).toInt.toNat (-1)).1 26).toInt.toNat 0).1 26).toInt.toNat (-1)) 228 ((sa (sa (sa (sa (sa (sa s 221 (s.1 26).toInt.toNat a1) 222 ((sa s 221 (s.1 26).toInt.toNat a1).1 26).toInt.toNat ((sa s 221 (s.1 26).toInt.toNat a1).1 7)) 224 ((sa (sa s 221 (s.1 26).toInt.toNat a1) 222 ((sa s 221 (s.1 26).toInt.toNat a1).1 26).toInt.toNat ((sa s 221 (s.1 26).toInt.toNat a1).1 7)).1 26).toInt.toNat (-1)) 225 ((sa (sa (sa s 221 (s.1 26).toInt.toNat a1) 222 ((sa s 221 (s.1 26).toInt.toNat a1).1 26).toInt.toNat ((sa s 221 (s.1 26).toInt.toNat a1).1 7)) 224 ((sa (sa s 221 (s.1 26).toInt.toNat a1) 222 ((sa s 221 (s.1 26).toInt.toNat a1).1 26).toInt.toNat ((sa s 221 (s.1 26).toInt.toNat a1).1 7)).1 26).toInt.toNat (-1)).1 26).toInt.toNat (-1)) 226 ((sa (sa (sa (sa s 221 (s.1 26).toInt.toNat a1) 222 ((sa s 221 (s.1 26).toInt.toNat a1).1 26).toInt.toNat ((sa s 221 (s.1 26).toInt.toNat a1).1 7)) 224 ((sa (sa s 221 (s.1 26).toInt.toNat a1) 222 ((sa s 221 (s.1 26).toInt.toNat a1).1 26).toInt.toNat ((sa s 221 (s.1 26).toInt.toNat a1).1 7)).1 26).toInt.toNat (-1)) 225 ((sa (sa (sa s 221 (s.1 26).toInt.toNat a1) 222 ((sa s 221 (s.1 26).toInt.toNat a1).1 26).toInt.toNat ((sa s 221 (s.1 26).toInt.toNat a1).1 7)) 224 ((sa (sa s 221 (s.1 26).toInt.toNat a1) 222 ((sa s 221 (s.1 26).toInt.toNat a1).1 26).toInt.toNat ((sa s 221 (s.1 26).toInt.toNat a1).1 7)).1 26).toInt.toNat (-1)).1 26).toInt.toNat (-1)).1 26).toInt.toNat 0) 227 ((sa (sa (sa (sa (sa s 221 (s.1 26).toInt.toNat a1) 222 ((sa s 221 (s.1 26).toInt.toNat a1).1 26).toInt.toNat ((sa s 221 (s.1 26).toInt.toNat a1).1 7)) 224 ((sa (sa s 221 (s.1 26).toInt.toNat a1) 222 ((sa s 221 (s.1 26).toInt.toNat a1).1 26).toInt.toNat ((sa s 221 (s.1 26).toInt.toNat a1).1 7)).1 26).toInt.toNat (-1)) 225 ((sa (sa (sa s 221 (s.1 26).toInt.toNat a1) 222 ((sa s 221 (s.1 26).toInt.toNat a1).1 26).toInt.toNat ((sa s 221 (s.1 26).toInt.toNat a1).1 7)) 224 ((sa (sa s 221 (s.1 26).toInt.toNat a1) 222 ((sa s 221 (s.1 26).toInt.toNat a1).1 26).toInt.toNat ((sa s 221 (s.1 26).toInt.toNat a1).1 7)).1 26).toInt.toNat (-1)).1 26).toInt.toNat (-1)) 226 ((sa (sa (sa (sa s 221 (s.1 26).toInt.toNat a1) 222 ((sa s 221 (s.1 26).toInt.toNat a1).1 26).toInt.toNat ((sa s 221 (s.1 26).toInt.toNat a1).1 7)) 224 ((sa (sa s 221 (s.1 26).toInt.toNat a1) 222 ((sa s 221 (s.1 26).toInt.toNat a1).1 26).toInt.toNat ((sa s 221 (s.1 26).toInt.toNat a1).1 7)).1 26).toInt.toNat (-1)) 225 ((sa (sa (sa s 221 (s.1 26).toInt.toNat a1) 222 ((sa s 221 (s.1 26).toInt.toNat a1).1 26).toInt.toNat ((sa s 221 (s.1 26).toInt.toNat a1).1 7)) 224 ((sa (sa s 221 (s.1 26).toInt.toNat a1) 222 ((sa s 221 (s.1 26).toInt.toNat a1).1 26).toInt.toNat ((sa s 221 (s.1 26).toInt.toNat a1).1 7)).1 26).toInt.toNat (-1)).1 26).toInt.toNat (-1)).1 26).toInt.toNat 0).1 26).toInt.toNat (-1)).1 26).toInt.toNat (-1)).1 26).toInt.toNat (-1)) 230 ((sa (sa (sa (sa (sa (sa (sa (sa s 221 (s.1 26).toInt.toNat a1) 222 ((sa s 221 (s.1 26).toInt.toNat a1).1 26).toInt.toNat ((sa s 221 (s.1 26).toInt.toNat a1).1 7)) 224 ((sa (sa s 221 (s.1 26).toInt.toNat a1) 222 ((sa s 221 (s.1 26).toInt.toNat a1).1 26).toInt.toNat ((sa s 221 (s.1 26).toInt.toNat a1).1 7)).1 26).toInt.toNat (-1)) 225 ((sa (sa (sa s 221 (s.1 26).toInt.toNat a1) 222 ((sa s 221 (s.1 26).toInt.toNat a1).1 26).toInt.toNat ((sa s 221 (s.1 26).toInt.toNat a1).1 7)) 224 ((sa (sa s 221 (s.1 26).toInt.toNat a1) 222 ((sa s 221 (s.1 26).toInt.toNat a1).1 26).toInt.toNat ((sa s 221 (s.1 26).toInt.toNat a1).1 7)).1 26).toInt.toNat (-1)).1 26).toInt.toNat (-1)) 226 ((sa (sa (sa (sa s 221 (s.1 26).toInt.toNat a1) 222 ((sa s 221 (s.1 26).toInt.toNat a1).1 26).toInt.toNat ((sa s 221 (s.1 26).toInt.toNat a1).1 7)) 224 ((sa (sa s 221 (s.1 26).toInt.toNat a1) 222 ((sa s 221 (s.1 26).toInt.toNat a1).1 26).toInt.toNat ((sa s 221 (s.1 26).toInt.toNat a1).1 7)).1 26).toInt.toNat (-1)) 225 ((sa (sa (sa s 221 (s.1 26).toInt.toNat a1) 222 ((sa s 221 (s.1 26).toInt.toNat a1).1 26).toInt.toNat ((sa s 221 (s.1 26).toInt.toNat a1).1 7)) 224 ((sa (sa s 221 (s.1 26).toInt.toNat a1) 222 ((sa s 221 (s.1 26).toInt.toNat a1).1 26).toInt.toNat ((sa s 221 (s.1 26).toInt.toNat a1).1 7)).1 26).toInt.toNat (-1)).1 26).toInt.toNat (-1)).1 26).toInt.toNat 0) 227 ((sa (sa (sa (sa (sa s 221 (s.1 26).toInt.toNat a1) 222 ((sa s 221 (s.1 26).toInt.toNat a1).1 26).toInt.toNat ((sa s 221 (s.1 26).toInt.toNat a1).1 7)) 224 ((sa (sa s 221 (s.1 26).toInt.toNat a1) 222 ((sa s 221 (s.1 26).toInt.toNat a1).1 26).toInt.toNat ((sa s 221 (s.1 26).toInt.toNat a1).1 7)).1 26).toInt.toNat (-1)) 225 ((sa (sa (sa s 221 (s.1 26).toInt.toNat a1) 222 ((sa s 221 (s.1 26).toInt.toNat a1).1 26).toInt.toNat ((sa s 221 (s.1 26).toInt.toNat a1).1 7)) 224 ((sa (sa s 221 (s.1 26).toInt.toNat a1) 222 ((sa s 221 (s.1 26).toInt.toNat a1).1 26).toInt.toNat ((sa s 221 (s.1 26).toInt.toNat a1).1 7)).1 26).toInt.toNat (-1)).1 26).toInt.toNat (-1)) 226 ((sa (sa (sa (sa s 221 (s.1 26).toInt.toNat a1) 222 ((sa s 221 (s.1 26).toInt.toNat a1).1 26).toInt.toNat ((sa s 221 (s.1 26).toInt.toNat a1).1 7)) 224 ((sa (sa s 221 (s.1 26).toInt.toNat a1) 222 ((sa s 221 (s.1 26).toInt.toNat a1).1 26).toInt.toNat ((sa s 221 (s.1 26).toInt.toNat a1).1 7)).1 26).toInt.toNat (-1)) 225 ((sa (sa (sa s 221 (s.1 26).toInt.toNat a1) 222 ((sa s 221 (s.1 26).toInt.toNat a1).1 26).toInt.toNat ((sa s 221 (s.1 26).toInt.toNat a1).1 7)) 224 ((sa (sa s 221 (s.1 26).toInt.toNat a1) 222 ((sa s 221 (s.1 26).toInt.toNat a1).1 26).toInt.toNat ((sa s 221 (s.1 26).toInt.toNat a1).1 7)).1 26).toInt.toNat (-1)).1 26).toInt.toNat (-1)).1 26).toInt.toNat 0).1 26).toInt.toNat (-1)) 228 ((sa (sa (sa (sa (sa (sa s 221 (s.1 26).toInt.toNat a1) 222 ((sa s 221 (s.1 26).toInt.toNat a1).1 26).toInt.toNat ((sa s 221 (s.1 26).toInt.toNat a1).1 7)) 224 ((sa (sa s 221 (s.1 26).toInt.toNat a1) 222 ((sa s 221 (s.1 26).toInt.toNat a1).1 26).toInt.toNat ((sa s 221 (s.1 26).toInt.toNat a1).1 7)).1 26).toInt.toNat (-1)) 225 ((sa (sa (sa s 221 (s.1 26).toInt.toNat a1) 222 ((sa s 221 (s.1 26).toInt.toNat a1).1 26).toInt.toNat ((sa s 221 (s.1 26).toInt.toNat a1).1 7)) 224 ((sa (sa s 221 (s.1 26).toInt.toNat a1) 222 ((sa s 221 (s.1 26).toInt.toNat a1).1 26).toInt.toNat ((sa s 221 (s.1 26).toInt.toNat a1).1 7)).1 26).toInt.toNat (-1)).1 26).toInt.toNat (-1)) 226 ((sa (sa (sa (sa s 221 (s.1 26).toInt.toNat a1) 222 ((sa s 221 (s.1 26).toInt.toNat a1).1 26).toInt.toNat ((sa s 221 (s.1 26).toInt.toNat a1).1 7)) 224 ((sa (sa s 221 (s.1 26).toInt.toNat a1) 222 ((sa s 221 (s.1 26).toInt.toNat a1).1 26).toInt.toNat ((sa s 221 (s.1 26).toInt.toNat a1).1 7)).1 26).toInt.toNat (-1)) 225 ((sa (sa (sa s 221 (s.1 26).toInt.toNat a1) 222 ((sa s 221 (s.1 26).toInt.toNat a1).1 26).toInt.toNat ((sa s 221 (s.1 26).toInt.toNat a1).1 7)) 224 ((sa (sa s 221 (s.1 26).toInt.toNat a1) 222 ((sa s 221 (s.1 26).toInt.toNat a1).1 26).toInt.toNat ((sa s 221 (s.1 26).toInt.toNat a1).1 7)).1 26).toInt.toNat (-1)).1 26).toInt.toNat (-1)).1 26).toInt.toNat 0) 227 ((sa (sa (sa (sa (sa s 221 (s.1 26).toInt.toNat a1) 222 ((sa s 221 (s.1 26).toInt.toNat a1).1 26).toInt.toNat ((sa s 221 (s.1 26).toInt.toNat a1).1 7)) 224 ((sa (sa s 221 (s.1 26).toInt.toNat a1) 222 ((sa s 221 (s.1 26).toInt.toNat a1).1 26).toInt.toNat ((sa s 221 (s.1 26).toInt.toNat a1).1 7)).1 26).toInt.toNat (-1)) 225 ((sa (sa (sa s 221 (s.1 26).toInt.toNat a1) 222 ((sa s 221 (s.1 26).toInt.toNat a1).1 26).toInt.toNat ((sa s 221 (s.1 26).toInt.toNat a1).1 7)) 224 ((sa (sa s 221 (s.1 26).toInt.toNat a1) 222 ((sa s 221 (s.1 26).toInt.toNat a1).1 26).toInt.toNat ((sa s 221 (s.1 26).toInt.toNat a1).1 7)).1 26).toInt.toNat (-1)).1 26).toInt.toNat (-1)) 226 ((sa (sa (sa (sa s 221 (s.1 26).toInt.toNat a1) 222 ((sa s 221 (s.1 26).toInt.toNat a1).1 26).toInt.toNat ((sa s 221 (s.1 26).toInt.toNat a1).1 7)) 224 ((sa (sa s 221 (s.1 26).toInt.toNat a1) 222 ((sa s 221 (s.1 26).toInt.toNat a1).1 26).toInt.toNat ((sa s 221 (s.1 26).toInt.toNat a1).1 7)).1 26).toInt.toNat (-1)) 225 ((sa (sa (sa s 221 (s.1 26).toInt.toNat a1) 222 ((sa s 221 (s.1 26).toInt.toNat a1).1 26).toInt.toNat ((sa s 221 (s.1 26).toInt.toNat a1).1 7)) 224 ((sa (sa s 221 (s.1 26).toInt.toNat a1) 222 ((sa s 221 (s.1 26).toInt.toNat a1).1 26).toInt.toNat ((sa s 221 (s.1 26).toInt.toNat a1).1 7)).1 26).toInt.toNat (-1)).1 26).toInt.toNat (-1)).1 26).toInt.toNat 0).1 26).toInt.toNat (-1)).1 26).toInt.toNat (-1)) 229 ((sa (sa (sa (sa (sa (sa (sa s 221 (s.1 26).toInt.toNat a1) 222 ((sa s 221 (s.1 26).toInt.toNat a1).1 26).toInt.toNat ((sa s 221 (s.1 26).toInt.toNat a1).1 7)) 224 ((sa (sa s 221 (s.1 26).toInt.toNat a1) 222 ((sa s 221 (s.1 26).toInt.toNat a1).1 26).toInt.toNat ((sa s 221 (s.1 26).toInt.toNat a1).1 7)).1 26).toInt.toNat (-1)) 225 ((sa (sa (sa s 221 (s.1 26).toInt.toNat a1) 222 ((sa s 221 (s.1 26).toInt.toNat a1).1 26).toInt.toNat ((sa s 221 (s.1 26).toInt.toNat a1).1 7)) 224 ((sa (sa s 221 (s.1 26).toInt.toNat a1) 222 ((sa s 221 (s.1 26).toInt.toNat a1).1 26).toInt.toNat ((sa s 221 (s.1 26).toInt.toNat a1).1 7)).1 26).toInt.toNat (-1)).1 26).toInt.toNat (-1)) 226 ((sa (sa (sa (sa s 221 (s.1 26).toInt.toNat a1) 222 ((sa s 221 (s.1 26).toInt.toNat a1).1 26).toInt.toNat ((sa s 221 (s.1 26).toInt.toNat a1).1 7)) 224 ((sa (sa s 221 (s.1 26).toInt.toNat a1) 222 ((sa s 221 (s.1 26).toInt.toNat a1).1 26).toInt.toNat ((sa s 221 (s.1 26).toInt.toNat a1).1 7)).1 26).toInt.toNat (-1)) 225 ((sa (sa (sa s 221 (s.1 26).toInt.toNat a1) 222 ((sa s 221 (s.1 26).toInt.toNat a1).1 26).toInt.toNat ((sa s 221 (s.1 26).toInt.toNat a1).1 7)) 224 ((sa (sa s 221 (s.1 26).toInt.toNat a1) 222 ((sa s 221 (s.1 26).toInt.toNat a1).1 26).toInt.toNat ((sa s 221 (s.1 26).toInt.toNat a1).1 7)).1 26).toInt.toNat (-1)).1 26).toInt.toNat (-1)).1 26).toInt.toNat 0) 227 ((sa (sa (sa (sa (sa s 221 (s.1 26).toInt.toNat a1) 222 ((sa s 221 (s.1 26).toInt.toNat a1).1 26).toInt.toNat ((sa s 221 (s.1 26).toInt.toNat a1).1 7)) 224 ((sa (sa s 221 (s.1 26).toInt.toNat a1) 222 ((sa s 221 (s.1 26).toInt.toNat a1).1 26).toInt.toNat ((sa s 221 (s.1 26).toInt.toNat a1).1 7)).1 26).toInt.toNat (-1)) 225 ((sa (sa (sa s 221 (s.1 26).toInt.toNat a1) 222 ((sa s 221 (s.1 26).toInt.toNat a1).1 26).toInt.toNat ((sa s 221 (s.1 26).toInt.toNat a1).1 7)) 224 ((sa (sa s 221 (s.1 26).toInt.toNat a1) 222 ((sa s 221 (s.1 26).toInt.toNat a1).1 26).toInt.toNat ((sa s 221 (s.1 26).toInt.toNat a1).1 7)).1 26).toInt.toNat (-1)).1 26).toInt.toNat (-1)) 226 ((sa (sa (sa (sa s 221 (s.1 26).toInt.toNat a1) 222 ((sa s 221 (s.1 26).toInt.toNat a1).1 26).toInt.toNat ((sa s 221 (s.1 26).toInt.toNat a1).1 7)) 224 ((sa (sa s 221 (s.1 26).toInt.toNat a1) 222 ((sa s 221 (s.1 26).toInt.toNat a1).1 26).toInt.toNat ((sa s 221 (s.1 26).toInt.toNat a1).1 7)).1 26).toInt.toNat (-1)) 225 ((sa (sa (sa s 221 (s.1 26).toInt.toNat a1) 222 ((sa s 221 (s.1 26).toInt.toNat a1).1 26).toInt.toNat ((sa s 221 (s.1 26).toInt.toNat a1).1 7)) 224 ((sa (sa s 221 (s.1 26).toInt.toNat a1) 222 ((sa s 221 (s.1 26).toInt.toNat a1).1 26).toInt.toNat ((sa s 221 (s.1 26).toInt.toNat a1).1 7)).1 26).toInt.toNat (-1)).1 26).toInt.toNat (-1)).1 26).toInt.toNat 0).1 26).toInt.toNat (-1)) 228 ((sa (sa (sa (sa (sa (sa s 221 (s.1 26).toInt.toNat a1) 222 ((sa s 221 (s.1 26).toInt.toNat a1).1 26).toInt.toNat ((sa s 221 (s.1 26).toInt.toNat a1).1 7)) 224 ((sa (sa s 221 (s.1 26).toInt.toNat a1) 222 ((sa s 221 (s.1 26).toInt.toNat a1).1 26).toInt.toNat ((sa s 221 (s.1 26).toInt.toNat a1).1 7)).1 26).toInt.toNat (-1)) 225 ((sa (sa (sa s 221 (s.1 26).toInt.toNat a1) 222 ((sa s 221 (s.1 26).toInt.toNat a1).1 26).toInt.toNat ((sa s 221 (s.1 26).toInt.toNat a1).1 7)) 224 ((sa (sa s 221 (s.1 26).toInt.toNat a1) 222 ((sa s 221 (s.1 26).toInt.toNat a1).1 26).toInt.toNat ((sa s 221 (s.1 26).toInt.toNat a1).1 7)).1 26).toInt.toNat (-1)).1 26).toInt.toNat (-1)) 226 ((sa (sa (sa (sa s 221 (s.1 26).toInt.toNat a1) 222 ((sa s 221 (s.1 26).toInt.toNat a1).1 26).toInt.toNat ((sa s 221 (s.1 26).toInt.toNat a1).1 7)) 224 ((sa (sa s 221 (s.1 26).toInt.toNat a1) 222 ((sa s 221 (s.1 26).toInt.toNat a1).1 26).toInt.toNat ((sa s 221 (s.1 26).toInt.toNat a1).1 7)).1 26).toInt.toNat (-1)) 225 ((sa (sa (sa s 221 (s.1 26).toInt.toNat a1) 222 ((sa s 221 (s.1 26).toInt.toNat a1).1 26).toInt.toNat ((sa s 221 (s.1 26).toInt.toNat a1).1 7)) 224 ((sa (sa s 221 (s.1 26).toInt.toNat a1) 222 ((sa s 221 (s.1 26).toInt.toNat a1).1 26).toInt.toNat ((sa s 221 (s.1 26).toInt.toNat a1).1 7)).1 26).toInt.toNat (-1)).1 26).toInt.toNat (-1)).1 26).toInt.toNat 0) 227 ((sa (sa (sa (sa (sa s 221 (s.1 26).toInt.toNat a1) 222 ((sa s 221 (s.1 26).toInt.toNat a1).1 26).toInt.toNat ((sa s 221 (s.1 26).toInt.toNat a1).1 7)) 224 ((sa (sa s 221 (s.1 26).toInt.toNat a1) 222 ((sa s 221 (s.1 26).toInt.toNat a1).1 26).toInt.toNat ((sa s 221 (s.1 26).toInt.toNat a1).1 7)).1 26).toInt.toNat (-1)) 225 ((sa (sa (sa s 221 (s.1 26).toInt.toNat a1) 222 ((sa s 221 (s.1 26).toInt.toNat a1).1 26).toInt.toNat ((sa s 221 (s.1 26).toInt.toNat a1).1 7)) 224 ((sa (sa s 221 (s.1 26).toInt.toNat a1) 222 ((sa s 221 (s.1 26).toInt.toNat a1).1 26).toInt.toNat ((sa s 221 (s.1 26).toInt.toNat a1).1 7)).1 26).toInt.toNat (-1)).1 26).toInt.toNat (-1)) 226 ((sa (sa (sa (sa s 221 (s.1 26).toInt.toNat a1) 222 ((sa s 221 (s.1 26).toInt.toNat a1).1 26).toInt.toNat ((sa s 221 (s.1 26).toInt.toNat a1).1 7)) 224 ((sa (sa s 221 (s.1 26).toInt.toNat a1) 222 ((sa s 221 (s.1 26).toInt.toNat a1).1 26).toInt.toNat ((sa s 221 (s.1 26).toInt.toNat a1).1 7)).1 26).toInt.toNat (-1)) 225 ((sa (sa (sa s 221 (s.1 26).toInt.toNat a1) 222 ((sa s 221 (s.1 26).toInt.toNat a1).1 26).toInt.toNat ((sa s 221 (s.1 26).toInt.toNat a1).1 7)) 224 ((sa (sa s 221 (s.1 26).toInt.toNat a1) 222 ((sa s 221 (s.1 26).toInt.toNat a1).1 26).toInt.toNat ((sa s 221 (s.1 26).toInt.toNat a1).1 7)).1 26).toInt.toNat (-1)).1 26).toInt.toNat (-1)).1 26).toInt.toNat 0).1 26).toInt.toNat (-1)).1 26).toInt.toNat (-1)).1 26).toInt.toNat (-1)).1 26).toInt.toNat 0) 26 (((sa (sa (sa (sa (sa (sa (sa (sa (sa s 221 (s.1 26).toInt.toNat a1) 222 ((sa s 221 (s.1 26).toInt.toNat a1).1 26).toInt.toNat ((sa s 221 (s.1 26).toInt.toNat a1).1 7)) 224 ((sa (sa s 221 (s.1 26).toInt.toNat a1) 222 ((sa s 221 (s.1 26).toInt.toNat a1).1 26).toInt.toNat ((sa s 221 (s.1 26).toInt.toNat a1).1 7)).1 26).toInt.toNat (-1)) 225 ((sa (sa (sa s 221 (s.1 26).toInt.toNat a1) 222 ((sa s 221 (s.1 26).toInt.toNat a1).1 26).toInt.toNat ((sa s 221 (s.1 26).toInt.toNat a1).1 7)) 224 ((sa (sa s 221 (s.1 26).toInt.toNat a1) 222 ((sa s 221 (s.1 26).toInt.toNat a1).1 26).toInt.toNat ((sa s 221 (s.1 26).toInt.toNat a1).1 7)).1 26).toInt.toNat (-1)).1 26).toInt.toNat (-1)) 226 ((sa (sa (sa (sa s 221 (s.1 26).toInt.toNat a1) 222 ((sa s 221 (s.1 26).toInt.toNat a1).1 26).toInt.toNat ((sa s 221 (s.1 26).toInt.toNat a1).1 7)) 224 ((sa (sa s 221 (s.1 26).toInt.toNat a1) 222 ((sa s 221 (s.1 26).toInt.toNat a1).1 26).toInt.toNat ((sa s 221 (s.1 26).toInt.toNat a1).1 7)).1 26).toInt.toNat (-1)) 225 ((sa (sa (sa s 221 (s.1 26).toInt.toNat a1) 222 ((sa s 221 (s.1 26).toInt.toNat a1).1 26).toInt.toNat ((sa s 221 (s.1 26).toInt.toNat a1).1 7)) 224 ((sa (sa s 221 (s.1 26).toInt.toNat a1) 222 ((sa s 221 (s.1 26).toInt.toNat a1).1 26).toInt.toNat ((sa s 221 (s.1 26).toInt.toNat a1).1 7)).1 26).toInt.toNat (-1)).1 26).toInt.toNat (-1)).1 26).toInt.toNat 0) 227 ((sa (sa (sa (sa (sa s 221 (s.1 26).toInt.toNat a1) 222 ((sa s 221 (s.1 26).toInt.toNat a1).1 26).toInt.toNat ((sa s 221 (s.1 26).toInt.toNat a1).1 7)) 224 ((sa (sa s 221 (s.1 26).toInt.toNat a1) 222 ((sa s 221 (s.1 26).toInt.toNat a1).1 26).toInt.toNat ((sa s 221 (s.1 26).toInt.toNat a1).1 7)).1 26).toInt.toNat (-1)) 225 ((sa (sa (sa s 221 (s.1 26).toInt.toNat a1) 222 ((sa s 221 (s.1 26).toInt.toNat a1).1 26).toInt.toNat ((sa s 221 (s.1 26).toInt.toNat a1).1 7)) 224 ((sa (sa s 221 (s.1 26).toInt.toNat a1) 222 ((sa s 221 (s.1 26).toInt.toNat a1).1 26).toInt.toNat ((sa s 221 (s.1 26).toInt.toNat a1).1 7)).1 26).toInt.toNat (-1)).1 26).toInt.toNat (-1)) 226 ((sa (sa (sa (sa s 221 (s.1 26).toInt.toNat a1) 222 ((sa s 221 (s.1 26).toInt.toNat a1).1 26).toInt.toNat ((sa s 221 (s.1 26).toInt.toNat a1).1 7)) 224 ((sa (sa s 221 (s.1 26).toInt.toNat a1) 222 ((sa s 221 (s.1 26).toInt.toNat a1).1 26).toInt.toNat ((sa s 221 (s.1 26).toInt.toNat a1).1 7)).1 26).toInt.toNat (-1)) 225 ((sa (sa (sa s 221 (s.1 26).toInt.toNat a1) 222 ((sa s 221 (s.1 26).toInt.toNat a1).1 26).toInt.toNat ((sa s 221 (s.1 26).toInt.toNat a1).1 7)) 224 ((sa (sa s 221 (s.1 26).toInt.toNat a1) 222 ((sa s 221 (s.1 26).toInt.toNat a1).1 26).toInt.toNat ((sa s 221 (s.1 26).toInt.toNat a1).1 7)).1 26).toInt.toNat (-1)).1 26).toInt.toNat (-1)).1 26).toInt.toNat 0).1 26).toInt.toNat (-1)) 228 ((sa (sa (sa (sa (sa (sa s 221 (s.1 26).toInt.toNat a1) 222 ((sa s 221 (s.1 26).toInt.toNat a1).1 26).toInt.toNat ((sa s 221 (s.1 26).toInt.toNat a1).1 7)) 224 ((sa (sa s 221 (s.1 26).toInt.toNat a1) 222 ((sa s 221 (s.1 26).toInt.toNat a1).1 26).toInt.toNat ((sa s 221 (s.1 26).toInt.toNat a1).1 7)).1 26).toInt.toNat (-1)) 225 ((sa (sa (sa s 221 (s.1 26).toInt.toNat a1) 222 ((sa s 221 (s.1 26).toInt.toNat a1).1 26).toInt.toNat ((sa s 221 (s.1 26).toInt.toNat a1).1 7)) 224 ((sa (sa s 221 (s.1 26).toInt.toNat a1) 222 ((sa s 221 (s.1 26).toInt.toNat a1).1 26).toInt.toNat ((sa s 221 (s.1 26).toInt.toNat a1).1 7)).1 26).toInt.toNat (-1)).1 26).toInt.toNat (-1)) 226 ((sa (sa (sa (sa s 221 (s.1 26).toInt.toNat a1) 222 ((sa s 221 (s.1 26).toInt.toNat a1).1 26).toInt.toNat ((sa s 221 (s.1 26).toInt.toNat a1).1 7)) 224 ((sa (sa s 221 (s.1 26).toInt.toNat a1) 222 ((sa s 221 (s.1 26).toInt.toNat a1).1 26).toInt.toNat ((sa s 221 (s.1 26).toInt.toNat a1).1 7)).1 26).toInt.toNat (-1)) 225 ((sa (sa (sa s 221 (s.1 26).toInt.toNat a1) 222 ((sa s 221 (s.1 26).toInt.toNat a1).1 26).toInt.toNat ((sa s 221 (s.1 26).toInt.toNat a1).1 7)) 224 ((sa (sa s 221 (s.1 26).toInt.toNat a1) 222 ((sa s 221 (s.1 26).toInt.toNat a1).1 26).toInt.toNat ((sa s 221 (s.1 26).toInt.toNat a1).1 7)).1 26).toInt.toNat (-1)).1 26).toInt.toNat (-1)).1 26).toInt.toNat 0) 227 ((sa (sa (sa (sa (sa s 221 (s.1 26).toInt.toNat a1) 222 ((sa s 221 (s.1 26).toInt.toNat a1).1 26).toInt.toNat ((sa s 221 (s.1 26).toInt.toNat a1).1 7)) 224 ((sa (sa s 221 (s.1 26).toInt.toNat a1) 222 ((sa s 221 (s.1 26).toInt.toNat a1).1 26).toInt.toNat ((sa s 221 (s.1 26).toInt.toNat a1).1 7)).1 26).toInt.toNat (-1)) 225 ((sa (sa (sa s 221 (s.1 26).toInt.toNat a1) 222 ((sa s 221 (s.1 26).toInt.toNat a1).1 26).toInt.toNat ((sa s 221 (s.1 26).toInt.toNat a1).1 7)) 224 ((sa (sa s 221 (s.1 26).toInt.toNat a1) 222 ((sa s 221 (s.1 26).toInt.toNat a1).1 26).toInt.toNat ((sa s 221 (s.1 26).toInt.toNat a1).1 7)).1 26).toInt.toNat (-1)).1 26).toInt.toNat (-1)) 226 ((sa (sa (sa (sa s 221 (s.1 26).toInt.toNat a1) 222 ((sa s 221 (s.1 26).toInt.toNat a1).1 26).toInt.toNat ((sa s 221 (s.1 26).toInt.toNat a1).1 7)) 224 ((sa (sa s 221 (s.1 26).toInt.toNat a1) 222 ((sa s 221 (s.1 26).toInt.toNat a1).1 26).toInt.toNat ((sa s 221 (s.1 26).toInt.toNat a1).1 7)).1 26).toInt.toNat (-1)) 225 ((sa (sa (sa s 221 (s.1 26).toInt.toNat a1) 222 ((sa s 221 (s.1 26).toInt.toNat a1).1 26).toInt.toNat ((sa s 221 (s.1 26).toInt.toNat a1).1 7)) 224 ((sa (sa s 221 (s.1 26).toInt.toNat a1) 222 ((sa s 221 (s.1 26).toInt.toNat a1).1 26).toInt.toNat ((sa s 221 (s.1 26).toInt.toNat a1).1 7)).1 26).toInt.toNat (-1)).1 26).toInt.toNat (-1)).1 26).toInt.toNat 0).1 26).toInt.toNat (-1)).1 26).toInt.toNat (-1)) 229 ((sa (sa (sa (sa (sa (sa (sa s 221 (s.1 26).toInt.toNat a1) 222 ((sa s 221 (s.1 26).toInt.toNat a1).1 26).toInt.toNat ((sa s 221 (s.1 26).toInt.toNat a1).1 7)) 224 ((sa (sa s 221 (s.1 26).toInt.toNat a1) 222 ((sa s 221 (s.1 26).toInt.toNat a1).1 26).toInt.toNat ((sa s 221 (s.1 26).toInt.toNat a1).1 7)).1 26).toInt.toNat (-1)) 225 ((sa (sa (sa s 221 (s.1 26).toInt.toNat a1) 222 ((sa s 221 (s.1 26).toInt.toNat a1).1 26).toInt.toNat ((sa s 221 (s.1 26).toInt.toNat a1).1 7)) 224 ((sa (sa s 221 (s.1 26).toInt.toNat a1) 222 ((sa s 221 (s.1 26).toInt.toNat a1).1 26).toInt.toNat ((sa s 221 (s.1 26).toInt.toNat a1).1 7)).1 26).toInt.toNat (-1)).1 26).toInt.toNat (-1)) 226 ((sa (sa (sa (sa s 221 (s.1 26).toInt.toNat a1) 222 ((sa s 221 (s.1 26).toInt.toNat a1).1 26).toInt.toNat ((sa s 221 (s.1 26).toInt.toNat a1).1 7)) 224 ((sa (sa s 221 (s.1 26).toInt.toNat a1) 222 ((sa s 221 (s.1 26).toInt.toNat a1).1 26).toInt.toNat ((sa s 221 (s.1 26).toInt.toNat a1).1 7)).1 26).toInt.toNat (-1)) 225 ((sa (sa (sa s 221 (s.1 26).toInt.toNat a1) 222 ((sa s 221 (s.1 26).toInt.toNat a1).1 26).toInt.toNat ((sa s 221 (s.1 26).toInt.toNat a1).1 7)) 224 ((sa (sa s 221 (s.1 26).toInt.toNat a1) 222 ((sa s 221 (s.1 26).toInt.toNat a1).1 26).toInt.toNat ((sa s 221 (s.1 26).toInt.toNat a1).1 7)).1 26).toInt.toNat (-1)).1 26).toInt.toNat (-1)).1 26).toInt.toNat 0) 227 ((sa (sa (sa (sa (sa s 221 (s.1 26).toInt.toNat a1) 222 ((sa s 221 (s.1 26).toInt.toNat a1).1 26).toInt.toNat ((sa s 221 (s.1 26).toInt.toNat a1).1 7)) 224 ((sa (sa s 221 (s.1 26).toInt.toNat a1) 222 ((sa s 221 (s.1 26).toInt.toNat a1).1 26).toInt.toNat ((sa s 221 (s.1 26).toInt.toNat a1).1 7)).1 26).toInt.toNat (-1)) 225 ((sa (sa (sa s 221 (s.1 26).toInt.toNat a1) 222 ((sa s 221 (s.1 26).toInt.toNat a1).1 26).toInt.toNat ((sa s 221 (s.1 26).toInt.toNat a1).1 7)) 224 ((sa (sa s 221 (s.1 26).toInt.toNat a1) 222 ((sa s 221 (s.1 26).toInt.toNat a1).1 26).toInt.toNat ((sa s 221 (s.1 26).toInt.toNat a1).1 7)).1 26).toInt.toNat (-1)).1 26).toInt.toNat (-1)) 226 ((sa (sa (sa (sa s 221 (s.1 26).toInt.toNat a1) 222 ((sa s 221 (s.1 26).toInt.toNat a1).1 26).toInt.toNat ((sa s 221 (s.1 26).toInt.toNat a1).1 7)) 224 ((sa (sa s 221 (s.1 26).toInt.toNat a1) 222 ((sa s 221 (s.1 26).toInt.toNat a1).1 26).toInt.toNat ((sa s 221 (s.1 26).toInt.toNat a1).1 7)).1 26).toInt.toNat (-1)) 225 ((sa (sa (sa s 221 (s.1 26).toInt.toNat a1) 222 ((sa s 221 (s.1 26).toInt.toNat a1).1 26).toInt.toNat ((sa s 221 (s.1 26).toInt.toNat a1).1 7)) 224 ((sa (sa s 221 (s.1 26).toInt.toNat a1) 222 ((sa s 221 (s.1 26).toInt.toNat a1).1 26).toInt.toNat ((sa s 221 (s.1 26).toInt.toNat a1).1 7)).1 26).toInt.toNat (-1)).1 26).toInt.toNat (-1)).1 26).toInt.toNat 0).1 26).toInt.toNat (-1)) 228 ((sa (sa (sa (sa (sa (sa s 221 (s.1 26).toInt.toNat a1) 222 ((sa s 221 (s.1 26).toInt.toNat a1).1 26).toInt.toNat ((sa s 221 (s.1 26).toInt.toNat a1).1 7)) 224 ((sa (sa s 221 (s.1 26).toInt.toNat a1) 222 ((sa s 221 (s.1 26).toInt.toNat a1).1 26).toInt.toNat ((sa s 221 (s.1 26).toInt.toNat a1).1 7)).1 26).toInt.toNat (-1)) 225 ((sa (sa (sa s 221 (s.1 26).toInt.toNat a1) 222 ((sa s 221 (s.1 26).toInt.toNat a1).1 26).toInt.toNat ((sa s 221 (s.1 26).toInt.toNat a1).1 7)) 224 ((sa (sa s 221 (s.1 26).toInt.toNat a1) 222 ((sa s 221 (s.1 26).toInt.toNat a1).1 26).toInt.toNat ((sa s 221 (s.1 26).toInt.toNat a1).1 7)).1 26).toInt.toNat (-1)).1 26).toInt.toNat (-1)) 226 ((sa (sa (sa (sa s 221 (s.1 26).toInt.toNat a1) 222 ((sa s 221 (s.1 26).toInt.toNat a1).1 26).toInt.toNat ((sa s 221 (s.1 26).toInt.toNat a1).1 7)) 224 ((sa (sa s 221 (s.1 26).toInt.toNat a1) 222 ((sa s 221 (s.1 26).toInt.toNat a1).1 26).toInt.toNat ((sa s 221 (s.1 26).toInt.toNat a1).1 7)).1 26).toInt.toNat (-1)) 225 ((sa (sa (sa s 221 (s.1 26).toInt.toNat a1) 222 ((sa s 221 (s.1 26).toInt.toNat a1).1 26).toInt.toNat ((sa s 221 (s.1 26).toInt.toNat a1).1 7)) 224 ((sa (sa s 221 (s.1 26).toInt.toNat a1) 222 ((sa s 221 (s.1 26).toInt.toNat a1).1 26).toInt.toNat ((sa s 221 (s.1 26).toInt.toNat a1).1 7)).1 26).toInt.toNat (-1)).1 26).toInt.toNat (-1)).1 26).toInt.toNat 0) 227 ((sa (sa (sa (sa (sa s 221 (s.1 26).toInt.toNat a1) 222 ((sa s 221 (s.1 26).toInt.toNat a1).1 26).toInt.toNat ((sa s 221 (s.1 26).toInt.toNat a1).1 7)) 224 ((sa (sa s 221 (s.1 26).toInt.toNat a1) 222 ((sa s 221 (s.1 26).toInt.toNat a1).1 26).toInt.toNat ((sa s 221 (s.1 26).toInt.toNat a1).1 7)).1 26).toInt.toNat (-1)) 225 ((sa (sa (sa s 221 (s.1 26).toInt.toNat a1) 222 ((sa s 221 (s.1 26).toInt.toNat a1).1 26).toInt.toNat ((sa s 221 (s.1 26).toInt.toNat a1).1 7)) 224 ((sa (sa s 221 (s.1 26).toInt.toNat a1) 222 ((sa s 221 (s.1 26).toInt.toNat a1).1 26).toInt.toNat ((sa s 221 (s.1 26).toInt.toNat a1).1 7)).1 26).toInt.toNat (-1)).1 26).toInt.toNat (-1)) 226 ((sa (sa (sa (sa s 221 (s.1 26).toInt.toNat a1) 222 ((sa s 221 (s.1 26).toInt.toNat a1).1 26).toInt.toNat ((sa s 221 (s.1 26).toInt.toNat a1).1 7)) 224 ((sa (sa s 221 (s.1 26).toInt.toNat a1) 222 ((sa s 221 (s.1 26).toInt.toNat a1).1 26).toInt.toNat ((sa s 221 (s.1 26).toInt.toNat a1).1 7)).1 26).toInt.toNat (-1)) 225 ((sa (sa (sa s 221 (s.1 26).toInt.toNat a1) 222 ((sa s 221 (s.1 26).toInt.toNat a1).1 26).toInt.toNat ((sa s 221 (s.1 26).toInt.toNat a1).1 7)) 224 ((sa (sa s 221 (s.1 26).toInt.toNat a1) 222 ((sa s 221 (s.1 26).toInt.toNat a1).1 26).toInt.toNat ((sa s 221 (s.1 26).toInt.toNat a1).1 7)).1 26).toInt.toNat (-1)).1 26).toInt.toNat (-1)).1 26).toInt.toNat 0).1 26).toInt.toNat (-1)).1 26).toInt.toNat (-1)).1 26).toInt.toNat (-1)) 230 ((sa (sa (sa (sa (sa (sa (sa (sa s 221 (s.1 26).toInt.toNat a1) 222 ((sa s 221 (s.1 26).toInt.toNat a1).1 26).toInt.toNat ((sa s 221 (s.1 26).toInt.toNat a1).1 7)) 224 ((sa (sa s 221 (s.1 26).toInt.toNat a1) 222 ((sa s 221 (s.1 26).toInt.toNat a1).1 26).toInt.toNat ((sa s 221 (s.1 26).toInt.toNat a1).1 7)).1 26).toInt.toNat (-1)) 225 ((sa (sa (sa s 221 (s.1 26).toInt.toNat a1) 222 ((sa s 221 (s.1 26).toInt.toNat a1).1 26).toInt.toNat ((sa s 221 (s.1 26).toInt.toNat a1).1 7)) 224 ((sa (sa s 221 (s.1 26).toInt.toNat a1) 222 ((sa s 221 (s.1 26).toInt.toNat a1).1 26).toInt.toNat ((sa s 221 (s.1 26).toInt.toNat a1).1 7)).1 26).toInt.toNat (-1)).1 26).toInt.toNat (-1)) 226 ((sa (sa (sa (sa s 221 (s.1 26).toInt.toNat a1) 222 ((sa s 221 (s.1 26).toInt.toNat a1).1 26).toInt.toNat ((sa s 221 (s.1 26).toInt.toNat a1).1 7)) 224 ((sa (sa s 221 (s.1 26).toInt.toNat a1) 222 ((sa s 221 (s.1 26).toInt.toNat a1).1 26).toInt.toNat ((sa s 221 (s.1 26).toInt.toNat a1).1 7)).1 26).toInt.toNat (-1)) 225 ((sa (sa (sa s 221 (s.1 26).toInt.toNat a1) 222 ((sa s 221 (s.1 26).toInt.toNat a1).1 26).toInt.toNat ((sa s 221 (s.1 26).toInt.toNat a1).1 7)) 224 ((sa (sa s 221 (s.1 26).toInt.toNat a1) 222 ((sa s 221 (s.1 26).toInt.toNat a1).1 26).toInt.toNat ((sa s 221 (s.1 26).toInt.toNat a1).1 7)).1 26).toInt.toNat (-1)).1 26).toInt.toNat (-1)).1 26).toInt.toNat 0) 227 ((sa (sa (sa (sa (sa s 221 (s.1 26).toInt.toNat a1) 222 ((sa s 221 (s.1 26).toInt.toNat a1).1 26).toInt.toNat ((sa s 221 (s.1 26).toInt.toNat a1).1 7)) 224 ((sa (sa s 221 (s.1 26).toInt.toNat a1) 222 ((sa s 221 (s.1 26).toInt.toNat a1).1 26).toInt.toNat ((sa s 221 (s.1 26).toInt.toNat a1).1 7)).1 26).toInt.toNat (-1)) 225 ((sa (sa (sa s 221 (s.1 26).toInt.toNat a1) 222 ((sa s 221 (s.1 26).toInt.toNat a1).1 26).toInt.toNat ((sa s 221 (s.1 26).toInt.toNat a1).1 7)) 224 ((sa (sa s 221 (s.1 26).toInt.toNat a1) 222 ((sa s 221 (s.1 26).toInt.toNat a1).1 26).toInt.toNat ((sa s 221 (s.1 26).toInt.toNat a1).1 7)).1 26).toInt.toNat (-1)).1 26).toInt.toNat (-1)) 226 ((sa (sa (sa (sa s 221 (s.1 26).toInt.toNat a1) 222 ((sa s 221 (s.1 26).toInt.toNat a1).1 26).toInt.toNat ((sa s 221 (s.1 26).toInt.toNat a1).1 7)) 224 ((sa (sa s 221 (s.1 26).toInt.toNat a1) 222 ((sa s 221 (s.1 26).toInt.toNat a1).1 26).toInt.toNat ((sa s 221 (s.1 26).toInt.toNat a1).1 7)).1 26).toInt.toNat (-1)) 225 ((sa (sa (sa s 221 (s.1 26).toInt.toNat a1) 222 ((sa s 221 (s.1 26).toInt.toNat a1).1 26).toInt.toNat ((sa s 221 (s.1 26).toInt.toNat a1).1 7)) 224 ((sa (sa s 221 (s.1 26).toInt.toNat a1) 222 ((sa s 221 (s.1 26).toInt.toNat a1).1 26).toInt.toNat ((sa s 221 (s.1 26).toInt.toNat a1).1 7)).1 26).toInt.toNat (-1)).1 26).toInt.toNat (-1)).1 26).toInt.toNat 0).1 26).toInt.toNat (-1)) 228 ((sa (sa (sa (sa (sa (sa s 221 (s.1 26).toInt.toNat a1) 222 ((sa s 221 (s.1 26).toInt.toNat a1).1 26).toInt.toNat ((sa s 221 (s.1 26).toInt.toNat a1).1 7)) 224 ((sa (sa s 221 (s.1 26).toInt.toNat a1) 222 ((sa s 221 (s.1 26).toInt.toNat a1).1 26).toInt.toNat ((sa s 221 (s.1 26).toInt.toNat a1).1 7)).1 26).toInt.toNat (-1)) 225 ((sa (sa (sa s 221 (s.1 26).toInt.toNat a1) 222 ((sa s 221 (s.1 26).toInt.toNat a1).1 26).toInt.toNat ((sa s 221 (s.1 26).toInt.toNat a1).1 7)) 224 ((sa (sa s 221 (s.1 26).toInt.toNat a1) 222 ((sa s 221 (s.1 26).toInt.toNat a1).1 26).toInt.toNat ((sa s 221 (s.1 26).toInt.toNat a1).1 7)).1 26).toInt.toNat (-1)).1 26).toInt.toNat (-1)) 226 ((sa (sa (sa (sa s 221 (s.1 26).toInt.toNat a1) 222 ((sa s 221 (s.1 26).toInt.toNat a1).1 26).toInt.toNat ((sa s 221 (s.1 26).toInt.toNat a1).1 7)) 224 ((sa (sa s 221 (s.1 26).toInt.toNat a1) 222 ((sa s 221 (s.1 26).toInt.toNat a1).1 26).toInt.toNat ((sa s 221 (s.1 26).toInt.toNat a1).1 7)).1 26).toInt.toNat (-1)) 225 ((sa (sa (sa s 221 (s.1 26).toInt.toNat a1) 222 ((sa s 221 (s.1 26).toInt.toNat a1).1 26).toInt.toNat ((sa s 221 (s.1 26).toInt.toNat a1).1 7)) 224 ((sa (sa s 221 (s.1 26).toInt.toNat a1) 222 ((sa s 221 (s.1 26).toInt.toNat a1).1 26).toInt.toNat ((sa s 221 (s.1 26).toInt.toNat a1).1 7)).1 26).toInt.toNat (-1)).1 26).toInt.toNat (-1)).1 26).toInt.toNat 0) 227 ((sa (sa (sa (sa (sa s 221 (s.1 26).toInt.toNat a1) 222 ((sa s 221 (s.1 26).toInt.toNat a1).1 26).toInt.toNat ((sa s 221 (s.1 26).toInt.toNat a1).1 7)) 224 ((sa (sa s 221 (s.1 26).toInt.toNat a1) 222 ((sa s 221 (s.1 26).toInt.toNat a1).1 26).toInt.toNat ((sa s 221 (s.1 26).toInt.toNat a1).1 7)).1 26).toInt.toNat (-1)) 225 ((sa (sa (sa s 221 (s.1 26).toInt.toNat a1) 222 ((sa s 221 (s.1 26).toInt.toNat a1).1 26).toInt.toNat ((sa s 221 (s.1 26).toInt.toNat a1).1 7)) 224 ((sa (sa s 221 (s.1 26).toInt.toNat a1) 222 ((sa s 221 (s.1 26).toInt.toNat a1).1 26).toInt.toNat ((sa s 221 (s.1 26).toInt.toNat a1).1 7)).1 26).toInt.toNat (-1)).1 26).toInt.toNat (-1)) 226 ((sa (sa (sa (sa s 221 (s.1 26).toInt.toNat a1) 222 ((sa s 221 (s.1 26).toInt.toNat a1).1 26).toInt.toNat ((sa s 221 (s.1 26).toInt.toNat a1).1 7)) 224 ((sa (sa s 221 (s.1 26).toInt.toNat a1) 222 ((sa s 221 (s.1 26).toInt.toNat a1).1 26).toInt.toNat ((sa s 221 (s.1 26).toInt.toNat a1).1 7)).1 26).toInt.toNat (-1)) 225 ((sa (sa (sa s 221 (s.1 26).toInt.toNat a1) 222 ((sa s 221 (s.1 26).toInt.toNat a1).1 26).toInt.toNat ((sa s 221 (s.1 26).toInt.toNat a1).1 7)) 224 ((sa (sa s 221 (s.1 26).toInt.toNat a1) 222 ((sa s 221 (s.1 26).toInt.toNat a1).1 26).toInt.toNat ((sa s 221 (s.1 26).toInt.toNat a1).1 7)).1 26).toInt.toNat (-1)).1 26).toInt.toNat (-1)).1 26).toInt.toNat 0).1 26).toInt.toNat (-1)).1 26).toInt.toNat (-1)) 229 ((sa (sa (sa (sa (sa (sa (sa s 221 (s.1 26).toInt.toNat a1) 222 ((sa s 221 (s.1 26).toInt.toNat a1).1 26).toInt.toNat ((sa s 221 (s.1 26).toInt.toNat a1).1 7)) 224 ((sa (sa s 221 (s.1 26).toInt.toNat a1) 222 ((sa s 221 (s.1 26).toInt.toNat a1).1 26).toInt.toNat ((sa s 221 (s.1 26).toInt.toNat a1).1 7)).1 26).toInt.toNat (-1)) 225 ((sa (sa (sa s 221 (s.1 26).toInt.toNat a1) 222 ((sa s 221 (s.1 26).toInt.toNat a1).1 26).toInt.toNat ((sa s 221 (s.1 26).toInt.toNat a1).1 7)) 224 ((sa (sa s 221 (s.1 26).toInt.toNat a1) 222 ((sa s 221 (s.1 26).toInt.toNat a1).1 26).toInt.toNat ((sa s 221 (s.1 26).toInt.toNat a1).1 7)).1 26).toInt.toNat (-1)).1 26).toInt.toNat (-1)) 226 ((sa (sa (sa (sa s 221 (s.1 26).toInt.toNat a1) 222 ((sa s 221 (s.1 26).toInt.toNat a1).1 26).toInt.toNat ((sa s 221 (s.1 26).toInt.toNat a1).1 7)) 224 ((sa (sa s 221 (s.1 26).toInt.toNat a1) 222 ((sa s 221 (s.1 26).toInt.toNat a1).1 26).toInt.toNat ((sa s 221 (s.1 26).toInt.toNat a1).1 7)).1 26).toInt.toNat (-1)) 225 ((sa (sa (sa s 221 (s.1 26).toInt.toNat a1) 222 ((sa s 221 (s.1 26).toInt.toNat a1).1 26).toInt.toNat ((sa s 221 (s.1 26).toInt.toNat a1).1 7)) 224 ((sa (sa s 221 (s.1 26).toInt.toNat a1) 222 ((sa s 221 (s.1 26).toInt.toNat a1).1 26).toInt.toNat ((sa s 221 (s.1 26).toInt.toNat a1).1 7)).1 26).toInt.toNat (-1)).1 26).toInt.toNat (-1)).1 26).toInt.toNat 0) 227 ((sa (sa (sa (sa (sa s 221 (s.1 26).toInt.toNat a1) 222 ((sa s 221 (s.1 26).toInt.toNat a1).1 26).toInt.toNat ((sa s 221 (s.1 26).toInt.toNat a1).1 7)) 224 ((sa (sa s 221 (s.1 26).toInt.toNat a1) 222 ((sa s 221 (s.1 26).toInt.toNat a1).1 26).toInt.toNat ((sa s 221 (s.1 26).toInt.toNat a1).1 7)).1 26).toInt.toNat (-1)) 225 ((sa (sa (sa s 221 (s.1 26).toInt.toNat a1) 222 ((sa s 221 (s.1 26).toInt.toNat a1).1 26).toInt.toNat ((sa s 221 (s.1 26).toInt.toNat a1).1 7)) 224 ((sa (sa s 221 (s.1 26).toInt.toNat a1) 222 ((sa s 221 (s.1 26).toInt.toNat a1).1 26).toInt.toNat ((sa s 221 (s.1 26).toInt.toNat a1).1 7)).1 26).toInt.toNat (-1)).1 26).toInt.toNat (-1)) 226 ((sa (sa (sa (sa s 221 (s.1 26).toInt.toNat a1) 222 ((sa s 221 (s.1 26).toInt.toNat a1).1 26).toInt.toNat ((sa s 221 (s.1 26).toInt.toNat a1).1 7)) 224 ((sa (sa s 221 (s.1 26).toInt.toNat a1) 222 ((sa s 221 (s.1 26).toInt.toNat a1).1 26).toInt.toNat ((sa s 221 (s.1 26).toInt.toNat a1).1 7)).1 26).toInt.toNat (-1)) 225 ((sa (sa (sa s 221 (s.1 26).toInt.toNat a1) 222 ((sa s 221 (s.1 26).toInt.toNat a1).1 26).toInt.toNat ((sa s 221 (s.1 26).toInt.toNat a1).1 7)) 224 ((sa (sa s 221 (s.1 26).toInt.toNat a1) 222 ((sa s 221 (s.1 26).toInt.toNat a1).1 26).toInt.toNat ((sa s 221 (s.1 26).toInt.toNat a1).1 7)).1 26).toInt.toNat (-1)).1 26).toInt.toNat (-1)).1 26).toInt.toNat 0).1 26).toInt.toNat (-1)) 228 ((sa (sa (sa (sa (sa (sa s 221 (s.1 26).toInt.toNat a1) 222 ((sa s 221 (s.1 26).toInt.toNat a1).1 26).toInt.toNat ((sa s 221 (s.1 26).toInt.toNat a1).1 7)) 224 ((sa (sa s 221 (s.1 26).toInt.toNat a1) 222 ((sa s 221 (s.1 26).toInt.toNat a1).1 26).toInt.toNat ((sa s 221 (s.1 26).toInt.toNat a1).1 7)).1 26).toInt.toNat (-1)) 225 ((sa (sa (sa s 221 (s.1 26).toInt.toNat a1) 222 ((sa s 221 (s.1 26).toInt.toNat a1).1 26).toInt.toNat ((sa s 221 (s.1 26).toInt.toNat a1).1 7)) 224 ((sa (sa s 221 (s.1 26).toInt.toNat a1) 222 ((sa s 221 (s.1 26).toInt.toNat a1).1 26).toInt.toNat ((sa s 221 (s.1 26).toInt.toNat a1).1 7)).1 26).toInt.toNat (-1)).1 26).toInt.toNat (-1)) 226 ((sa (sa (sa (sa s 221 (s.1 26).toInt.toNat a1) 222 ((sa s 221 (s.1 26).toInt.toNat a1).1 26).toInt.toNat ((sa s 221 (s.1 26).toInt.toNat a1).1 7)) 224 ((sa (sa s 221 (s.1 26).toInt.toNat a1) 222 ((sa s 221 (s.1 26).toInt.toNat a1).1 26).toInt.toNat ((sa s 221 (s.1 26).toInt.toNat a1).1 7)).1 26).toInt.toNat (-1)) 225 ((sa (sa (sa s 221 (s.1 26).toInt.toNat a1) 222 ((sa s 221 (s.1 26).toInt.toNat a1).1 26).toInt.toNat ((sa s 221 (s.1 26).toInt.toNat a1).1 7)) 224 ((sa (sa s 221 (s.1 26).toInt.toNat a1) 222 ((sa s 221 (s.1 26).toInt.toNat a1).1 26).toInt.toNat ((sa s 221 (s.1 26).toInt.toNat a1).1 7)).1 26).toInt.toNat (-1)).1 26).toInt.toNat (-1)).1 26).toInt.toNat 0) 227 ((sa (sa (sa (sa (sa s 221 (s.1 26).toInt.toNat a1) 222 ((sa s 221 (s.1 26).toInt.toNat a1).1 26).toInt.toNat ((sa s 221 (s.1 26).toInt.toNat a1).1 7)) 224 ((sa (sa s 221 (s.1 26).toInt.toNat a1) 222 ((sa s 221 (s.1 26).toInt.toNat a1).1 26).toInt.toNat ((sa s 221 (s.1 26).toInt.toNat a1).1 7)).1 26).toInt.toNat (-1)) 225 ((sa (sa (sa s 221 (s.1 26).toInt.toNat a1) 222 ((sa s 221 (s.1 26).toInt.toNat a1).1 26).toInt.toNat ((sa s 221 (s.1 26).toInt.toNat a1).1 7)) 224 ((sa (sa s 221 (s.1 26).toInt.toNat a1) 222 ((sa s 221 (s.1 26).toInt.toNat a1).1 26).toInt.toNat ((sa s 221 (s.1 26).toInt.toNat a1).1 7)).1 26).toInt.toNat (-1)).1 26).toInt.toNat (-1)) 226 ((sa (sa (sa (sa s 221 (s.1 26).toInt.toNat a1) 222 ((sa s 221 (s.1 26).toInt.toNat a1).1 26).toInt.toNat ((sa s 221 (s.1 26).toInt.toNat a1).1 7)) 224 ((sa (sa s 221 (s.1 26).toInt.toNat a1) 222 ((sa s 221 (s.1 26).toInt.toNat a1).1 26).toInt.toNat ((sa s 221 (s.1 26).toInt.toNat a1).1 7)).1 26).toInt.toNat (-1)) 225 ((sa (sa (sa s 221 (s.1 26).toInt.toNat a1) 222 ((sa s 221 (s.1 26).toInt.toNat a1).1 26).toInt.toNat ((sa s 221 (s.1 26).toInt.toNat a1).1 7)) 224 ((sa (sa s 221 (s.1 26).toInt.toNat a1) 222 ((sa s 221 (s.1 26).toInt.toNat a1).1 26).toInt.toNat ((sa s 221 (s.1 26).toInt.toNat a1).1 7)).1 26).toInt.toNat (-1)).1 26).toInt.toNat (-1)).1 26).toInt.toNat 0).1 26).toInt.toNat (-1)).1 26).toInt.toNat (-1)).1 26).toInt.toNat (-1)).1 26).toInt.toNat 0).1 26) + 1)).1 26)] _ _
  refine g_c [.int 1, .int ((sf (sa (sa (sa (sa (sa (sa (sa (sa (sa s 221 (s.1 26).toInt.toNat a1) 222 ((sa s 221 (s.1 26).toInt.toNat a1).1 26).toInt.toNat ((sa s 221 (s.1 26).toInt.toNat a1).1 7)) 224 ((sa (sa s 221 (s.1 26).toInt.toNat a1) 222 ((sa s 221 (s.1 26).toInt.toNat a1).1 26).toInt.toNat ((sa s 221 (s.1 26).toInt.toNat a1).1 7)).1 26).toInt.toNat (-1)) 225 ((sa (sa (sa s 221 (s.1 26).toInt.toNat a1) 222 ((sa s 221 (s.1 26).toInt.toNat a1).1 26).toInt.toNat ((sa s 221 (s.1 26).toInt.toNat a1).1 7)) 224 ((sa (sa s 221 (s.1 26).toInt.toNat a1) 222 ((sa s 221 (s.1 26).toInt.toNat a1).1 26).toInt.toNat ((sa s 221 (s.1 26).toInt.toNat a1).1 7)).1 26).toInt.toNat (-1)).1 26).toInt.toNat (-1)) 226 ((sa (sa (sa (sa s 221 (s.1 26).toInt.toNat a1) 222 ((sa s 221 (s.1 26).toInt.toNat a1).1 26).toInt.toNat ((sa s 221 (s.1 26).toInt.toNat a1).1 7)) 224 ((sa (sa s 221 (s.1 26).toInt.toNat a1) 222 ((sa s 221 (s.1 26).toInt.toNat a1).1 26).toInt.toNat ((sa s 221 (s.1 26).toInt.toNat a1).1 7)).1 26).toInt.toNat (-1)) 225 ((sa (sa (sa s 221 (s.1 26).toInt.toNat a1) 222 ((sa s 221 (s.1 26).toInt.toNat a1).1 26).toInt.toNat ((sa s 221 (s.1 26).toInt.toNat a1).1 7)) 224 ((sa (sa s 221 (s.1 26).toInt.toNat a1) 222 ((sa s 221 (s.1 26).toInt.toNat a1).1 26).toInt.toNat ((sa s 221 (s.1 26).toInt.toNat a1).1 7)).1 26).toInt.toNat (-1)).1 26).toInt.toNat (-1)).1 26).toInt.toNat 0) 227 ((sa (sa (sa (sa (sa s 221 (s.1 26).toInt.toNat a1) 222 ((sa s 221 (s.1 26).toInt.toNat a1).1 26).toInt.toNat ((sa s 221 (s.1 26).toInt.toNat a1).1 7)) 224 ((sa (sa s 221 (s.1 26).toInt.toNat a1) 222 ((sa s 221 (s.1 26).toInt.toNat a1).1 26).toInt.toNat ((sa s 221 (s.1 26).toInt.toNat a1).1 7)).1 26).toInt.toNat (-1)) 225 ((sa (sa (sa s 221 (s.1 26).toInt.toNat a1) 222 ((sa s 221 (s.1 26).toInt.toNat a1).1 26).toInt.toNat ((sa s 221 (s.1 26).toInt.toNat a1).1 7)) 224 ((sa (sa s 221 (s.1 26).toInt.toNat a1) 222 ((sa s 221 (s.1 26).toInt.toNat a1).1 26).toInt.toNat ((sa s 221 (s.1 26).toInt.toNat a1).1 7)).1 26).toInt.toNat (-1)).1 26).toInt.toNat (-1)) 226 ((sa (sa (sa (sa s 221 (s.1 26).toInt.toNat a1) 222 ((sa s 221 (s.1 26).toInt.toNat a1).1 26).toInt.toNat ((sa s 221 (s.1 26).toInt.toNat a1).1 7)) 224 ((sa (sa s 221 (s.1 26).toInt.toNat a1) 222 ((sa s 221 (s.1 26).toInt.toNat a1).1 26).toInt.toNat ((sa s 221 (s.1 26).toInt.toNat a1).1 7)).1 26).toInt.toNat (-1)) 225 ((sa (sa (sa s 221 (s.1 26).toInt.toNat a1) 222 ((sa s 221 (s.1 26).toInt.toNat a1).1 26).toInt.toNat ((sa s 221 (s.1 26).toInt.toNat a1).1 7)) 224 ((sa (sa s 221 (s.1 26).toInt.toNat a1) 222 ((sa s 221 (s.1 26).toInt.toNat a1).1 26).toInt.toNat ((sa s 221 (s.1 26).toInt.toNat a1).1 7)).1 26).toInt.toNat (-1)).1 26).toInt.toNat (-1)).1 26).toInt.toNat 0).1 26).toInt.toNat (-1)) 228 ((sa (sa (sa (sa (sa (sa s 221 (s.1 26).toInt.toNat a1) 222 ((sa s 221 (s.1 26).toInt.toNat a1).1 26).toInt.toNat ((sa s 221 (s.1 26).toInt.toNat a1).1 7)) 224 ((sa (sa s 221 (s.1 26).toInt.toNat a1) 222 ((sa s 221 (s.1 26).toInt.toNat a1).1 26).toInt.toNat ((sa s 221 (s.1 26).toInt.toNat a1).1 7)).1 26).toInt.toNat (-1)) 225 ((sa (sa (sa s 221 (s.1 26).toInt.toNat a1) 222 ((sa s 221 (s.1 26).toInt.toNat a1).1 26).toInt.toNat ((sa s 221 (s.1 26).toInt.toNat a1).1 7)) 224 ((sa (sa s 221 (s.1 26).toInt.toNat a1) 222 ((sa s 221 (s.1 26).toInt.toNat a1).1 26).toInt.toNat ((sa s 221 (s.1 26).toInt.toNat a1).1 7)).1 26).toInt.toNat (-1)).1 26).toInt.toNat (-1)) 226 ((sa (sa (sa (sa s 221 (s.1 26).toInt.toNat a1) 222 ((sa s 221 (s.1 26).toInt.toNat a1).1 26).toInt.toNat ((sa s 221 (s.1 26).toInt.toNat a1).1 7)) 224 ((sa (sa s 221 (s.1 26).toInt.toNat a1) 222 ((sa s 221 (s.1 26).toInt.toNat a1).1 26).toInt.toNat ((sa s 221 (s.1 26).toInt.toNat a1).1 7)).1 26).toInt.toNat (-1)) 225 ((sa (sa (sa s 221 (s.1 26).toInt.toNat a1) 222 ((sa s 221 (s.1 26).toInt.toNat a1).1 26).toInt.toNat ((sa s 221 (s.1 26).toInt.toNat a1).1 7)) 224 ((sa (sa s 221 (s.1 26).toInt.toNat a1) 222 ((sa s 221 (s.1 26).toInt.toNat a1).1 26).toInt.toNat ((sa s 221 (s.1 26).toInt.toNat a1).1 7)).1 26).toInt.toNat (-1)).1 26).toInt.toNat (-1)).1 26).toInt.toNat 0) 227 ((sa (sa (sa (sa (sa s 221 (s.1 26).toInt.toNat a1) 222 ((sa s 221 (s.1 26).toInt.toNat a1).1 26).toInt.toNat ((sa s 221 (s.1 26).toInt.toNat a1).1 7)) 224 ((sa (sa s 221 (s.1 26).toInt.toNat a1) 222 ((sa s 221 (s.1 26).toInt.toNat a1).1 26).toInt.toNat ((sa s 221 (s.1 26).toInt.toNat a1).1 7)).1 26).toInt.toNat (-1)) 225 ((sa (sa (sa s 221 (s.1 26).toInt.toNat a1) 222 ((sa s 221 (s.1 26).toInt.toNat a1).1 26).toInt.toNat ((sa s 221 (s.1 26).toInt.toNat a1).1 7)) 224 ((sa (sa s 221 (s.1 26).toInt.toNat a1) 222 ((sa s 221 (s.1 26).toInt.toNat a1).1 26).toInt.toNat ((sa s 221 (s.1 26).toInt.toNat a1).1 7)).1 26).toInt.toNat (-1)).1 26).toInt.toNat (-1)) 226 ((sa (sa (sa (sa s 221 (s.1 26).toInt.toNat a1) 222 ((sa s 221 (s.1 26).toInt.toNat a1).1 26).toInt.toNat ((sa s 221 (s.1 26).toInt.toNat a1).1 7)) 224 ((sa (sa s 221 (s.1 26).toInt.toNat a1) 222 ((sa s 221 (s.1 26).toInt.toNat a1).1 26).toInt.toNat ((sa s 221 (s.1 26).toInt.toNat a1).1 7)).1 26).toInt.toNat (-1)) 225 ((sa (sa (sa s 221 (s.1 26).toInt.toNat a1) 222 ((sa s 221 (s.1 26).toInt.toNat a1).1 26).toInt.toNat ((sa s 221 (s.1 26).toInt.toNat a1).1 7)) 224 ((sa (sa s 221 (s.1 26).toInt.toNat a1) 222 ((sa s 221 (s.1 26).toInt.toNat a1).1 26).toInt.toNat ((sa s 221 (s.1 26).toInt.toNat a1).1 7)).1 26).toInt.toNat (-1)).1 26).toInt.toNat (-1)).1 26).toInt.toNat 0).1 26).toInt.toNat (-1)).1 26).toInt.toNat (-1)) 229 ((sa (sa (sa (sa (sa (sa (sa s 221 (s.1 26).toInt.toNat a1) 222 ((sa s 221 (s.1 26).toInt.toNat a1).1 26).toInt.toNat ((sa s 221 (s.1 26).toInt.toNat a1).1 7)) 224 ((sa (sa s 221 (s.1 26).toInt.toNat a1) 222 ((sa s 221 (s.1 26).toInt.toNat a1).1 26).toInt.toNat ((sa s 221 (s.1 26).toInt.toNat a1).1 7)).1 26).toInt.toNat (-1)) 225 ((sa (sa (sa s 221 (s.1 26).toInt.toNat a1) 222 ((sa s 221 (s.1 26).toInt.toNat a1).1 26).toInt.toNat ((sa s 221 (s.1 26).toInt.toNat a1).1 7)) 224 ((sa (sa s 221 (s.1 26).toInt.toNat a1) 222 ((sa s 221 (s.1 26).toInt.toNat a1).1 26).toInt.toNat ((sa s 221 (s.1 26).toInt.toNat a1).1 7)).1 26).toInt.toNat (-1)).1 26).toInt.toNat (-1)) 226 ((sa (sa (sa (sa s 221 (s.1 26).toInt.toNat a1) 222 ((sa s 221 (s.1 26).toInt.toNat a1).1 26).toInt.toNat ((sa s 221 (s.1 26).toInt.toNat a1).1 7)) 224 ((sa (sa s 221 (s.1 26).toInt.toNat a1) 222 ((sa s 221 (s.1 26).toInt.toNat a1).1 26).toInt.toNat ((sa s 221 (s.1 26).toInt.toNat a1).1 7)).1 26).toInt.toNat (-1)) 225 ((sa (sa (sa s 221 (s.1 26).toInt.toNat a1) 222 ((sa s 221 (s.1 26).toInt.toNat a1).1 26).toInt.toNat ((sa s 221 (s.1 26).toInt.toNat a1).1 7)) 224 ((sa (sa s 221 (s.1 26).toInt.toNat a1) 222 ((sa s 221 (s.1 26).toInt.toNat a1).1 26).toInt.toNat ((sa s 221 (s.1 26).toInt.toNat a1).1 7)).1 26).toInt.toNat (-1)).1 26).toInt.toNat (-1)).1 26).toInt.toNat 0) 227 ((sa (sa (sa (sa (sa s 221 (s.1 26).toInt.toNat a1) 222 ((sa s 221 (s.1 26).toInt.toNat a1).1 26).toInt.toNat ((sa s 221 (s.1 26).toInt.toNat a1).1 7)) 224 ((sa (sa s 221 (s.1 26).toInt.toNat a1) 222 ((sa s 221 (s.1 26).toInt.toNat a1).1 26).toInt.toNat ((sa s 221 (s.1 26).toInt.toNat a1).1 7)).1 26).toInt.toNat (-1)) 225 ((sa (sa (sa s 221 (s.1 26).toInt.toNat a1) 222 ((sa s 221 (s.1 26).toInt.toNat a1).1 26).toInt.toNat ((sa s 221 (s.1 26).toInt.toNat a1).1 7)) 224 ((sa (sa s 221 (s.1 26).toInt.toNat a1) 222 ((sa s 221 (s.1 26).toInt.toNat a1).1 26).toInt.toNat ((sa s 221 (s.1 26).toInt.toNat a1).1 7)).1 26).toInt.toNat (-1)).1 26).toInt.toNat (-1)) 226 ((sa (sa (sa (sa s 221 (s.1 26).toInt.toNat a1) 222 ((sa s 221 (s.1 26).toInt.toNat a1).1 26).toInt.toNat ((sa s 221 (s.1 26).toInt.toNat a1).1 7)) 224 ((sa (sa s 221 (s.1 26).toInt.toNat a1) 222 ((sa s 221 (s.1 26).toInt.toNat a1).1 26).toInt.toNat ((sa s 221 (s.1 26).toInt.toNat a1).1 7)).1 26).toInt.toNat (-1)) 225 ((sa (sa (sa s 221 (s.1 26).toInt.toNat a1) 222 ((sa s 221 (s.1 26).toInt.toNat a1).1 26).toInt.toNat ((sa s 221 (s.1 26).toInt.toNat a1).1 7)) 224 ((sa (sa s 221 (s.1 26).toInt.toNat a1) 222 ((sa s 221 (s.1 26).toInt.toNat a1).1 26).toInt.toNat ((sa s 221 (s.1 26).toInt.toNat a1).1 7)).1 26).toInt.toNat (-1)).1 26).toInt.toNat (-1)).1 26).toInt.toNat 0).1 26).toInt.toNat (-1)) 228 ((sa (sa (sa (sa (sa (sa s 221 (s.1 26).toInt.toNat a1) 222 ((sa s 221 (s.1 26).toInt.toNat a1).1 26).toInt.toNat ((sa s 221 (s.1 26).toInt.toNat a1).1 7)) 224 ((sa (sa s 221 (s.1 26).toInt.toNat a1) 222 ((sa s 221 (s.1 26).toInt.toNat a1).1 26).toInt.toNat ((sa s 221 (s.1 26).toInt.toNat a1).1 7)).1 26).toInt.toNat (-1)) 225 ((sa (sa (sa s 221 (s.1 26).toInt.toNat a1) 222 ((sa s 221 (s.1 26).toInt.toNat a1).1 26).toInt.toNat ((sa s 221 (s.1 26).toInt.toNat a1).1 7)) 224 ((sa (sa s 221 (s.1 26).toInt.toNat a1) 222 ((sa s 221 (s.1 26).toInt.toNat a1).1 26).toInt.toNat ((sa s 221 (s.1 26).toInt.toNat a1).1 7)).1 26).toInt.toNat (-1)).1 26).toInt.toNat (-1)) 226 ((sa (sa (sa (sa s 221 (s.1 26).toInt.toNat a1) 222 ((sa s 221 (s.1 26).toInt.toNat a1).1 26).toInt.toNat ((sa s 221 (s.1 26).toInt.toNat a1).1 7)) 224 ((sa (sa s 221 (s.1 26).toInt.toNat a1) 222 ((sa s 221 (s.1 26).toInt.toNat a1).1 26).toInt.toNat ((sa s 221 (s.1 26).toInt.toNat a1).1 7)).1 26).toInt.toNat (-1)) 225 ((sa (sa (sa s 221 (s.1 26).toInt.toNat a1) 222 ((sa s 221 (s.1 26).toInt.toNat a1).1 26).toInt.toNat ((sa s 221 (s.1 26).toInt.toNat a1).1 7)) 224 ((sa (sa s 221 (s.1 26).toInt.toNat a1) 222 ((sa s 221 (s.1 26).toInt.toNat a1).1 26).toInt.toNat ((sa s 221 (s.1 26).toInt.toNat a1).1 7)).1 26).toInt.toNat (-1)).1 26).toInt.toNat (-1)).1 26).toInt.toNat 0) 227 ((sa (sa (sa (sa (sa s 221 (s.1 26).toInt.toNat a1) 222 ((sa s 221 (s.1 26).toInt.toNat a1).1 26).toInt.toNat ((sa s 221 (s.1 26).toInt.toNat a1).1 7)) 224 ((sa (sa s 221 (s.1 26).toInt.toNat a1) 222 ((sa s 221 (s.1 26).toInt.toNat a1).1 26).toInt.toNat ((sa s 221 (s.1 26).toInt.toNat a1).1 7)).1 26).toInt.toNat (-1)) 225 ((sa (sa (sa s 221 (s.1 26).toInt.toNat a1) 222 ((sa s 221 (s.1 26).toInt.toNat a1).1 26).toInt.toNat ((sa s 221 (s.1 26).toInt.toNat a1).1 7)) 224 ((sa (sa s 221 (s.1 26).toInt.toNat a1) 222 ((sa s 221 (s.1 26).toInt.toNat a1).1 26).toInt.toNat ((sa s 221 (s.1 26).toInt.toNat a1).1 7)).1 26).toInt.toNat (-1)).1 26).toInt.toNat (-1)) 226 ((sa (sa (sa (sa s 221 (s.1 26).toInt.toNat a1) 222 ((sa s 221 (s.1 26).toInt.toNat a1).1 26).toInt.toNat ((sa s 221 (s.1 26).toInt.toNat a1).1 7)) 224 ((sa (sa s 221 (s.1 26).toInt.toNat a1) 222 ((sa s 221 (s.1 26).toInt.toNat a1).1 26).toInt.toNat ((sa s 221 (s.1 26).toInt.toNat a1).1 7)).1 26).toInt.toNat (-1)) 225 ((sa (sa (sa s 221 (s.1 26).toInt.toNat a1) 222 ((sa s 221 (s.1 26).toInt.toNat a1).1 26).toInt.toNat ((sa s 221 (s.1 26).toInt.toNat a1).1 7)) 224 ((sa (sa s 221 (s.1 26).toInt.toNat a1) 222 ((sa s 221 (s.1 26).toInt.toNat a1).1 26).toInt.toNat ((sa s 221 (s.1 26).toInt.toNat a1).1 7)).1 26).toInt.toNat (-1)).1 26).toInt.toNat (-1)).1 26).toInt.toNat 0).1 26).toInt.toNat (-1)).1 26).toInt.toNat (-1)).1 26).toInt.toNat (-1)) 230 ((sa (sa (sa (sa (sa (sa (sa (sa s 221 (s.1 26).toInt.toNat a1) 222 ((sa s 221 (s.1 26).toInt.toNat a1).1 26).toInt.toNat ((sa s 221 (s.1 26).toInt.toNat a1).1 7)) 224 ((sa (sa s 221 (s.1 26).toInt.toNat a1) 222 ((sa s 221 (s.1 26).toInt.toNat a1).1 26).toInt.toNat ((sa s 221 (s.1 26).toInt.toNat a1).1 7)).1 26).toInt.toNat (-1)) 225 ((sa (sa (sa s 221 (s.1 26).toInt.toNat a1) 222 ((sa s 221 (s.1 26).toInt.toNat a1).1 26).toInt.toNat ((sa s 221 (s.1 26).toInt.toNat a1).1 7)) 224 ((sa (sa s 221 (s.1 26).toInt.toNat a1) 222 ((sa s 221 (s.1 26).toInt.toNat a1).1 26).toInt.toNat ((sa s 221 (s.1 26).toInt.toNat a1).1 7)).1 26).toInt.toNat (-1)).1 26).toInt.toNat (-1)) 226 ((sa (sa (sa (sa s 221 (s.1 26).toInt.toNat a1) 222 ((sa s 221 (s.1 26).toInt.toNat a1).1 26).toInt.toNat ((sa s 221 (s.1 26).toInt.toNat a1).1 7)) 224 ((sa (sa s 221 (s.1 26).toInt.toNat a1) 222 ((sa s 221 (s.1 26).toInt.toNat a1).1 26).toInt.toNat ((sa s 221 (s.1 26).toInt.toNat a1).1 7)).1 26).toInt.toNat (-1)) 225 ((sa (sa (sa s 221 (s.1 26).toInt.toNat a1) 222 ((sa s 221 (s.1 26).toInt.toNat a1).1 26).toInt.toNat ((sa s 221 (s.1 26).toInt.toNat a1).1 7)) 224 ((sa (sa s 221 (s.1 26).toInt.toNat a1) 222 ((sa s 221 (s.1 26).toInt.toNat a1).1 26).toInt.toNat ((sa s 221 (s.1 26).toInt.toNat a1).1 7)).1 26).toInt.toNat (-1)).1 26).toInt.toNat (-1)).1 26).toInt.toNat 0) 227 ((sa (sa (sa (sa (sa s 221 (s.1 26).toInt.toNat a1) 222 ((sa s 221 (s.1 26).toInt.toNat a1).1 26).toInt.toNat ((sa s 221 (s.1 26).toInt.toNat a1).1 7)) 224 ((sa (sa s 221 (s.1 26).toInt.toNat a1) 222 ((sa s 221 (s.1 26).toInt.toNat a1).1 26).toInt.toNat ((sa s 221 (s.1 26).toInt.toNat a1).1 7)).1 26).toInt.toNat (-1)) 225 ((sa (sa (sa s 221 (s.1 26).toInt.toNat a1) 222 ((sa s 221 (s.1 26).toInt.toNat a1).1 26).toInt.toNat ((sa s 221 (s.1 26).toInt.toNat a1).1 7)) 224 ((sa (sa s 221 (s.1 26).toInt.toNat a1) 222 ((sa s 221 (s.1 26).toInt.toNat a1).1 26).toInt.toNat ((sa s 221 (s.1 26).toInt.toNat a1).1 7)).1 26).toInt.toNat (-1)).1 26).toInt.toNat (-1)) 226 ((sa (sa (sa (sa s 221 (s.1 26).toInt.toNat a1) 222 ((sa s 221 (s.1 26).toInt.toNat a1).1 26).toInt.toNat ((sa s 221 (s.1 26).toInt.toNat a1).1 7)) 224 ((sa (sa s 221 (s.1 26).toInt.toNat a1) 222 ((sa s 221 (s.1 26).toInt.toNat a1).1 26).toInt.toNat ((sa s 221 (s.1 26).toInt.toNat a1).1 7)).1 26).toInt.toNat (-1)) 225 ((sa (sa (sa s 221 (s.1 26).toInt.toNat a1) 222 ((sa s 221 (s.1 26).toInt.toNat a1).1 26).toInt.toNat ((sa s 221 (s.1 26).toInt.toNat a1).1 7)) 224 ((sa (sa s 221 (s.1 26).toInt.toNat a1) 222 ((sa s 221 (s.1 26).toInt.toNat a1).1 26).toInt.toNat ((sa s 221 (s.1 26).toInt.toNat a1).1 7)).1 26).toInt.toNat (-1)).1 26).toInt.toNat (-1)).1 26).toInt.toNat 0).1 26).toInt.toNat (-1)) 228 ((sa (sa (sa (sa (sa (sa s 221 (s.1 26).toInt.toNat a1) 222 ((sa s 221 (s.1 26).toInt.toNat a1).1 26).toInt.toNat ((sa s 221 (s.1 26).toInt.toNat a1).1 7)) 224 ((sa (sa s 221 (s.1 26).toInt.toNat a1) 222 ((sa s 221 (s.1 26).toInt.toNat a1).1 26).toInt.toNat ((sa s 221 (s.1 26).toInt.toNat a1).1 7)).1 26).toInt.toNat (-1)) 225 ((sa (sa (sa s 221 (s.1 26).toInt.toNat a1) 222 ((sa s 221 (s.1 26).toInt.toNat a1).1 26).toInt.toNat ((sa s 221 (s.1 26).toInt.toNat a1).1 7)) 224 ((sa (sa s 221 (s.1 26).toInt.toNat a1) 222 ((sa s 221 (s.1 26).toInt.toNat a1).1 26).toInt.toNat ((sa s 221 (s.1 26).toInt.toNat a1).1 7)).1 26).toInt.toNat (-1)).1 26).toInt.toNat (-1)) 226 ((sa (sa (sa (sa s 221 (s.1 26).toInt.toNat a1) 222 ((sa s 221 (s.1 26).toInt.toNat a1).1 26).toInt.toNat ((sa s 221 (s.1 26).toInt.toNat a1).1 7)) 224 ((sa (sa s 221 (s.1 26).toInt.toNat a1) 222 ((sa s 221 (s.1 26).toInt.toNat a1).1 26).toInt.toNat ((sa s 221 (s.1 26).toInt.toNat a1).1 7)).1 26).toInt.toNat (-1)) 225 ((sa (sa (sa s 221 (s.1 26).toInt.toNat a1) 222 ((sa s 221 (s.1 26).toInt.toNat a1).1 26).toInt.toNat ((sa s 221 (s.1 26).toInt.toNat a1).1 7)) 224 ((sa (sa s 221 (s.1 26).toInt.toNat a1) 222 ((sa s 221 (s.1 26).toInt.toNat a1).1 26).toInt.toNat ((sa s 221 (s.1 26).toInt.toNat a1).1 7)).1 26).toInt.toNat (-1)).1 26).toInt.toNat (-1)).1 26).toInt.toNat 0) 227 ((sa (sa (sa (sa (sa s 221 (s.1 26).toInt.toNat a1) 222 ((sa s 221 (s.1 26).toInt.toNat a1).1 26).toInt.toNat ((sa s 221 (s.1 26).toInt.toNat a1).1 7)) 224 ((sa (sa s 221 (s.1 26).toInt.toNat a1) 222 ((sa s 221 (s.1 26).toInt.toNat a1).1 26).toInt.toNat ((sa s 221 (s.1 26).toInt.toNat a1).1 7)).1 26).toInt.toNat (-1)) 225 ((sa (sa (sa s 221 (s.1 26).toInt.toNat a1) 222 ((sa s 221 (s.1 26).toInt.toNat a1).1 26).toInt.toNat ((sa s 221 (s.1 26).toInt.toNat a1).1 7)) 224 ((sa (sa s 221 (s.1 26).toInt.toNat a1) 222 ((sa s 221 (s.1 26).toInt.toNat a1).1 26).toInt.toNat ((sa s 221 (s.1 26).toInt.toNat a1).1 7)).1 26).toInt.toNat (-1)).1 26).toInt.toNat (-1)) 226 ((sa (sa (sa (sa s 221 (s.1 26).toInt.toNat a1) 222 ((sa s 221 (s.1 26).toInt.toNat a1).1 26).toInt.toNat ((sa s 221 (s.1 26).toInt.toNat a1).1 7)) 224 ((sa (sa s 221 (s.1 26).toInt.toNat a1) 222 ((sa s 221 (s.1 26).toInt.toNat a1).1 26).toInt.toNat ((sa s 221 (s.1 26).toInt.toNat a1).1 7)).1 26).toInt.toNat (-1)) 225 ((sa (sa (sa s 221 (s.1 26).toInt.toNat a1) 222 ((sa s 221 (s.1 26).toInt.toNat a1).1 26).toInt.toNat ((sa s 221 (s.1 26).toInt.toNat a1).1 7)) 224 ((sa (sa s 221 (s.1 26).toInt.toNat a1) 222 ((sa s 221 (s.1 26).toInt.toNat a1).1 26).toInt.toNat ((sa s 221 (s.1 26).toInt.toNat a1).1 7)).1 26).toInt.toNat (-1)).1 26).toInt.toNat (-1)).1 26).toInt.toNat 0).1 26).toInt.toNat (-1)).1 26).toInt.toNat (-1)) 229 ((sa (sa (sa (sa (sa (sa (sa s 221 (s.1 26).toInt.toNat a1) 222 ((sa s 221 (s.1 26).toInt.toNat a1).1 26).toInt.toNat ((sa s 221 (s.1 26).toInt.toNat a1).1 7)) 224 ((sa (sa s 221 (s.1 26).toInt.toNat a1) 222 ((sa s 221 (s.1 26).toInt.toNat a1).1 26).toInt.toNat ((sa s 221 (s.1 26).toInt.toNat a1).1 7)).1 26).toInt.toNat (-1)) 225 ((sa (sa (sa s 221 (s.1 26).toInt.toNat a1) 222 ((sa s 221 (s.1 26).toInt.toNat a1).1 26).toInt.toNat ((sa s 221 (s.1 26).toInt.toNat a1).1 7)) 224 ((sa (sa s 221 (s.1 26).toInt.toNat a1) 222 ((sa s 221 (s.1 26).toInt.toNat a1).1 26).toInt.toNat ((sa s 221 (s.1 26).toInt.toNat a1).1 7)).1 26).toInt.toNat (-1)).1 26).toInt.toNat (-1)) 226 ((sa (sa (sa (sa s 221 (s.1 26).toInt.toNat a1) 222 ((sa s 221 (s.1 26).toInt.toNat a1).1 26).toInt.toNat ((sa s 221 (s.1 26).toInt.toNat a1).1 7)) 224 ((sa (sa s 221 (s.1 26).toInt.toNat a1) 222 ((sa s 221 (s.1 26).toInt.toNat a1).1 26).toInt.toNat ((sa s 221 (s.1 26).toInt.toNat a1).1 7)).1 26).toInt.toNat (-1)) 225 ((sa (sa (sa s 221 (s.1 26).toInt.toNat a1) 222 ((sa s 221 (s.1 26).toInt.toNat a1).1 26).toInt.toNat ((sa s 221 (s.1 26).toInt.toNat a1).1 7)) 224 ((sa (sa s 221 (s.1 26).toInt.toNat a1) 222 ((sa s 221 (s.1 26).toInt.toNat a1).1 26).toInt.toNat ((sa s 221 (s.1 26).toInt.toNat a1).1 7)).1 26).toInt.toNat (-1)).1 26).toInt.toNat (-1)).1 26).toInt.toNat 0) 227 ((sa (sa (sa (sa (sa s 221 (s.1 26).toInt.toNat a1) 222 ((sa s 221 (s.1 26).toInt.toNat a1).1 26).toInt.toNat ((sa s 221 (s.1 26).toInt.toNat a1).1 7)) 224 ((sa (sa s 221 (s.1 26).toInt.toNat a1) 222 ((sa s 221 (s.1 26).toInt.toNat a1).1 26).toInt.toNat ((sa s 221 (s.1 26).toInt.toNat a1).1 7)).1 26).toInt.toNat (-1)) 225 ((sa (sa (sa s 221 (s.1 26).toInt.toNat a1) 222 ((sa s 221 (s.1 26).toInt.toNat a1).1 26).toInt.toNat ((sa s 221 (s.1 26).toInt.toNat a1).1 7)) 224 ((sa (sa s 221 (s.1 26).toInt.toNat a1) 222 ((sa s 221 (s.1 26).toInt.toNat a1).1 26).toInt.toNat ((sa s 221 (s.1 26).toInt.toNat a1).1 7)).1 26).toInt.toNat (-1)).1 26).toInt.toNat (-1)) 226 ((sa (sa (sa (sa s 221 (s.1 26).toInt.toNat a1) 222 ((sa s 221 (s.1 26).toInt.toNat a1).1 26).toInt.toNat ((sa s 221 (s.1 26).toInt.toNat a1).1 7)) 224 ((sa (sa s 221 (s.1 26).toInt.toNat a1) 222 ((sa s 221 (s.1 26).toInt.toNat a1).1 26).toInt.toNat ((sa s 221 (s.1 26).toInt.toNat a1).1 7)).1 26).toInt.toNat (-1)) 225 ((sa (sa (sa s 221 (s.1 26).toInt.toNat a1) 222 ((sa s 221 (s.1 26).toInt.toNat a1).1 26).toInt.toNat ((sa s 221 (s.1 26).toInt.toNat a1).1 7)) 224 ((sa (sa s 221 (s.1 26).toInt.toNat a1) 222 ((sa s 221 (s.1 26).toInt.toNat a1).1 26).toInt.toNat ((sa s 221 (s.1 26).toInt.toNat a1).1 7)).1 26).toInt.toNat (-1)).1 26).toInt.toNat (-1)).1 26).toInt.toNat 0).1 26).toInt.toNat (-1)) 228 ((sa (sa (sa (sa (sa (sa s 221 (s.1 26).toInt.toNat a1) 222 ((sa s 221 (s.1 26).toInt.toNat a1).1 26).toInt.toNat ((sa s 221 (s.1 26).toInt.toNat a1).1 7)) 224 ((sa (sa s 221 (s.1 26).toInt.toNat a1) 222 ((sa s 221 (s.1 26).toInt.toNat a1).1 26).toInt.toNat ((sa s 221 (s.1 26).toInt.toNat a1).1 7)).1 26).toInt.toNat (-1)) 225 ((sa (sa (sa s 221 (s.1 26).toInt.toNat a1) 222 ((sa s 221 (s.1 26).toInt.toNat a1).1 26).toInt.toNat ((sa s 221 (s.1 26).toInt.toNat a1).1 7)) 224 ((sa (sa s 221 (s.1 26).toInt.toNat a1) 222 ((sa s 221 (s.1 26).toInt.toNat a1).1 26).toInt.toNat ((sa s 221 (s.1 26).toInt.toNat a1).1 7)).1 26).toInt.toNat (-1)).1 26).toInt.toNat (-1)) 226 ((sa (sa (sa (sa s 221 (s.1 26).toInt.toNat a1) 222 ((sa s 221 (s.1 26).toInt.toNat a1).1 26).toInt.toNat ((sa s 221 (s.1 26).toInt.toNat a1).1 7)) 224 ((sa (sa s 221 (s.1 26).toInt.toNat a1) 222 ((sa s 221 (s.1 26).toInt.toNat a1).1 26).toInt.toNat ((sa s 221 (s.1 26).toInt.toNat a1).1 7)).1 26).toInt.toNat (-1)) 225 ((sa (sa (sa s 221 (s.1 26).toInt.toNat a1) 222 ((sa s 221 (s.1 26).toInt.toNat a1).1 26).toInt.toNat ((sa s 221 (s.1 26).toInt.toNat a1).1 7)) 224 ((sa (sa s 221 (s.1 26).toInt.toNat a1) 222 ((sa s 221 (s.1 26).toInt.toNat a1).1 26).toInt.toNat ((sa s 221 (s.1 26).toInt.toNat a1).1 7)).1 26).toInt.toNat (-1)).1 26).toInt.toNat (-1)).1 26).toInt.toNat 0) 227 ((sa (sa (sa (sa (sa s 221 (s.1 26).toInt.toNat a1) 222 ((sa s 221 (s.1 26).toInt.toNat a1).1 26).toInt.toNat ((sa s 221 (s.1 26).toInt.toNat a1).1 7)) 224 ((sa (sa s 221 (s.1 26).toInt.toNat a1) 222 ((sa s 221 (s.1 26).toInt.toNat a1).1 26).toInt.toNat ((sa s 221 (s.1 26).toInt.toNat a1).1 7)).1 26).toInt.toNat (-1)) 225 ((sa (sa (sa s 221 (s.1 26).toInt.toNat a1) 222 ((sa s 221 (s.1 26).toInt.toNat a1).1 26).toInt.toNat ((sa s 221 (s.1 26).toInt.toNat a1).1 7)) 224 ((sa (sa s 221 (s.1 26).toInt.toNat a1) 222 ((sa s 221 (s.1 26).toInt.toNat a1).1 26).toInt.toNat ((sa s 221 (s.1 26).toInt.toNat a1).1 7)).1 26).toInt.toNat (-1)).1 26).toInt.toNat (-1)) 226 ((sa (sa (sa (sa s 221 (s.1 26).toInt.toNat a1) 222 ((sa s 221 (s.1 26).toInt.toNat a1).1 26).toInt.toNat ((sa s 221 (s.1 26).toInt.toNat a1).1 7)) 224 ((sa (sa s 221 (s.1 26).toInt.toNat a1) 222 ((sa s 221 (s.1 26).toInt.toNat a1).1 26).toInt.toNat ((sa s 221 (s.1 26).toInt.toNat a1).1 7)).1 26).toInt.toNat (-1)) 225 ((sa (sa (sa s 221 (s.1 26).toInt.toNat a1) 222 ((sa s 221 (s.1 26).toInt.toNat a1).1 26).toInt.toNat ((sa s 221 (s.1 26).toInt.toNat a1).1 7)) 224 ((sa (sa s 221 (s.1 26).toInt.toNat a1) 222 ((sa s 221 (s.1 26).toInt.toNat a1).1 26).toInt.toNat ((sa s 221 (s.1 26).toInt.toNat a1).1 7)).1 26).toInt.toNat (-1)).1 26).toInt.toNat (-1)).1 26).toInt.toNat 0).1 26).toInt.toNat (-1)).1 26).toInt.toNat (-1)).1 26).toInt.toNat (-1)).1 26).toInt.toNat 0) 26 (((sa (sa (sa (sa (sa (sa (sa (sa (sa s 221 (s.1 26).toInt.toNat a1) 222 ((sa s 221 (s.1 26).toInt.toNat a1).1 26).toInt.toNat ((sa s 221 (s.1 26).toInt.toNat a1).1 7)) 224 ((sa (sa s 221 (s.1 26).toInt.toNat a1) 222 ((sa s 221 (s.1 26).toInt.toNat a1).1 26).toInt.toNat ((sa s 221 (s.1 26).toInt.toNat a1).1 7)).1 26).toInt.toNat (-1)) 225 ((sa (sa (sa s 221 (s.1 26).toInt.toNat a1) 222 ((sa s 221 (s.1 26).toInt.toNat a1).1 26).toInt.toNat ((sa s 221 (s.1 26).toInt.toNat a1).1 7)) 224 ((sa (sa s 221 (s.1 26).toInt.toNat a1) 222 ((sa s 221 (s.1 26).toInt.toNat a1).1 26).toInt.toNat ((sa s 221 (s.1 26).toInt.toNat a1).1 7)).1 26).toInt.toNat (-1)).1 26).toInt.toNat (-1)) 226 ((sa (sa (sa (sa s 221 (s.1 26).toInt.toNat a1) 222 ((sa s 221 (s.1 26).toInt.toNat a1).1 26).toInt.toNat ((sa s 221 (s.1 26).toInt.toNat a1).1 7)) 224 ((sa (sa s 221 (s.1 26).toInt.toNat a1) 222 ((sa s 221 (s.1 26).toInt.toNat a1).1 26).toInt.toNat ((sa s 221 (s.1 26).toInt.toNat a1).1 7)).1 26).toInt.toNat (-1)) 225 ((sa (sa (sa s 221 (s.1 26).toInt.toNat a1) 222 ((sa s 221 (s.1 26).toInt.toNat a1).1 26).toInt.toNat ((sa s 221 (s.1 26).toInt.toNat a1).1 7)) 224 ((sa (sa s 221 (s.1 26).toInt.toNat a1) 222 ((sa s 221 (s.1 26).toInt.toNat a1).1 26).toInt.toNat ((sa s 221 (s.1 26).toInt.toNat a1).1 7)).1 26).toInt.toNat (-1)).1 26).toInt.toNat (-1)).1 26).toInt.toNat 0) 227 ((sa (sa (sa (sa (sa s 221 (s.1 26).toInt.toNat a1) 222 ((sa s 221 (s.1 26).toInt.toNat a1).1 26).toInt.toNat ((sa s 221 (s.1 26).toInt.toNat a1).1 7)) 224 ((sa (sa s 221 (s.1 26).toInt.toNat a1) 222 ((sa s 221 (s.1 26).toInt.toNat a1).1 26).toInt.toNat ((sa s 221 (s.1 26).toInt.toNat a1).1 7)).1 26).toInt.toNat (-1)) 225 ((sa (sa (sa s 221 (s.1 26).toInt.toNat a1) 222 ((sa s 221 (s.1 26).toInt.toNat a1).1 26).toInt.toNat ((sa s 221 (s.1 26).toInt.toNat a1).1 7)) 224 ((sa (sa s 221 (s.1 26).toInt.toNat a1) 222 ((sa s 221 (s.1 26).toInt.toNat a1).1 26).toInt.toNat ((sa s 221 (s.1 26).toInt.toNat a1).1 7)).1 26).toInt.toNat (-1)).1 26).toInt.toNat (-1)) 226 ((sa (sa (sa (sa s 221 (s.1 26).toInt.toNat a1) 222 ((sa s 221 (s.1 26).toInt.toNat a1).1 26).toInt.toNat ((sa s 221 (s.1 26).toInt.toNat a1).1 7)) 224 ((sa (sa s 221 (s.1 26).toInt.toNat a1) 222 ((sa s 221 (s.1 26).toInt.toNat a1).1 26).toInt.toNat ((sa s 221 (s.1 26).toInt.toNat a1).1 7)).1 26).toInt.toNat (-1)) 225 ((sa (sa (sa s 221 (s.1 26).toInt.toNat a1) 222 ((sa s 221 (s.1 26).toInt.toNat a1).1 26).toInt.toNat ((sa s 221 (s.1 26).toInt.toNat a1).1 7)) 224 ((sa (sa s 221 (s.1 26).toInt.toNat a1) 222 ((sa s 221 (s.1 26).toInt.toNat a1).1 26).toInt.toNat ((sa s 221 (s.1 26).toInt.toNat a1).1 7)).1 26).toInt.toNat (-1)).1 26).toInt.toNat (-1)).1 26).toInt.toNat 0).1 26).toInt.toNat (-1)) 228 ((sa (sa (sa (sa (sa (sa s 221 (s.1 26).toInt.toNat a1) 222 ((sa s 221 (s.1 26).toInt.toNat a1).1 26).toInt.toNat ((sa s 221 (s.1 26).toInt.toNat a1).1 7)) 224 ((sa (sa s 221 (s.1 26).toInt.toNat a1) 222 ((sa s 221 (s.1 26).toInt.toNat a1).1 26).toInt.toNat ((sa s 221 (s.1 26).toInt.toNat a1).1 7)).1 26).toInt.toNat (-1)) 225 ((sa (sa (sa s 221 (s.1 26).toInt.toNat a1) 222 ((sa s 221 (s.1 26).toInt.toNat a1).1 26).toInt.toNat ((sa s 221 (s.1 26).toInt.toNat a1).1 7)) 224 ((sa (sa s 221 (s.1 26).toInt.toNat a1) 222 ((sa s 221 (s.1 26).toInt.toNat a1).1 26).toInt.toNat ((sa s 221 (s.1 26).toInt.toNat a1).1 7)).1 26).toInt.toNat (-1)).1 26).toInt.toNat (-1)) 226 ((sa (sa (sa (sa s 221 (s.1 26).toInt.toNat a1) 222 ((sa s 221 (s.1 26).toInt.toNat a1).1 26).toInt.toNat ((sa s 221 (s.1 26).toInt.toNat a1).1 7)) 224 ((sa (sa s 221 (s.1 26).toInt.toNat a1) 222 ((sa s 221 (s.1 26).toInt.toNat a1).1 26).toInt.toNat ((sa s 221 (s.1 26).toInt.toNat a1).1 7)).1 26).toInt.toNat (-1)) 225 ((sa (sa (sa s 221 (s.1 26).toInt.toNat a1) 222 ((sa s 221 (s.1 26).toInt.toNat a1).1 26).toInt.toNat ((sa s 221 (s.1 26).toInt.toNat a1).1 7)) 224 ((sa (sa s 221 (s.1 26).toInt.toNat a1) 222 ((sa s 221 (s.1 26).toInt.toNat a1).1 26).toInt.toNat ((sa s 221 (s.1 26).toInt.toNat a1).1 7)).1 26).toInt.toNat (-1)).1 26).toInt.toNat (-1)).1 26).toInt.toNat 0) 227 ((sa (sa (sa (sa (sa s 221 (s.1 26).toInt.toNat a1) 222 ((sa s 221 (s.1 26).toInt.toNat a1).1 26).toInt.toNat ((sa s 221 (s.1 26).toInt.toNat a1).1 7)) 224 ((sa (sa s 221 (s.1 26).toInt.toNat a1) 222 ((sa s 221 (s.1 26).toInt.toNat a1).1 26).toInt.toNat ((sa s 221 (s.1 26).toInt.toNat a1).1 7)).1 26).toInt.toNat (-1)) 225 ((sa (sa (sa s 221 (s.1 26).toInt.toNat a1) 222 ((sa s 221 (s.1 26).toInt.toNat a1).1 26).toInt.toNat ((sa s 221 (s.1 26).toInt.toNat a1).1 7)) 224 ((sa (sa s 221 (s.1 26).toInt.toNat a1) 222 ((sa s 221 (s.1 26).toInt.toNat a1).1 26).toInt.toNat ((sa s 221 (s.1 26).toInt.toNat a1).1 7)).1 26).toInt.toNat (-1)).1 26).toInt.toNat (-1)) 226 ((sa (sa (sa (sa s 221 (s.1 26).toInt.toNat a1) 222 ((sa s 221 (s.1 26).toInt.toNat a1).1 26).toInt.toNat ((sa s 221 (s.1 26).toInt.toNat a1).1 7)) 224 ((sa (sa s 221 (s.1 26).toInt.toNat a1) 222 ((sa s 221 (s.1 26).toInt.toNat a1).1 26).toInt.toNat ((sa s 221 (s.1 26).toInt.toNat a1).1 7)).1 26).toInt.toNat (-1)) 225 ((sa (sa (sa s 221 (s.1 26).toInt.toNat a1) 222 ((sa s 221 (s.1 26).toInt.toNat a1).1 26).toInt.toNat ((sa s 221 (s.1 26).toInt.toNat a1).1 7)) 224 ((sa (sa s 221 (s.1 26).toInt.toNat a1) 222 ((sa s 221 (s.1 26).toInt.toNat a1).1 26).toInt.toNat ((sa s 221 (s.1 26).toInt.toNat a1).1 7)).1 26).toInt.toNat (-1)).1 26).toInt.toNat (-1)).1 26).toInt.toNat 0).1 26).toInt.toNat (-1)).1 26).toInt.toNat (-1)) 229 ((sa (sa (sa (sa (sa (sa (sa s 221 (s.1 26).toInt.toNat a1) 222 ((sa s 221 (s.1 26).toInt.toNat a1).1 26).toInt.toNat ((sa s 221 (s.1 26).toInt.toNat a1).1 7)) 224 ((sa (sa s 221 (s.1 26).toInt.toNat a1) 222 ((sa s 221 (s.1 26).toInt.toNat a1).1 26).toInt.toNat ((sa s 221 (s.1 26).toInt.toNat a1).1 7)).1 26).toInt.toNat (-1)) 225 ((sa (sa (sa s 221 (s.1 26).toInt.toNat a1) 222 ((sa s 221 (s.1 26).toInt.toNat a1).1 26).toInt.toNat ((sa s 221 (s.1 26).toInt.toNat a1).1 7)) 224 ((sa (sa s 221 (s.1 26).toInt.toNat a1) 222 ((sa s 221 (s.1 26).toInt.toNat a1).1 26).toInt.toNat ((sa s 221 (s.1 26).toInt.toNat a1).1 7)).1 26).toInt.toNat (-1)).1 26).toInt.toNat (-1)) 226 ((sa (sa (sa (sa s 221 (s.1 26).toInt.toNat a1) 222 ((sa s 221 (s.1 26).toInt.toNat a1).1 26).toInt.toNat ((sa s 221 (s.1 26).toInt.toNat a1).1 7)) 224 ((sa (sa s 221 (s.1 26).toInt.toNat a1) 222 ((sa s 221 (s.1 26).toInt.toNat a1).1 26).toInt.toNat ((sa s 221 (s.1 26).toInt.toNat a1).1 7)).1 26).toInt.toNat (-1)) 225 ((sa (sa (sa s 221 (s.1 26).toInt.toNat a1) 222 ((sa s 221 (s.1 26).toInt.toNat a1).1 26).toInt.toNat ((sa s 221 (s.1 26).toInt.toNat a1).1 7)) 224 ((sa (sa s 221 (s.1 26).toInt.toNat a1) 222 ((sa s 221 (s.1 26).toInt.toNat a1).1 26).toInt.toNat ((sa s 221 (s.1 26).toInt.toNat a1).1 7)).1 26).toInt.toNat (-1)).1 26).toInt.toNat (-1)).1 26).toInt.toNat 0) 227 ((sa (sa (sa (sa (sa s 221 (s.1 26).toInt.toNat a1) 222 ((sa s 221 (s.1 26).toInt.toNat a1).1 26).toInt.toNat ((sa s 221 (s.1 26).toInt.toNat a1).1 7)) 224 ((sa (sa s 221 (s.1 26).toInt.toNat a1) 222 ((sa s 221 (s.1 26).toInt.toNat a1).1 26).toInt.toNat ((sa s 221 (s.1 26).toInt.toNat a1).1 7)).1 26).toInt.toNat (-1)) 225 ((sa (sa (sa s 221 (s.1 26).toInt.toNat a1) 222 ((sa s 221 (s.1 26).toInt.toNat a1).1 26).toInt.toNat ((sa s 221 (s.1 26).toInt.toNat a1).1 7)) 224 ((sa (sa s 221 (s.1 26).toInt.toNat a1) 222 ((sa s 221 (s.1 26).toInt.toNat a1).1 26).toInt.toNat ((sa s 221 (s.1 26).toInt.toNat a1).1 7)).1 26).toInt.toNat (-1)).1 26).toInt.toNat (-1)) 226 ((sa (sa (sa (sa s 221 (s.1 26).toInt.toNat a1) 222 ((sa s 221 (s.1 26).toInt.toNat a1).1 26).toInt.toNat ((sa s 221 (s.1 26).toInt.toNat a1).1 7)) 224 ((sa (sa s 221 (s.1 26).toInt.toNat a1) 222 ((sa s 221 (s.1 26).toInt.toNat a1).1 26).toInt.toNat ((sa s 221 (s.1 26).toInt.toNat a1).1 7)).1 26).toInt.toNat (-1)) 225 ((sa (sa (sa s 221 (s.1 26).toInt.toNat a1) 222 ((sa s 221 (s.1 26).toInt.toNat a1).1 26).toInt.toNat ((sa s 221 (s.1 26).toInt.toNat a1).1 7)) 224 ((sa (sa s 221 (s.1 26).toInt.toNat a1) 222 ((sa s 221 (s.1 26).toInt.toNat a1).1 26).toInt.toNat ((sa s 221 (s.1 26).toInt.toNat a1).1 7)).1 26).toInt.toNat (-1)).1 26).toInt.toNat (-1)).1 26).toInt.toNat 0).1 26).toInt.toNat (-1)) 228 ((sa (sa (sa (sa (sa (sa s 221 (s.1 26).toInt.toNat a1) 222 ((sa s 221 (s.1 26).toInt.toNat a1).1 26).toInt.toNat ((sa s 221 (s.1 26).toInt.toNat a1).1 7)) 224 ((sa (sa s 221 (s.1 26).toInt.toNat a1) 222 ((sa s 221 (s.1 26).toInt.toNat a1).1 26).toInt.toNat ((sa s 221 (s.1 26).toInt.toNat a1).1 7)).1 26).toInt.toNat (-1)) 225 ((sa (sa (sa s 221 (s.1 26).toInt.toNat a1) 222 ((sa s 221 (s.1 26).toInt.toNat a1).1 26).toInt.toNat ((sa s 221 (s.1 26).toInt.toNat a1).1 7)) 224 ((sa (sa s 221 (s.1 26).toInt.toNat a1) 222 ((sa s 221 (s.1 26).toInt.toNat a1).1 26).toInt.toNat ((sa s 221 (s.1 26).toInt.toNat a1).1 7)).1 26).toInt.toNat (-1)).1 26).toInt.toNat (-1)) 226 ((sa (sa (sa (sa s 221 (s.1 26).toInt.toNat a1) 222 ((sa s 221 (s.1 26).toInt.toNat a1).1 26).toInt.toNat ((sa s 221 (s.1 26).toInt.toNat a1).1 7)) 224 ((sa (sa s 221 (s.1 26).toInt.toNat a1) 222 ((sa s 221 (s.1 26).toInt.toNat a1).1 26).toInt.toNat ((sa s 221 (s.1 26).toInt.toNat a1).1 7)).1 26).toInt.toNat (-1)) 225 ((sa (sa (sa s 221 (s.1 26).toInt.toNat a1) 222 ((sa s 221 (s.1 26).toInt.toNat a1).1 26).toInt.toNat ((sa s 221 (s.1 26).toInt.toNat a1).1 7)) 224 ((sa (sa s 221 (s.1 26).toInt.toNat a1) 222 ((sa s 221 (s.1 26).toInt.toNat a1).1 26).toInt.toNat ((sa s 221 (s.1 26).toInt.toNat a1).1 7)).1 26).toInt.toNat (-1)).1 26).toInt.toNat (-1)).1 26).toInt.toNat 0) 227 ((sa (sa (sa (sa (sa s 221 (s.1 26).toInt.toNat a1) 222 ((sa s 221 (s.1 26).toInt.toNat a1).1 26).toInt.toNat ((sa s 221 (s.1 26).toInt.toNat a1).1 7)) 224 ((sa (sa s 221 (s.1 26).toInt.toNat a1) 222 ((sa s 221 (s.1 26).toInt.toNat a1).1 26).toInt.toNat ((sa s 221 (s.1 26).toInt.toNat a1).1 7)).1 26).toInt.toNat (-1)) 225 ((sa (sa (sa s 221 (s.1 26).toInt.toNat a1) 222 ((sa s 221 (s.1 26).toInt.toNat a1).1 26).toInt.toNat ((sa s 221 (s.1 26).toInt.toNat a1).1 7)) 224 ((sa (sa s 221 (s.1 26).toInt.toNat a1) 222 ((sa s 221 (s.1 26).toInt.toNat a1).1 26).toInt.toNat ((sa s 221 (s.1 26).toInt.toNat a1).1 7)).1 26).toInt.toNat (-1)).1 26).toInt.toNat (-1)) 226 ((sa (sa (sa (sa s 221 (s.1 26).toInt.toNat a1) 222 ((sa s 221 (s.1 26).toInt.toNat a1).1 26).toInt.toNat ((sa s 221 (s.1 26).toInt.toNat a1).1 7)) 224 ((sa (sa s 221 (s.1 26).toInt.toNat a1) 222 ((sa s 221 (s.1 26).toInt.toNat a1).1 26).toInt.toNat ((sa s 221 (s.1 26).toInt.toNat a1).1 7)).1 26).toInt.toNat (-1)) 225 ((sa (sa (sa s 221 (s.1 26).toInt.toNat a1) 222 ((sa s 221 (s.1 26).toInt.toNat a1).1 26).toInt.toNat ((sa s 221 (s.1 26).toInt.toNat a1).1 7)) 224 ((sa (sa s 221 (s.1 26).toInt.toNat a1) 222 ((sa s 221 (s.1 26).toInt.toNat a1).1 26).toInt.toNat ((sa s 221 (s.1 26).toInt.toNat a1).1 7)).1 26).toInt.toNat (-1)).1 26).toInt.toNat (-1)).1 26).toInt.toNat 0).1 26).toInt.toNat (-1)).1 26).toInt.toNat (-1)).1 26).toInt.toNat (-1)) 230 ((sa (sa (sa (sa (sa (sa (sa (sa s 221 (s.1 26).toInt.toNat a1) 222 ((sa s 221 (s.1 26).toInt.toNat a1).1 26).toInt.toNat ((sa s 221 (s.1 26).toInt.toNat a1).1 7)) 224 ((sa (sa s 221 (s.1 26).toInt.toNat a1) 222 ((sa s 221 (s.1 26).toInt.toNat a1).1 26).toInt.toNat ((sa s 221 (s.1 26).toInt.toNat a1).1 7)).1 26).toInt.toNat (-1)) 225 ((sa (sa (sa s 221 (s.1 26).toInt.toNat a1) 222 ((sa s 221 (s.1 26).toInt.toNat a1).1 26).toInt.toNat ((sa s 221 (s.1 26).toInt.toNat a1).1 7)) 224 ((sa (sa s 221 (s.1 26).toInt.toNat a1) 222 ((sa s 221 (s.1 26).toInt.toNat a1).1 26).toInt.toNat ((sa s 221 (s.1 26).toInt.toNat a1).1 7)).1 26).toInt.toNat (-1)).1 26).toInt.toNat (-1)) 226 ((sa (sa (sa (sa s 221 (s.1 26).toInt.toNat a1) 222 ((sa s 221 (s.1 26).toInt.toNat a1).1 26).toInt.toNat ((sa s 221 (s.1 26).toInt.toNat a1).1 7)) 224 ((sa (sa s 221 (s.1 26).toInt.toNat a1) 222 ((sa s 221 (s.1 26).toInt.toNat a1).1 26).toInt.toNat ((sa s 221 (s.1 26).toInt.toNat a1).1 7)).1 26).toInt.toNat (-1)) 225 ((sa (sa (sa s 221 (s.1 26).toInt.toNat a1) 222 ((sa s 221 (s.1 26).toInt.toNat a1).1 26).toInt.toNat ((sa s 221 (s.1 26).toInt.toNat a1).1 7)) 224 ((sa (sa s 221 (s.1 26).toInt.toNat a1) 222 ((sa s 221 (s.1 26).toInt.toNat a1).1 26).toInt.toNat ((sa s 221 (s.1 26).toInt.toNat a1).1 7)).1 26).toInt.toNat (-1)).1 26).toInt.toNat (-1)).1 26).toInt.toNat 0) 227 ((sa (sa (sa (sa (sa s 221 (s.1 26).toInt.toNat a1) 222 ((sa s 221 (s.1 26).toInt.toNat a1).1 26).toInt.toNat ((sa s 221 (s.1 26).toInt.toNat a1).1 7)) 224 ((sa (sa s 221 (s.1 26).toInt.toNat a1) 222 ((sa s 221 (s.1 26).toInt.toNat a1).1 26).toInt.toNat ((sa s 221 (s.1 26).toInt.toNat a1).1 7)).1 26).toInt.toNat (-1)) 225 ((sa (sa (sa s 221 (s.1 26).toInt.toNat a1) 222 ((sa s 221 (s.1 26).toInt.toNat a1).1 26).toInt.toNat ((sa s 221 (s.1 26).toInt.toNat a1).1 7)) 224 ((sa (sa s 221 (s.1 26).toInt.toNat a1) 222 ((sa s 221 (s.1 26).toInt.toNat a1).1 26).toInt.toNat ((sa s 221 (s.1 26).toInt.toNat a1).1 7)).1 26).toInt.toNat (-1)).1 26).toInt.toNat (-1)) 226 ((sa (sa (sa (sa s 221 (s.1 26).toInt.toNat a1) 222 ((sa s 221 (s.1 26).toInt.toNat a1).1 26).toInt.toNat ((sa s 221 (s.1 26).toInt.toNat a1).1 7)) 224 ((sa (sa s 221 (s.1 26).toInt.toNat a1) 222 ((sa s 221 (s.1 26).toInt.toNat a1).1 26).toInt.toNat ((sa s 221 (s.1 26).toInt.toNat a1).1 7)).1 26).toInt.toNat (-1)) 225 ((sa (sa (sa s 221 (s.1 26).toInt.toNat a1) 222 ((sa s 221 (s.1 26).toInt.toNat a1).1 26).toInt.toNat ((sa s 221 (s.1 26).toInt.toNat a1).1 7)) 224 ((sa (sa s 221 (s.1 26).toInt.toNat a1) 222 ((sa s 221 (s.1 26).toInt.toNat a1).1 26).toInt.toNat ((sa s 221 (s.1 26).toInt.toNat a1).1 7)).1 26).toInt.toNat (-1)).1 26).toInt.toNat (-1)).1 26).toInt.toNat 0).1 26).toInt.toNat (-1)) 228 ((sa (sa (sa (sa (sa (sa s 221 (s.1 26).toInt.toNat a1) 222 ((sa s 221 (s.1 26).toInt.toNat a1).1 26).toInt.toNat ((sa s 221 (s.1 26).toInt.toNat a1).1 7)) 224 ((sa (sa s 221 (s.1 26).toInt.toNat a1) 222 ((sa s 221 (s.1 26).toInt.toNat a1).1 26).toInt.toNat ((sa s 221 (s.1 26).toInt.toNat a1).1 7)).1 26).toInt.toNat (-1)) 225 ((sa (sa (sa s 221 (s.1 26).toInt.toNat a1) 222 ((sa s 221 (s.1 26).toInt.toNat a1).1 26).toInt.toNat ((sa s 221 (s.1 26).toInt.toNat a1).1 7)) 224 ((sa (sa s 221 (s.1 26).toInt.toNat a1) 222 ((sa s 221 (s.1 26).toInt.toNat a1).1 26).toInt.toNat ((sa s 221 (s.1 26).toInt.toNat a1).1 7)).1 26).toInt.toNat (-1)).1 26).toInt.toNat (-1)) 226 ((sa (sa (sa (sa s 221 (s.1 26).toInt.toNat a1) 222 ((sa s 221 (s.1 26).toInt.toNat a1).1 26).toInt.toNat ((sa s 221 (s.1 26).toInt.toNat a1).1 7)) 224 ((sa (sa s 221 (s.1 26).toInt.toNat a1) 222 ((sa s 221 (s.1 26).toInt.toNat a1).1 26).toInt.toNat ((sa s 221 (s.1 26).toInt.toNat a1).1 7)).1 26).toInt.toNat (-1)) 225 ((sa (sa (sa s 221 (s.1 26).toInt.toNat a1) 222 ((sa s 221 (s.1 26).toInt.toNat a1).1 26).toInt.toNat ((sa s 221 (s.1 26).toInt.toNat a1).1 7)) 224 ((sa (sa s 221 (s.1 26).toInt.toNat a1) 222 ((sa s 221 (s.1 26).toInt.toNat a1).1 26).toInt.toNat ((sa s 221 (s.1 26).toInt.toNat a1).1 7)).1 26).toInt.toNat (-1)).1 26).toInt.toNat (-1)).1 26).toInt.toNat 0) 227 ((sa (sa (sa (sa (sa s 221 (s.1 26).toInt.toNat a1) 222 ((sa s 221 (s.1 26).toInt.toNat a1).1 26).toInt.toNat ((sa s 221 (s.1 26).toInt.toNat a1).1 7)) 224 ((sa (sa s 221 (s.1 26).toInt.toNat a1) 222 ((sa s 221 (s.1 26).toInt.toNat a1).1 26).toInt.toNat ((sa s 221 (s.1 26).toInt.toNat a1).1 7)).1 26).toInt.toNat (-1)) 225 ((sa (sa (sa s 221 (s.1 26).toInt.toNat a1) 222 ((sa s 221 (s.1 26).toInt.toNat a1).1 26).toInt.toNat ((sa s 221 (s.1 26).toInt.toNat a1).1 7)) 224 ((sa (sa s 221 (s.1 26).toInt.toNat a1) 222 ((sa s 221 (s.1 26).toInt.toNat a1).1 26).toInt.toNat ((sa s 221 (s.1 26).toInt.toNat a1).1 7)).1 26).toInt.toNat (-1)).1 26).toInt.toNat (-1)) 226 ((sa (sa (sa (sa s 221 (s.1 26).toInt.toNat a1) 222 ((sa s 221 (s.1 26).toInt.toNat a1).1 26).toInt.toNat ((sa s 221 (s.1 26).toInt.toNat a1).1 7)) 224 ((sa (sa s 221 (s.1 26).toInt.toNat a1) 222 ((sa s 221 (s.1 26).toInt.toNat a1).1 26).toInt.toNat ((sa s 221 (s.1 26).toInt.toNat a1).1 7)).1 26).toInt.toNat (-1)) 225 ((sa (sa (sa s 221 (s.1 26).toInt.toNat a1) 222 ((sa s 221 (s.1 26).toInt.toNat a1).1 26).toInt.toNat ((sa s 221 (s.1 26).toInt.toNat a1).1 7)) 224 ((sa (sa s 221 (s.1 26).toInt.toNat a1) 222 ((sa s 221 (s.1 26).toInt.toNat a1).1 26).toInt.toNat ((sa s 221 (s.1 26).toInt.toNat a1).1 7)).1 26).toInt.toNat (-1)).1 26).toInt.toNat (-1)).1 26).toInt.toNat 0).1 26).toInt.toNat (-1)).1 26).toInt.toNat (-1)) 229 ((sa (sa (sa (sa (sa (sa (sa s 221 (s.1 26).toInt.toNat a1) 222 ((sa s 221 (s.1 26).toInt.toNat a1).1 26).toInt.toNat ((sa s 221 (s.1 26).toInt.toNat a1).1 7)) 224 ((sa (sa s 221 (s.1 26).toInt.toNat a1) 222 ((sa s 221 (s.1 26).toInt.toNat a1).1 26).toInt.toNat ((sa s 221 (s.1 26).toInt.toNat a1).1 7)).1 26).toInt.toNat (-1)) 225 ((sa (sa (sa s 221 (s.1 26).toInt.toNat a1) 222 ((sa s 221 (s.1 26).toInt.toNat a1).1 26).toInt.toNat ((sa s 221 (s.1 26).toInt.toNat a1).1 7)) 224 ((sa (sa s 221 (s.1 26).toInt.toNat a1) 222 ((sa s 221 (s.1 26).toInt.toNat a1).1 26).toInt.toNat ((sa s 221 (s.1 26).toInt.toNat a1).1 7)).1 26).toInt.toNat (-1)).1 26).toInt.toNat (-1)) 226 ((sa (sa (sa (sa s 221 (s.1 26).toInt.toNat a1) 222 ((sa s 221 (s.1 26).toInt.toNat a1).1 26).toInt.toNat ((sa s 221 (s.1 26).toInt.toNat a1).1 7)) 224 ((sa (sa s 221 (s.1 26).toInt.toNat a1) 222 ((sa s 221 (s.1 26).toInt.toNat a1).1 26).toInt.toNat ((sa s 221 (s.1 26).toInt.toNat a1).1 7)).1 26).toInt.toNat (-1)) 225 ((sa (sa (sa s 221 (s.1 26).toInt.toNat a1) 222 ((sa s 221 (s.1 26).toInt.toNat a1).1 26).toInt.toNat ((sa s 221 (s.1 26).toInt.toNat a1).1 7)) 224 ((sa (sa s 221 (s.1 26).toInt.toNat a1) 222 ((sa s 221 (s.1 26).toInt.toNat a1).1 26).toInt.toNat ((sa s 221 (s.1 26).toInt.toNat a1).1 7)).1 26).toInt.toNat (-1)).1 26).toInt.toNat (-1)).1 26).toInt.toNat 0) 227 ((sa (sa (sa (sa (sa s 221 (s.1 26).toInt.toNat a1) 222 ((sa s 221 (s.1 26).toInt.toNat a1).1 26).toInt.toNat ((sa s 221 (s.1 26).toInt.toNat a1).1 7)) 224 ((sa (sa s 221 (s.1 26).toInt.toNat a1) 222 ((sa s 221 (s.1 26).toInt.toNat a1).1 26).toInt.toNat ((sa s 221 (s.1 26).toInt.toNat a1).1 7)).1 26).toInt.toNat (-1)) 225 ((sa (sa (sa s 221 (s.1 26).toInt.toNat a1) 222 ((sa s 221 (s.1 26).toInt.toNat a1).1 26).toInt.toNat ((sa s 221 (s.1 26).toInt.toNat a1).1 7)) 224 ((sa (sa s 221 (s.1 26).toInt.toNat a1) 222 ((sa s 221 (s.1 26).toInt.toNat a1).1 26).toInt.toNat ((sa s 221 (s.1 26).toInt.toNat a1).1 7)).1 26).toInt.toNat (-1)).1 26).toInt.toNat (-1)) 226 ((sa (sa (sa (sa s 221 (s.1 26).toInt.toNat a1) 222 ((sa s 221 (s.1 26).toInt.toNat a1).1 26).toInt.toNat ((sa s 221 (s.1 26).toInt.toNat a1).1 7)) 224 ((sa (sa s 221 (s.1 26).toInt.toNat a1) 222 ((sa s 221 (s.1 26).toInt.toNat a1).1 26).toInt.toNat ((sa s 221 (s.1 26).toInt.toNat a1).1 7)).1 26).toInt.toNat (-1)) 225 ((sa (sa (sa s 221 (s.1 26).toInt.toNat a1) 222 ((sa s 221 (s.1 26).toInt.toNat a1).1 26).toInt.toNat ((sa s 221 (s.1 26).toInt.toNat a1).1 7)) 224 ((sa (sa s 221 (s.1 26).toInt.toNat a1) 222 ((sa s 221 (s.1 26).toInt.toNat a1).1 26).toInt.toNat ((sa s 221 (s.1 26).toInt.toNat a1).1 7)).1 26).toInt.toNat (-1)).1 26).toInt.toNat (-1)).1 26).toInt.toNat 0).1 26).toInt.toNat (-1)) 228 ((sa (sa (sa (sa (sa (sa s 221 (s.1 26).toInt.toNat a1) 222 ((sa s 221 (s.1 26).toInt.toNat a1).1 26).toInt.toNat ((sa s 221 (s.1 26).toInt.toNat a1).1 7)) 224 ((sa (sa s 221 (s.1 26).toInt.toNat a1) 222 ((sa s 221 (s.1 26).toInt.toNat a1).1 26).toInt.toNat ((sa s 221 (s.1 26).toInt.toNat a1).1 7)).1 26).toInt.toNat (-1)) 225 ((sa (sa (sa s 221 (s.1 26).toInt.toNat a1) 222 ((sa s 221 (s.1 26).toInt.toNat a1).1 26).toInt.toNat ((sa s 221 (s.1 26).toInt.toNat a1).1 7)) 224 ((sa (sa s 221 (s.1 26).toInt.toNat a1) 222 ((sa s 221 (s.1 26).toInt.toNat a1).1 26).toInt.toNat ((sa s 221 (s.1 26).toInt.toNat a1).1 7)).1 26).toInt.toNat (-1)).1 26).toInt.toNat (-1)) 226 ((sa (sa (sa (sa s 221 (s.1 26).toInt.toNat a1) 222 ((sa s 221 (s.1 26).toInt.toNat a1).1 26).toInt.toNat ((sa s 221 (s.1 26).toInt.toNat a1).1 7)) 224 ((sa (sa s 221 (s.1 26).toInt.toNat a1) 222 ((sa s 221 (s.1 26).toInt.toNat a1).1 26).toInt.toNat ((sa s 221 (s.1 26).toInt.toNat a1).1 7)).1 26).toInt.toNat (-1)) 225 ((sa (sa (sa s 221 (s.1 26).toInt.toNat a1) 222 ((sa s 221 (s.1 26).toInt.toNat a1).1 26).toInt.toNat ((sa s 221 (s.1 26).toInt.toNat a1).1 7)) 224 ((sa (sa s 221 (s.1 26).toInt.toNat a1) 222 ((sa s 221 (s.1 26).toInt.toNat a1).1 26).toInt.toNat ((sa s 221 (s.1 26).toInt.toNat a1).1 7)).1 26).toInt.toNat (-1)).1 26).toInt.toNat (-1)).1 26).toInt.toNat 0) 227 ((sa (sa (sa (sa (sa s 221 (s.1 26).toInt.toNat a1) 222 ((sa s 221 (s.1 26).toInt.toNat a1).1 26).toInt.toNat ((sa s 221 (s.1 26).toInt.toNat a1).1 7)) 224 ((sa (sa s 221 (s.1 26).toInt.toNat a1) 222 ((sa s 221 (s.1 26).toInt.toNat a1).1 26).toInt.toNat ((sa s 221 (s.1 26).toInt.toNat a1).1 7)).1 26).toInt.toNat (-1)) 225 ((sa (sa (sa s 221 (s.1 26).toInt.toNat a1) 222 ((sa s 221 (s.1 26).toInt.toNat a1).1 26).toInt.toNat ((sa s 221 (s.1 26).toInt.toNat a1).1 7)) 224 ((sa (sa s 221 (s.1 26).toInt.toNat a1) 222 ((sa s 221 (s.1 26).toInt.toNat a1).1 26).toInt.toNat ((sa s 221 (s.1 26).toInt.toNat a1).1 7)).1 26).toInt.toNat (-1)).1 26).toInt.toNat (-1)) 226 ((sa (sa (sa (sa s 221 (s.1 26).toInt.toNat a1) 222 ((sa s 221 (s.1 26).toInt.toNat a1).1 26).toInt.toNat ((sa s 221 (s.1 26).toInt.toNat a1).1 7)) 224 ((sa (sa s 221 (s.1 26).toInt.toNat a1) 222 ((sa s 221 (s.1 26).toInt.toNat a1).1 26).toInt.toNat ((sa s 221 (s.1 26).toInt.toNat a1).1 7)).1 26).toInt.toNat (-1)) 225 ((sa (sa (sa s 221 (s.1 26).toInt.toNat a1) 222 ((sa s 221 (s.1 26).toInt.toNat a1).1 26).toInt.toNat ((sa s 221 (s.1 26).toInt.toNat a1).1 7)) 224 ((sa (sa s 221 (s.1 26).toInt.toNat a1) 222 ((sa s 221 (s.1 26).toInt.toNat a1).1 26).toInt.toNat ((sa s 221 (s.1 26).toInt.toNat a1).1 7)).1 26).toInt.toNat (-1)).1 26).toInt.toNat (-1)).1 26).toInt.toNat 0).1 26).toInt.toNat (-1)).1 26).toInt.toNat (-1)).1 26).toInt.toNat (-1)).1 26).toInt.toNat 0).1 26) + 1)).1 26)] (xo_push (.int 1)) rfl rfl ?_
  have ex12 := i_sub (x := (sf (sa (sa (sa (sa (sa (sa (sa (sa (sa s 221 (s.1 26).toInt.toNat a1) 222 ((sa s 221 (s.1 26).toInt.toNat a1).1 26).toInt.toNat ((sa s 221 (s.1 26).toInt.toNat a1).1 7)) 224 ((sa (sa s 221 (s.1 26).toInt.toNat a1) 222 ((sa s 221 (s.1 26).toInt.toNat a1).1 26).toInt.toNat ((sa s 221 (s.1 26).toInt.toNat a1).1 7)).1 26).toInt.toNat (-1)) 225 ((sa (sa (sa s 221 (s.1 26).toInt.toNat a1) 222 ((sa s 221 (s.1 26).toInt.toNat a1).1 26).toInt.toNat ((sa s 221 (s.1 26).toInt.toNat a1).1 7)) 224 ((sa (sa s 221 (s.1 26).toInt.toNat a1) 222 ((sa s 221 (s.1 26).toInt.toNat a1).1 26).toInt.toNat ((sa s 221 (s.1 26).toInt.toNat a1).1 7)).1 26).toInt.toNat (-1)).1 26).toInt.toNat (-1)) 226 ((sa (sa (sa (sa s 221 (s.1 26).toInt.toNat a1) 222 ((sa s 221 (s.1 26).toInt.toNat a1).1 26).toInt.toNat ((sa s 221 (s.1 26).toInt.toNat a1).1 7)) 224 ((sa (sa s 221 (s.1 26).toInt.toNat a1) 222 ((sa s 221 (s.1 26).toInt.toNat a1).1 26).toInt.toNat ((sa s 221 (s.1 26).toInt.toNat a1).1 7)).1 26).toInt.toNat (-1)) 225 ((sa (sa (sa s 221 (s.1 26).toInt.toNat a1) 222 ((sa s 221 (s.1 26).toInt.toNat a1).1 26).toInt.toNat ((sa s 221 (s.1 26).toInt.toNat a1).1 7)) 224 ((sa (sa s 221 (s.1 26).toInt.toNat a1) 222 ((sa s 221 (s.1 26).toInt.toNat a1).1 26).toInt.toNat ((sa s 221 (s.1 26).toInt.toNat a1).1 7)).1 26).toInt.toNat (-1)).1 26).toInt.toNat (-1)).1 26).toInt.toNat 0) 227 ((sa (sa (sa (sa (sa s 221 (s.1 26).toInt.toNat a1) 222 ((sa s 221 (s.1 26).toInt.toNat a1).1 26).toInt.toNat ((sa s 221 (s.1 26).toInt.toNat a1).1 7)) 224 ((sa (sa s 221 (s.1 26).toInt.toNat a1) 222 ((sa s 221 (s.1 26).toInt.toNat a1).1 26).toInt.toNat ((sa s 221 (s.1 26).toInt.toNat a1).1 7)).1 26).toInt.toNat (-1)) 225 ((sa (sa (sa s 221 (s.1 26).toInt.toNat a1) 222 ((sa s 221 (s.1 26).toInt.toNat a1).1 26).toInt.toNat ((sa s 221 (s.1 26).toInt.toNat a1).1 7)) 224 ((sa (sa s 221 (s.1 26).toInt.toNat a1) 222 ((sa s 221 (s.1 26).toInt.toNat a1).1 26).toInt.toNat ((sa s 221 (s.1 26).toInt.toNat a1).1 7)).1 26).toInt.toNat (-1)).1 26).toInt.toNat (-1)) 226 ((sa (sa (sa (sa s 221 (s.1 26).toInt.toNat a1) 222 ((sa s 221 (s.1 26).toInt.toNat a1).1 26).toInt.toNat ((sa s 221 (s.1 26).toInt.toNat a1).1 7)) 224 ((sa (sa s 221 (s.1 26).toInt.toNat a1) 222 ((sa s 221 (s.1 26).toInt.toNat a1).1 26).toInt.toNat ((sa s 221 (s.1 26).toInt.toNat a1).1 7)).1 26).toInt.toNat (-1)) 225 ((sa (sa (sa s 221 (s.1 26).toInt.toNat a1) 222 ((sa s 221 (s.1 26).toInt.toNat a1).1 26).toInt.toNat ((sa s 221 (s.1 26).toInt.toNat a1).1 7)) 224 ((sa (sa s 221 (s.1 26).toInt.toNat a1) 222 ((sa s 221 (s.1 26).toInt.toNat a1).1 26).toInt.toNat ((sa s 221 (s.1 26).toInt.toNat a1).1 7)).1 26).toInt.toNat (-1)).1 26).toInt.toNat (-1)).1 26).toInt.toNat 0).1 26).toInt.toNat (-1)) 228 ((sa (sa (sa (sa (sa (sa s 221 (s.1 26).toInt.toNat a1) 222 ((sa s 221 (s.1 26).toInt.toNat a1).1 26).toInt.toNat ((sa s 221 (s.1 26).toInt.toNat a1).1 7)) 224 ((sa (sa s 221 (s.1 26).toInt.toNat a1) 222 ((sa s 221 (s.1 26).toInt.toNat a1).1 26).toInt.toNat ((sa s 221 (s.1 26).toInt.toNat a1).1 7)).1 26).toInt.toNat (-1)) 225 ((sa (sa (sa s 221 (s.1 26).toInt.toNat a1) 222 ((sa s 221 (s.1 26).toInt.toNat a1).1 26).toInt.toNat ((sa s 221 (s.1 26).toInt.toNat a1).1 7)) 224 ((sa (sa s 221 (s.1 26).toInt.toNat a1) 222 ((sa s 221 (s.1 26).toInt.toNat a1).1 26).toInt.toNat ((sa s 221 (s.1 26).toInt.toNat a1).1 7)).1 26).toInt.toNat (-1)).1 26).toInt.toNat (-1)) 226 ((sa (sa (sa (sa s 221 (s.1 26).toInt.toNat a1) 222 ((sa s 221 (s.1 26).toInt.toNat a1).1 26).toInt.toNat ((sa s 221 (s.1 26).toInt.toNat a1).1 7)) 224 ((sa (sa s 221 (s.1 26).toInt.toNat a1) 222 ((sa s 221 (s.1 26).toInt.toNat a1).1 26).toInt.toNat ((sa s 221 (s.1 26).toInt.toNat a1).1 7)).1 26).toInt.toNat (-1)) 225 ((sa (sa (sa s 221 (s.1 26).toInt.toNat a1) 222 ((sa s 221 (s.1 26).toInt.toNat a1).1 26).toInt.toNat ((sa s 221 (s.1 26).toInt.toNat a1).1 7)) 224 ((sa (sa s 221 (s.1 26).toInt.toNat a1) 222 ((sa s 221 (s.1 26).toInt.toNat a1).1 26).toInt.toNat ((sa s 221 (s.1 26).toInt.toNat a1).1 7)).1 26).toInt.toNat (-1)).1 26).toInt.toNat (-1)).1 26).toInt.toNat 0) 227 ((sa (sa (sa (sa (sa s 221 (s.1 26).toInt.toNat a1) 222 ((sa s 221 (s.1 26).toInt.toNat a1).1 26).toInt.toNat ((sa s 221 (s.1 26).toInt.toNat a1).1 7)) 224 ((sa (sa s 221 (s.1 26).toInt.toNat a1) 222 ((sa s 221 (s.1 26).toInt.toNat a1).1 26).toInt.toNat ((sa s 221 (s.1 26).toInt.toNat a1).1 7)).1 26).toInt.toNat (-1)) 225 ((sa (sa (sa s 221 (s.1 26).toInt.toNat a1) 222 ((sa s 221 (s.1 26).toInt.toNat a1).1 26).toInt.toNat ((sa s 221 (s.1 26).toInt.toNat a1).1 7)) 224 ((sa (sa s 221 (s.1 26).toInt.toNat a1) 222 ((sa s 221 (s.1 26).toInt.toNat a1).1 26).toInt.toNat ((sa s 221 (s.1 26).toInt.toNat a1).1 7)).1 26).toInt.toNat (-1)).1 26).toInt.toNat (-1)) 226 ((sa (sa (sa (sa s 221 (s.1 26).toInt.toNat a1) 222 ((sa s 221 (s.1 26).toInt.toNat a1).1 26).toInt.toNat ((sa s 221 (s.1 26).toInt.toNat a1).1 7)) 224 ((sa (sa s 221 (s.1 26).toInt.toNat a1) 222 ((sa s 221 (s.1 26).toInt.toNat a1).1 26).toInt.toNat ((sa s 221 (s.1 26).toInt.toNat a1).1 7)).1 26).toInt.toNat (-1)) 225 ((sa (sa (sa s 221 (s.1 26).toInt.toNat a1) 222 ((sa s 221 (s.1 26).toInt.toNat a1).1 26).toInt.toNat ((sa s 221 (s.1 26).toInt.toNat a1).1 7)) 224 ((sa (sa s 221 (s.1 26).toInt.toNat a1) 222 ((sa s 221 (s.1 26).toInt.toNat a1).1 26).toInt.toNat ((sa s 221 (s.1 26).toInt.toNat a1).1 7)).1 26).toInt.toNat (-1)).1 26).toInt.toNat (-1)).1 26).toInt.toNat 0).1 26).toInt.toNat (-1)).1 26).toInt.toNat (-1)) 229 ((sa (sa (sa (sa (sa (sa (sa s 221 (s.1 26).toInt.toNat a1) 222 ((sa s 221 (s.1 26).toInt.toNat a1).1 26).toInt.toNat ((sa s 221 (s.1 26).toInt.toNat a1).1 7)) 224 ((sa (sa s 221 (s.1 26).toInt.toNat a1) 222 ((sa s 221 (s.1 26).toInt.toNat a1).1 26).toInt.toNat ((sa s 221 (s.1 26).toInt.toNat a1).1 7)).1 26).toInt.toNat (-1)) 225 ((sa (sa (sa s 221 (s.1 26).toInt.toNat a1) 222 ((sa s 221 (s.1 26).toInt.toNat a1).1 26).toInt.toNat ((sa s 221 (s.1 26).toInt.toNat a1).1 7)) 224 ((sa (sa s 221 (s.1 26).toInt.toNat a1) 222 ((sa s 221 (s.1 26).toInt.toNat a1).1 26).toInt.toNat ((sa s 221 (s.1 26).toInt.toNat a1).1 7)).1 26).toInt.toNat (-1)).1 26).toInt.toNat (-1)) 226 ((sa (sa (sa (sa s 221 (s.1 26).toInt.toNat a1) 222 ((sa s 221 (s.1 26).toInt.toNat a1).1 26).toInt.toNat ((sa s 221 (s.1 26).toInt.toNat a1).1 7)) 224 ((sa (sa s 221 (s.1 26).toInt.toNat a1) 222 ((sa s 221 (s.1 26).toInt.toNat a1).1 26).toInt.toNat ((sa s 221 (s.1 26).toInt.toNat a1).1 7)).1 26).toInt.toNat (-1)) 225 ((sa (sa (sa s 221 (s.1 26).toInt.toNat a1) 222 ((sa s 221 (s.1 26).toInt.toNat a1).1 26).toInt.toNat ((sa s 221 (s.1 26).toInt.toNat a1).1 7)) 224 ((sa (sa s 221 (s.1 26).toInt.toNat a1) 222 ((sa s 221 (s.1 26).toInt.toNat a1).1 26).toInt.toNat ((sa s 221 (s.1 26).toInt.toNat a1).1 7)).1 26).toInt.toNat (-1)).1 26).toInt.toNat (-1)).1 26).toInt.toNat 0) 227 ((sa (sa (sa (sa (sa s 221 (s.1 26).toInt.toNat a1) 222 ((sa s 221 (s.1 26).toInt.toNat a1).1 26).toInt.toNat ((sa s 221 (s.1 26).toInt.toNat a1).1 7)) 224 ((sa (sa s 221 (s.1 26).toInt.toNat a1) 222 ((sa s 221 (s.1 26).toInt.toNat a1).1 26).toInt.toNat ((sa s 221 (s.1 26).toInt.toNat a1).1 7)).1 26).toInt.toNat (-1)) 225 ((sa (sa (sa s 221 (s.1 26).toInt.toNat a1) 222 ((sa s 221 (s.1 26).toInt.toNat a1).1 26).toInt.toNat ((sa s 221 (s.1 26).toInt.toNat a1).1 7)) 224 ((sa (sa s 221 (s.1 26).toInt.toNat a1) 222 ((sa s 221 (s.1 26).toInt.toNat a1).1 26).toInt.toNat ((sa s 221 (s.1 26).toInt.toNat a1).1 7)).1 26).toInt.toNat (-1)).1 26).toInt.toNat (-1)) 226 ((sa (sa (sa (sa s 221 (s.1 26).toInt.toNat a1) 222 ((sa s 221 (s.1 26).toInt.toNat a1).1 26).toInt.toNat ((sa s 221 (s.1 26).toInt.toNat a1).1 7)) 224 ((sa (sa s 221 (s.1 26).toInt.toNat a1) 222 ((sa s 221 (s.1 26).toInt.toNat a1).1 26).toInt.toNat ((sa s 221 (s.1 26).toInt.toNat a1).1 7)).1 26).toInt.toNat (-1)) 225 ((sa (sa (sa s 221 (s.1 26).toInt.toNat a1) 222 ((sa s 221 (s.1 26).toInt.toNat a1).1 26).toInt.toNat ((sa s 221 (s.1 26).toInt.toNat a1).1 7)) 224 ((sa (sa s 221 (s.1 26).toInt.toNat a1) 222 ((sa s 221 (s.1 26).toInt.toNat a1).1 26).toInt.toNat ((sa s 221 (s.1 26).toInt.toNat a1).1 7)).1 26).toInt.toNat (-1)).1 26).toInt.toNat (-1)).1 26).toInt.toNat 0).1 26).toInt.toNat (-1)) 228 ((sa (sa (sa (sa (sa (sa s 221 (s.1 26).toInt.toNat a1) 222 ((sa s 221 (s.1 26).toInt.toNat a1).1 26).toInt.toNat ((sa s 221 (s.1 26).toInt.toNat a1).1 7)) 224 ((sa (sa s 221 (s.1 26).toInt.toNat a1) 222 ((sa s 221 (s.1 26).toInt.toNat a1).1 26).toInt.toNat ((sa s 221 (s.1 26).toInt.toNat a1).1 7)).1 26).toInt.toNat (-1)) 225 ((sa (sa (sa s 221 (s.1 26).toInt.toNat a1) 222 ((sa s 221 (s.1 26).toInt.toNat a1).1 26).toInt.toNat ((sa s 221 (s.1 26).toInt.toNat a1).1 7)) 224 ((sa (sa s 221 (s.1 26).toInt.toNat a1) 222 ((sa s 221 (s.1 26).toInt.toNat a1).1 26).toInt.toNat ((sa s 221 (s.1 26).toInt.toNat a1).1 7)).1 26).toInt.toNat (-1)).1 26).toInt.toNat (-1)) 226 ((sa (sa (sa (sa s 221 (s.1 26).toInt.toNat a1) 222 ((sa s 221 (s.1 26).toInt.toNat a1).1 26).toInt.toNat ((sa s 221 (s.1 26).toInt.toNat a1).1 7)) 224 ((sa (sa s 221 (s.1 26).toInt.toNat a1) 222 ((sa s 221 (s.1 26).toInt.toNat a1).1 26).toInt.toNat ((sa s 221 (s.1 26).toInt.toNat a1).1 7)).1 26).toInt.toNat (-1)) 225 ((sa (sa (sa s 221 (s.1 26).toInt.toNat a1) 222 ((sa s 221 (s.1 26).toInt.toNat a1).1 26).toInt.toNat ((sa s 221 (s.1 26).toInt.toNat a1).1 7)) 224 ((sa (sa s 221 (s.1 26).toInt.toNat a1) 222 ((sa s 221 (s.1 26).toInt.toNat a1).1 26).toInt.toNat ((sa s 221 (s.1 26).toInt.toNat a1).1 7)).1 26).toInt.toNat (-1)).1 26).toInt.toNat (-1)).1 26).toInt.toNat 0) 227 ((sa (sa (sa (sa (sa s 221 (s.1 26).toInt.toNat a1) 222 ((sa s 221 (s.1 26).toInt.toNat a1).1 26).toInt.toNat ((sa s 221 (s.1 26).toInt.toNat a1).1 7)) 224 ((sa (sa s 221 (s.1 26).toInt.toNat a1) 222 ((sa s 221 (s.1 26).toInt.toNat a1).1 26).toInt.toNat ((sa s 221 (s.1 26).toInt.toNat a1).1 7)).1 26).toInt.toNat (-1)) 225 ((sa (sa (sa s 221 (s.1 26).toInt.toNat a1) 222 ((sa s 221 (s.1 26).toInt.toNat a1).1 26).toInt.toNat ((sa s 221 (s.1 26).toInt.toNat a1).1 7)) 224 ((sa (sa s 221 (s.1 26).toInt.toNat a1) 222 ((sa s 221 (s.1 26).toInt.toNat a1).1 26).toInt.toNat ((sa s 221 (s.1 26).toInt.toNat a1).1 7)).1 26).toInt.toNat (-1)).1 26).toInt.toNat (-1)) 226 ((sa (sa (sa (sa s 221 (s.1 26).toInt.toNat a1) 222 ((sa s 221 (s.1 26).toInt.toNat a1).1 26).toInt.toNat ((sa s 221 (s.1 26).toInt.toNat a1).1 7)) 224 ((sa (sa s 221 (s.1 26).toInt.toNat a1) 222 ((sa s 221 (s.1 26).toInt.toNat a1).1 26).toInt.toNat ((sa s 221 (s.1 26).toInt.toNat a1).1 7)).1 26).toInt.toNat (-1)) 225 ((sa (sa (sa s 221 (s.1 26).toInt.toNat a1) 222 ((sa s 221 (s.1 26).toInt.toNat a1).1 26).toInt.toNat ((sa s 221 (s.1 26).toInt.toNat a1).1 7)) 224 ((sa (sa s 221 (s.1 26).toInt.toNat a1) 222 ((sa s 221 (s.1 26).toInt.toNat a1).1 26).toInt.toNat ((sa s 221 (s.1 26).toInt.toNat a1).1 7)).1 26).toInt.toNat (-1)).1 26).toInt.toNat (-1)).1 26).toInt.toNat 0).1 26).toInt.toNat (-1)).1 26).toInt.toNat (-1)).1 26).toInt.toNat (-1)) 230 ((sa (sa (sa (sa (sa (sa (sa (sa s 221 (s.1 26).toInt.toNat a1) 222 ((sa s 221 (s.1 26).toInt.toNat a1).1 26).toInt.toNat ((sa s 221 (s.1 26).toInt.toNat a1).1 7)) 224 ((sa (sa s 221 (s.1 26).toInt.toNat a1) 222 ((sa s 221 (s.1 26).toInt.toNat a1).1 26).toInt.toNat ((sa s 221 (s.1 26).toInt.toNat a1).1 7)).1 26).toInt.toNat (-1)) 225 ((sa (sa (sa s 221 (s.1 26).toInt.toNat a1) 222 ((sa s 221 (s.1 26).toInt.toNat a1).1 26).toInt.toNat ((sa s 221 (s.1 26).toInt.toNat a1).1 7)) 224 ((sa (sa s 221 (s.1 26).toInt.toNat a1) 222 ((sa s 221 (s.1 26).toInt.toNat a1).1 26).toInt.toNat ((sa s 221 (s.1 26).toInt.toNat a1).1 7)).1 26).toInt.toNat (-1)).1 26).toInt.toNat (-1)) 226 ((sa (sa (sa (sa s 221 (s.1 26).toInt.toNat a1) 222 ((sa s 221 (s.1 26).toInt.toNat a1).1 26).toInt.toNat ((sa s 221 (s.1 26).toInt.toNat a1).1 7)) 224 ((sa (sa s 221 (s.1 26).toInt.toNat a1) 222 ((sa s 221 (s.1 26).toInt.toNat a1).1 26).toInt.toNat ((sa s 221 (s.1 26).toInt.toNat a1).1 7)).1 26).toInt.toNat (-1)) 225 ((sa (sa (sa s 221 (s.1 26).toInt.toNat a1) 222 ((sa s 221 (s.1 26).toInt.toNat a1).1 26).toInt.toNat ((sa s 221 (s.1 26).toInt.toNat a1).1 7)) 224 ((sa (sa s 221 (s.1 26).toInt.toNat a1) 222 ((sa s 221 (s.1 26).toInt.toNat a1).1 26).toInt.toNat ((sa s 221 (s.1 26).toInt.toNat a1).1 7)).1 26).toInt.toNat (-1)).1 26).toInt.toNat (-1)).1 26).toInt.toNat 0) 227 ((sa (sa (sa (sa (sa s 221 (s.1 26).toInt.toNat a1) 222 ((sa s 221 (s.1 26).toInt.toNat a1).1 26).toInt.toNat ((sa s 221 (s.1 26).toInt.toNat a1).1 7)) 224 ((sa (sa s 221 (s.1 26).toInt.toNat a1) 222 ((sa s 221 (s.1 26).toInt.toNat a1).1 26).toInt.toNat ((sa s 221 (s.1 26).toInt.toNat a1).1 7)).1 26).toInt.toNat (-1)) 225 ((sa (sa (sa s 221 (s.1 26).toInt.toNat a1) 222 ((sa s 221 (s.1 26).toInt.toNat a1).1 26).toInt.toNat ((sa s 221 (s.1 26).toInt.toNat a1).1 7)) 224 ((sa (sa s 221 (s.1 26).toInt.toNat a1) 222 ((sa s 221 (s.1 26).toInt.toNat a1).1 26).toInt.toNat ((sa s 221 (s.1 26).toInt.toNat a1).1 7)).1 26).toInt.toNat (-1)).1 26).toInt.toNat (-1)) 226 ((sa (sa (sa (sa s 221 (s.1 26).toInt.toNat a1) 222 ((sa s 221 (s.1 26).toInt.toNat a1).1 26).toInt.toNat ((sa s 221 (s.1 26).toInt.toNat a1).1 7)) 224 ((sa (sa s 221 (s.1 26).toInt.toNat a1) 222 ((sa s 221 (s.1 26).toInt.toNat a1).1 26).toInt.toNat ((sa s 221 (s.1 26).toInt.toNat a1).1 7)).1 26).toInt.toNat (-1)) 225 ((sa (sa (sa s 221 (s.1 26).toInt.toNat a1) 222 ((sa s 221 (s.1 26).toInt.toNat a1).1 26).toInt.toNat ((sa s 221 (s.1 26).toInt.toNat a1).1 7)) 224 ((sa (sa s 221 (s.1 26).toInt.toNat a1) 222 ((sa s 221 (s.1 26).toInt.toNat a1).1 26).toInt.toNat ((sa s 221 (s.1 26).toInt.toNat a1).1 7)).1 26).toInt.toNat (-1)).1 26).toInt.toNat (-1)).1 26).toInt.toNat 0).1 26).toInt.toNat (-1)) 228 ((sa (sa (sa (sa (sa (sa s 221 (s.1 26).toInt.toNat a1) 222 ((sa s 221 (s.1 26).toInt.toNat a1).1 26).toInt.toNat ((sa s 221 (s.1 26).toInt.toNat a1).1 7)) 224 ((sa (sa s 221 (s.1 26).toInt.toNat a1) 222 ((sa s 221 (s.1 26).toInt.toNat a1).1 26).toInt.toNat ((sa s 221 (s.1 26).toInt.toNat a1).1 7)).1 26).toInt.toNat (-1)) 225 ((sa (sa (sa s 221 (s.1 26).toInt.toNat a1) 222 ((sa s 221 (s.1 26).toInt.toNat a1).1 26).toInt.toNat ((sa s 221 (s.1 26).toInt.toNat a1).1 7)) 224 ((sa (sa s 221 (s.1 26).toInt.toNat a1) 222 ((sa s 221 (s.1 26).toInt.toNat a1).1 26).toInt.toNat ((sa s 221 (s.1 26).toInt.toNat a1).1 7)).1 26).toInt.toNat (-1)).1 26).toInt.toNat (-1)) 226 ((sa (sa (sa (sa s 221 (s.1 26).toInt.toNat a1) 222 ((sa s 221 (s.1 26).toInt.toNat a1).1 26).toInt.toNat ((sa s 221 (s.1 26).toInt.toNat a1).1 7)) 224 ((sa (sa s 221 (s.1 26).toInt.toNat a1) 222 ((sa s 221 (s.1 26).toInt.toNat a1).1 26).toInt.toNat ((sa s 221 (s.1 26).toInt.toNat a1).1 7)).1 26).toInt.toNat (-1)) 225 ((sa (sa (sa s 221 (s.1 26).toInt.toNat a1) 222 ((sa s 221 (s.1 26).toInt.toNat a1).1 26).toInt.toNat ((sa s 221 (s.1 26).toInt.toNat a1).1 7)) 224 ((sa (sa s 221 (s.1 26).toInt.toNat a1) 222 ((sa s 221 (s.1 26).toInt.toNat a1).1 26).toInt.toNat ((sa s 221 (s.1 26).toInt.toNat a1).1 7)).1 26).toInt.toNat (-1)).1 26).toInt.toNat (-1)).1 26).toInt.toNat 0) 227 ((sa (sa (sa (sa (sa s 221 (s.1 26).toInt.toNat a1) 222 ((sa s 221 (s.1 26).toInt.toNat a1).1 26).toInt.toNat ((sa s 221 (s.1 26).toInt.toNat a1).1 7)) 224 ((sa (sa s 221 (s.1 26).toInt.toNat a1) 222 ((sa s 221 (s.1 26).toInt.toNat a1).1 26).toInt.toNat ((sa s 221 (s.1 26).toInt.toNat a1).1 7)).1 26).toInt.toNat (-1)) 225 ((sa (sa (sa s 221 (s.1 26).toInt.toNat a1) 222 ((sa s 221 (s.1 26).toInt.toNat a1).1 26).toInt.toNat ((sa s 221 (s.1 26).toInt.toNat a1).1 7)) 224 ((sa (sa s 221 (s.1 26).toInt.toNat a1) 222 ((sa s 221 (s.1 26).toInt.toNat a1).1 26).toInt.toNat ((sa s 221 (s.1 26).toInt.toNat a1).1 7)).1 26).toInt.toNat (-1)).1 26).toInt.toNat (-1)) 226 ((sa (sa (sa (sa s 221 (s.1 26).toInt.toNat a1) 222 ((sa s 221 (s.1 26).toInt.toNat a1).1 26).toInt.toNat ((sa s 221 (s.1 26).toInt.toNat a1).1 7)) 224 ((sa (sa s 221 (s.1 26).toInt.toNat a1) 222 ((sa s 221 (s.1 26).toInt.toNat a1).1 26).toInt.toNat ((sa s 221 (s.1 26).toInt.toNat a1).1 7)).1 26).toInt.toNat (-1)) 225 ((sa (sa (sa s 221 (s.1 26).toInt.toNat a1) 222 ((sa s 221 (s.1 26).toInt.toNat a1).1 26).toInt.toNat ((sa s 221 (s.1 26).toInt.toNat a1).1 7)) 224 ((sa (sa s 221 (s.1 26).toInt.toNat a1) 222 ((sa s 221 (s.1 26).toInt.toNat a1).1 26).toInt.toNat ((sa s 221 (s.1 26).toInt.toNat a1).1 7)).1 26).toInt.toNat (-1)).1 26).toInt.toNat (-1)).1 26).toInt.toNat 0).1 26).toInt.toNat (-1)).1 26).toInt.toNat (-1)) 229 ((sa (sa (sa (sa (sa (sa (sa s 221 (s.1 26).toInt.toNat a1) 222 ((sa s 221 (s.1 26).toInt.toNat a1).1 26).toInt.toNat ((sa s 221 (s.1 26).toInt.toNat a1).1 7)) 224 ((sa (sa s 221 (s.1 26).toInt.toNat a1) 222 ((sa s 221 (s.1 26).toInt.toNat a1).1 26).toInt.toNat ((sa s 221 (s.1 26).toInt.toNat a1).1 7)).1 26).toInt.toNat (-1)) 225 ((sa (sa (sa s 221 (s.1 26).toInt.toNat a1) 222 ((sa s 221 (s.1 26).toInt.toNat a1).1 26).toInt.toNat ((sa s 221 (s.1 26).toInt.toNat a1).1 7)) 224 ((sa (sa s 221 (s.1 26).toInt.toNat a1) 222 ((sa s 221 (s.1 26).toInt.toNat a1).1 26).toInt.toNat ((sa s 221 (s.1 26).toInt.toNat a1).1 7)).1 26).toInt.toNat (-1)).1 26).toInt.toNat (-1)) 226 ((sa (sa (sa (sa s 221 (s.1 26).toInt.toNat a1) 222 ((sa s 221 (s.1 26).toInt.toNat a1).1 26).toInt.toNat ((sa s 221 (s.1 26).toInt.toNat a1).1 7)) 224 ((sa (sa s 221 (s.1 26).toInt.toNat a1) 222 ((sa s 221 (s.1 26).toInt.toNat a1).1 26).toInt.toNat ((sa s 221 (s.1 26).toInt.toNat a1).1 7)).1 26).toInt.toNat (-1)) 225 ((sa (sa (sa s 221 (s.1 26).toInt.toNat a1) 222 ((sa s 221 (s.1 26).toInt.toNat a1).1 26).toInt.toNat ((sa s 221 (s.1 26).toInt.toNat a1).1 7)) 224 ((sa (sa s 221 (s.1 26).toInt.toNat a1) 222 ((sa s 221 (s.1 26).toInt.toNat a1).1 26).toInt.toNat ((sa s 221 (s.1 26).toInt.toNat a1).1 7)).1 26).toInt.toNat (-1)).1 26).toInt.toNat (-1)).1 26).toInt.toNat 0) 227 ((sa (sa (sa (sa (sa s 221 (s.1 26).toInt.toNat a1) 222 ((sa s 221 (s.1 26).toInt.toNat a1).1 26).toInt.toNat ((sa s 221 (s.1 26).toInt.toNat a1).1 7)) 224 ((sa (sa s 221 (s.1 26).toInt.toNat a1) 222 ((sa s 221 (s.1 26).toInt.toNat a1).1 26).toInt.toNat ((sa s 221 (s.1 26).toInt.toNat a1).1 7)).1 26).toInt.toNat (-1)) 225 ((sa (sa (sa s 221 (s.1 26).toInt.toNat a1) 222 ((sa s 221 (s.1 26).toInt.toNat a1).1 26).toInt.toNat ((sa s 221 (s.1 26).toInt.toNat a1).1 7)) 224 ((sa (sa s 221 (s.1 26).toInt.toNat a1) 222 ((sa s 221 (s.1 26).toInt.toNat a1).1 26).toInt.toNat ((sa s 221 (s.1 26).toInt.toNat a1).1 7)).1 26).toInt.toNat (-1)).1 26).toInt.toNat (-1)) 226 ((sa (sa (sa (sa s 221 (s.1 26).toInt.toNat a1) 222 ((sa s 221 (s.1 26).toInt.toNat a1).1 26).toInt.toNat ((sa s 221 (s.1 26).toInt.toNat a1).1 7)) 224 ((sa (sa s 221 (s.1 26).toInt.toNat a1) 222 ((sa s 221 (s.1 26).toInt.toNat a1).1 26).toInt.toNat ((sa s 221 (s.1 26).toInt.toNat a1).1 7)).1 26).toInt.toNat (-1)) 225 ((sa (sa (sa s 221 (s.1 26).toInt.toNat a1) 222 ((sa s 221 (s.1 26).toInt.toNat a1).1 26).toInt.toNat ((sa s 221 (s.1 26).toInt.toNat a1).1 7)) 224 ((sa (sa s 221 (s.1 26).toInt.toNat a1) 222 ((sa s 221 (s.1 26).toInt.toNat a1).1 26).toInt.toNat ((sa s 221 (s.1 26).toInt.toNat a1).1 7)).1 26).toInt.toNat (-1)).1 26).toInt.toNat (-1)).1 26).toInt.toNat 0).1 26).toInt.toNat (-1)) 228 ((sa (sa (sa (sa (sa (sa s 221 (s.1 26).toInt.toNat a1) 222 ((sa s 221 (s.1 26).toInt.toNat a1).1 26).toInt.toNat ((sa s 221 (s.1 26).toInt.toNat a1).1 7)) 224 ((sa (sa s 221 (s.1 26).toInt.toNat a1) 222 ((sa s 221 (s.1 26).toInt.toNat a1).1 26).toInt.toNat ((sa s 221 (s.1 26).toInt.toNat a1).1 7)).1 26).toInt.toNat (-1)) 225 ((sa (sa (sa s 221 (s.1 26).toInt.toNat a1) 222 ((sa s 221 (s.1 26).toInt.toNat a1).1 26).toInt.toNat ((sa s 221 (s.1 26).toInt.toNat a1).1 7)) 224 ((sa (sa s 221 (s.1 26).toInt.toNat a1) 222 ((sa s 221 (s.1 26).toInt.toNat a1).1 26).toInt.toNat ((sa s 221 (s.1 26).toInt.toNat a1).1 7)).1 26).toInt.toNat (-1)).1 26).toInt.toNat (-1)) 226 ((sa (sa (sa (sa s 221 (s.1 26).toInt.toNat a1) 222 ((sa s 221 (s.1 26).toInt.toNat a1).1 26).toInt.toNat ((sa s 221 (s.1 26).toInt.toNat a1).1 7)) 224 ((sa (sa s 221 (s.1 26).toInt.toNat a1) 222 ((sa s 221 (s.1 26).toInt.toNat a1).1 26).toInt.toNat ((sa s 221 (s.1 26).toInt.toNat a1).1 7)).1 26).toInt.toNat (-1)) 225 ((sa (sa (sa s 221 (s.1 26).toInt.toNat a1) 222 ((sa s 221 (s.1 26).toInt.toNat a1).1 26).toInt.toNat ((sa s 221 (s.1 26).toInt.toNat a1).1 7)) 224 ((sa (sa s 221 (s.1 26).toInt.toNat a1) 222 ((sa s 221 (s.1 26).toInt.toNat a1).1 26).toInt.toNat ((sa s 221 (s.1 26).toInt.toNat a1).1 7)).1 26).toInt.toNat (-1)).1 26).toInt.toNat (-1)).1 26).toInt.toNat 0) 227 ((sa (sa (sa (sa (sa s 221 (s.1 26).toInt.toNat a1) 222 ((sa s 221 (s.1 26).toInt.toNat a1).1 26).toInt.toNat ((sa s 221 (s.1 26).toInt.toNat a1).1 7)) 224 ((sa (sa s 221 (s.1 26).toInt.toNat a1) 222 ((sa s 221 (s.1 26).toInt.toNat a1).1 26).toInt.toNat ((sa s 221 (s.1 26).toInt.toNat a1).1 7)).1 26).toInt.toNat (-1)) 225 ((sa (sa (sa s 221 (s.1 26).toInt.toNat a1) 222 ((sa s 221 (s.1 26).toInt.toNat a1).1 26).toInt.toNat ((sa s 221 (s.1 26).toInt.toNat a1).1 7)) 224 ((sa (sa s 221 (s.1 26).toInt.toNat a1) 222 ((sa s 221 (s.1 26).toInt.toNat a1).1 26).toInt.toNat ((sa s 221 (s.1 26).toInt.toNat a1).1 7)).1 26).toInt.toNat (-1)).1 26).toInt.toNat (-1)) 226 ((sa (sa (sa (sa s 221 (s.1 26).toInt.toNat a1) 222 ((sa s 221 (s.1 26).toInt.toNat a1).1 26).toInt.toNat ((sa s 221 (s.1 26).toInt.toNat a1).1 7)) 224 ((sa (sa s 221 (s.1 26).toInt.toNat a1) 222 ((sa s 221 (s.1 26).toInt.toNat a1).1 26).toInt.toNat ((sa s 221 (s.1 26).toInt.toNat a1).1 7)).1 26).toInt.toNat (-1)) 225 ((sa (sa (sa s 221 (s.1 26).toInt.toNat a1) 222 ((sa s 221 (s.1 26).toInt.toNat a1).1 26).toInt.toNat ((sa s 221 (s.1 26).toInt.toNat a1).1 7)) 224 ((sa (sa s 221 (s.1 26).toInt.toNat a1) 222 ((sa s 221 (s.1 26).toInt.toNat a1).1 26).toInt.toNat ((sa s 221 (s.1 26).toInt.toNat a1).1 7)).1 26).toInt.toNat (-1)).1 26).toInt.toNat (-1)).1 26).toInt.toNat 0).1 26).toInt.toNat (-1)).1 26).toInt.toNat (-1)).1 26).toInt.toNat (-1)).1 26).toInt.toNat 0) 26 (((sa (sa (sa (sa (sa (sa (sa (sa (sa s 221 (s.1 26).toInt.toNat a1) 222 ((sa s 221 (s.1 26).toInt.toNat a1).1 26).toInt.toNat ((sa s 221 (s.1 26).toInt.toNat a1).1 7)) 224 ((sa (sa s 221 (s.1 26).toInt.toNat a1) 222 ((sa s 221 (s.1 26).toInt.toNat a1).1 26).toInt.toNat ((sa s 221 (s.1 26).toInt.toNat a1).1 7)).1 26).toInt.toNat (-1)) 225 ((sa (sa (sa s 221 (s.1 26).toInt.toNat a1) 222 ((sa s 221 (s.1 26).toInt.toNat a1).1 26).toInt.toNat ((sa s 221 (s.1 26).toInt.toNat a1).1 7)) 224 ((sa (sa s 221 (s.1 26).toInt.toNat a1) 222 ((sa s 221 (s.1 26).toInt.toNat a1).1 26).toInt.toNat ((sa s 221 (s.1 26).toInt.toNat a1).1 7)).1 26).toInt.toNat (-1)).1 26).toInt.toNat (-1)) 226 ((sa (sa (sa (sa s 221 (s.1 26).toInt.toNat a1) 222 ((sa s 221 (s.1 26).toInt.toNat a1).1 26).toInt.toNat ((sa s 221 (s.1 26).toInt.toNat a1).1 7)) 224 ((sa (sa s 221 (s.1 26).toInt.toNat a1) 222 ((sa s 221 (s.1 26).toInt.toNat a1).1 26).toInt.toNat ((sa s 221 (s.1 26).toInt.toNat a1).1 7)).1 26).toInt.toNat (-1)) 225 ((sa (sa (sa s 221 (s.1 26).toInt.toNat a1) 222 ((sa s 221 (s.1 26).toInt.toNat a1).1 26).toInt.toNat ((sa s 221 (s.1 26).toInt.toNat a1).1 7)) 224 ((sa (sa s 221 (s.1 26).toInt.toNat a1) 222 ((sa s 221 (s.1 26).toInt.toNat a1).1 26).toInt.toNat ((sa s 221 (s.1 26).toInt.toNat a1).1 7)).1 26).toInt.toNat (-1)).1 26).toInt.toNat (-1)).1 26).toInt.toNat 0) 227 ((sa (sa (sa (sa (sa s 221 (s.1 26).toInt.toNat a1) 222 ((sa s 221 (s.1 26).toInt.toNat a1).1 26).toInt.toNat ((sa s 221 (s.1 26).toInt.toNat a1).1 7)) 224 ((sa (sa s 221 (s.1 26).toInt.toNat a1) 222 ((sa s 221 (s.1 26).toInt.toNat a1).1 26).toInt.toNat ((sa s 221 (s.1 26).toInt.toNat a1).1 7)).1 26).toInt.toNat (-1)) 225 ((sa (sa (sa s 221 (s.1 26).toInt.toNat a1) 222 ((sa s 221 (s.1 26).toInt.toNat a1).1 26).toInt.toNat ((sa s 221 (s.1 26).toInt.toNat a1).1 7)) 224 ((sa (sa s 221 (s.1 26).toInt.toNat a1) 222 ((sa s 221 (s.1 26).toInt.toNat a1).1 26).toInt.toNat ((sa s 221 (s.1 26).toInt.toNat a1).1 7)).1 26).toInt.toNat (-1)).1 26).toInt.toNat (-1)) 226 ((sa (sa (sa (sa s 221 (s.1 26).toInt.toNat a1) 222 ((sa s 221 (s.1 26).toInt.toNat a1).1 26).toInt.toNat ((sa s 221 (s.1 26).toInt.toNat a1).1 7)) 224 ((sa (sa s 221 (s.1 26).toInt.toNat a1) 222 ((sa s 221 (s.1 26).toInt.toNat a1).1 26).toInt.toNat ((sa s 221 (s.1 26).toInt.toNat a1).1 7)).1 26).toInt.toNat (-1)) 225 ((sa (sa (sa s 221 (s.1 26).toInt.toNat a1) 222 ((sa s 221 (s.1 26).toInt.toNat a1).1 26).toInt.toNat ((sa s 221 (s.1 26).toInt.toNat a1).1 7)) 224 ((sa (sa s 221 (s.1 26).toInt.toNat a1) 222 ((sa s 221 (s.1 26).toInt.toNat a1).1 26).toInt.toNat ((sa s 221 (s.1 26).toInt.toNat a1).1 7)).1 26).toInt.toNat (-1)).1 26).toInt.toNat (-1)).1 26).toInt.toNat 0).1 26).toInt.toNat (-1)) 228 ((sa (sa (sa (sa (sa (sa s 221 (s.1 26).toInt.toNat a1) 222 ((sa s 221 (s.1 26).toInt.toNat a1).1 26).toInt.toNat ((sa s 221 (s.1 26).toInt.toNat a1).1 7)) 224 ((sa (sa s 221 (s.1 26).toInt.toNat a1) 222 ((sa s 221 (s.1 26).toInt.toNat a1).1 26).toInt.toNat ((sa s 221 (s.1 26).toInt.toNat a1).1 7)).1 26).toInt.toNat (-1)) 225 ((sa (sa (sa s 221 (s.1 26).toInt.toNat a1) 222 ((sa s 221 (s.1 26).toInt.toNat a1).1 26).toInt.toNat ((sa s 221 (s.1 26).toInt.toNat a1).1 7)) 224 ((sa (sa s 221 (s.1 26).toInt.toNat a1) 222 ((sa s 221 (s.1 26).toInt.toNat a1).1 26).toInt.toNat ((sa s 221 (s.1 26).toInt.toNat a1).1 7)).1 26).toInt.toNat (-1)).1 26).toInt.toNat (-1)) 226 ((sa (sa (sa (sa s 221 (s.1 26).toInt.toNat a1) 222 ((sa s 221 (s.1 26).toInt.toNat a1).1 26).toInt.toNat ((sa s 221 (s.1 26).toInt.toNat a1).1 7)) 224 ((sa (sa s 221 (s.1 26).toInt.toNat a1) 222 ((sa s 221 (s.1 26).toInt.toNat a1).1 26).toInt.toNat ((sa s 221 (s.1 26).toInt.toNat a1).1 7)).1 26).toInt.toNat (-1)) 225 ((sa (sa (sa s 221 (s.1 26).toInt.toNat a1) 222 ((sa s 221 (s.1 26).toInt.toNat a1).1 26).toInt.toNat ((sa s 221 (s.1 26).toInt.toNat a1).1 7)) 224 ((sa (sa s 221 (s.1 26).toInt.toNat a1) 222 ((sa s 221 (s.1 26).toInt.toNat a1).1 26).toInt.toNat ((sa s 221 (s.1 26).toInt.toNat a1).1 7)).1 26).toInt.toNat (-1)).1 26).toInt.toNat (-1)).1 26).toInt.toNat 0) 227 ((sa (sa (sa (sa (sa s 221 (s.1 26).toInt.toNat a1) 222 ((sa s 221 (s.1 26).toInt.toNat a1).1 26).toInt.toNat ((sa s 221 (s.1 26).toInt.toNat a1).1 7)) 224 ((sa (sa s 221 (s.1 26).toInt.toNat a1) 222 ((sa s 221 (s.1 26).toInt.toNat a1).1 26).toInt.toNat ((sa s 221 (s.1 26).toInt.toNat a1).1 7)).1 26).toInt.toNat (-1)) 225 ((sa (sa (sa s 221 (s.1 26).toInt.toNat a1) 222 ((sa s 221 (s.1 26).toInt.toNat a1).1 26).toInt.toNat ((sa s 221 (s.1 26).toInt.toNat a1).1 7)) 224 ((sa (sa s 221 (s.1 26).toInt.toNat a1) 222 ((sa s 221 (s.1 26).toInt.toNat a1).1 26).toInt.toNat ((sa s 221 (s.1 26).toInt.toNat a1).1 7)).1 26).toInt.toNat (-1)).1 26).toInt.toNat (-1)) 226 ((sa (sa (sa (sa s 221 (s.1 26).toInt.toNat a1) 222 ((sa s 221 (s.1 26).toInt.toNat a1).1 26).toInt.toNat ((sa s 221 (s.1 26).toInt.toNat a1).1 7)) 224 ((sa (sa s 221 (s.1 26).toInt.toNat a1) 222 ((sa s 221 (s.1 26).toInt.toNat a1).1 26).toInt.toNat ((sa s 221 (s.1 26).toInt.toNat a1).1 7)).1 26).toInt.toNat (-1)) 225 ((sa (sa (sa s 221 (s.1 26).toInt.toNat a1) 222 ((sa s 221 (s.1 26).toInt.toNat a1).1 26).toInt.toNat ((sa s 221 (s.1 26).toInt.toNat a1).1 7)) 224 ((sa (sa s 221 (s.1 26).toInt.toNat a1) 222 ((sa s 221 (s.1 26).toInt.toNat a1).1 26).toInt.toNat ((sa s 221 (s.1 26).toInt.toNat a1).1 7)).1 26).toInt.toNat (-1)).1 26).toInt.toNat (-1)).1 26).toInt.toNat 0).1 26).toInt.toNat (-1)).1 26).toInt.toNat (-1)) 229 ((sa (sa (sa (sa (sa (sa (sa s 221 (s.1 26).toInt.toNat a1) 222 ((sa s 221 (s.1 26).toInt.toNat a1).1 26).toInt.toNat ((sa s 221 (s.1 26).toInt.toNat a1).1 7)) 224 ((sa (sa s 221 (s.1 26).toInt.toNat a1) 222 ((sa s 221 (s.1 26).toInt.toNat a1).1 26).toInt.toNat ((sa s 221 (s.1 26).toInt.toNat a1).1 7)).1 26).toInt.toNat (-1)) 225 ((sa (sa (sa s 221 (s.1 26).toInt.toNat a1) 222 ((sa s 221 (s.1 26).toInt.toNat a1).1 26).toInt.toNat ((sa s 221 (s.1 26).toInt.toNat a1).1 7)) 224 ((sa (sa s 221 (s.1 26).toInt.toNat a1) 222 ((sa s 221 (s.1 26).toInt.toNat a1).1 26).toInt.toNat ((sa s 221 (s.1 26).toInt.toNat a1).1 7)).1 26).toInt.toNat (-1)).1 26).toInt.toNat (-1)) 226 ((sa (sa (sa (sa s 221 (s.1 26).toInt.toNat a1) 222 ((sa s 221 (s.1 26).toInt.toNat a1).1 26).toInt.toNat ((sa s 221 (s.1 26).toInt.toNat a1).1 7)) 224 ((sa (sa s 221 (s.1 26).toInt.toNat a1) 222 ((sa s 221 (s.1 26).toInt.toNat a1).1 26).toInt.toNat ((sa s 221 (s.1 26).toInt.toNat a1).1 7)).1 26).toInt.toNat (-1)) 225 ((sa (sa (sa s 221 (s.1 26).toInt.toNat a1) 222 ((sa s 221 (s.1 26).toInt.toNat a1).1 26).toInt.toNat ((sa s 221 (s.1 26).toInt.toNat a1).1 7)) 224 ((sa (sa s 221 (s.1 26).toInt.toNat a1) 222 ((sa s 221 (s.1 26).toInt.toNat a1).1 26).toInt.toNat ((sa s 221 (s.1 26).toInt.toNat a1).1 7)).1 26).toInt.toNat (-1)).1 26).toInt.toNat (-1)).1 26).toInt.toNat 0) 227 ((sa (sa (sa (sa (sa s 221 (s.1 26).toInt.toNat a1) 222 ((sa s 221 (s.1 26).toInt.toNat a1).1 26).toInt.toNat ((sa s 221 (s.1 26).toInt.toNat a1).1 7)) 224 ((sa (sa s 221 (s.1 26).toInt.toNat a1) 222 ((sa s 221 (s.1 26).toInt.toNat a1).1 26).toInt.toNat ((sa s 221 (s.1 26).toInt.toNat a1).1 7)).1 26).toInt.toNat (-1)) 225 ((sa (sa (sa s 221 (s.1 26).toInt.toNat a1) 222 ((sa s 221 (s.1 26).toInt.toNat a1).1 26).toInt.toNat ((sa s 221 (s.1 26).toInt.toNat a1).1 7)) 224 ((sa (sa s 221 (s.1 26).toInt.toNat a1) 222 ((sa s 221 (s.1 26).toInt.toNat a1).1 26).toInt.toNat ((sa s 221 (s.1 26).toInt.toNat a1).1 7)).1 26).toInt.toNat (-1)).1 26).toInt.toNat (-1)) 226 ((sa (sa (sa (sa s 221 (s.1 26).toInt.toNat a1) 222 ((sa s 221 (s.1 26).toInt.toNat a1).1 26).toInt.toNat ((sa s 221 (s.1 26).toInt.toNat a1).1 7)) 224 ((sa (sa s 221 (s.1 26).toInt.toNat a1) 222 ((sa s 221 (s.1 26).toInt.toNat a1).1 26).toInt.toNat ((sa s 221 (s.1 26).toInt.toNat a1).1 7)).1 26).toInt.toNat (-1)) 225 ((sa (sa (sa s 221 (s.1 26).toInt.toNat a1) 222 ((sa s 221 (s.1 26).toInt.toNat a1).1 26).toInt.toNat ((sa s 221 (s.1 26).toInt.toNat a1).1 7)) 224 ((sa (sa s 221 (s.1 26).toInt.toNat a1) 222 ((sa s 221 (s.1 26).toInt.toNat a1).1 26).toInt.toNat ((sa s 221 (s.1 26).toInt.toNat a1).1 7)).1 26).toInt.toNat (-1)).1 26).toInt.toNat (-1)).1 26).toInt.toNat 0).1 26).toInt.toNat (-1)) 228 ((sa (sa (sa (sa (sa (sa s 221 (s.1 26).toInt.toNat a1) 222 ((sa s 221 (s.1 26).toInt.toNat a1).1 26).toInt.toNat ((sa s 221 (s.1 26).toInt.toNat a1).1 7)) 224 ((sa (sa s 221 (s.1 26).toInt.toNat a1) 222 ((sa s 221 (s.1 26).toInt.toNat a1).1 26).toInt.toNat ((sa s 221 (s.1 26).toInt.toNat a1).1 7)).1 26).toInt.toNat (-1)) 225 ((sa (sa (sa s 221 (s.1 26).toInt.toNat a1) 222 ((sa s 221 (s.1 26).toInt.toNat a1).1 26).toInt.toNat ((sa s 221 (s.1 26).toInt.toNat a1).1 7)) 224 ((sa (sa s 221 (s.1 26).toInt.toNat a1) 222 ((sa s 221 (s.1 26).toInt.toNat a1).1 26).toInt.toNat ((sa s 221 (s.1 26).toInt.toNat a1).1 7)).1 26).toInt.toNat (-1)).1 26).toInt.toNat (-1)) 226 ((sa (sa (sa (sa s 221 (s.1 26).toInt.toNat a1) 222 ((sa s 221 (s.1 26).toInt.toNat a1).1 26).toInt.toNat ((sa s 221 (s.1 26).toInt.toNat a1).1 7)) 224 ((sa (sa s 221 (s.1 26).toInt.toNat a1) 222 ((sa s 221 (s.1 26).toInt.toNat a1).1 26).toInt.toNat ((sa s 221 (s.1 26).toInt.toNat a1).1 7)).1 26).toInt.toNat (-1)) 225 ((sa (sa (sa s 221 (s.1 26).toInt.toNat a1) 222 ((sa s 221 (s.1 26).toInt.toNat a1).1 26).toInt.toNat ((sa s 221 (s.1 26).toInt.toNat a1).1 7)) 224 ((sa (sa s 221 (s.1 26).toInt.toNat a1) 222 ((sa s 221 (s.1 26).toInt.toNat a1).1 26).toInt.toNat ((sa s 221 (s.1 26).toInt.toNat a1).1 7)).1 26).toInt.toNat (-1)).1 26).toInt.toNat (-1)).1 26).toInt.toNat 0) 227 ((sa (sa (sa (sa (sa s 221 (s.1 26).toInt.toNat a1) 222 ((sa s 221 (s.1 26).toInt.toNat a1).1 26).toInt.toNat ((sa s 221 (s.1 26).toInt.toNat a1).1 7)) 224 ((sa (sa s 221 (s.1 26).toInt.toNat a1) 222 ((sa s 221 (s.1 26).toInt.toNat a1).1 26).toInt.toNat ((sa s 221 (s.1 26).toInt.toNat a1).1 7)).1 26).toInt.toNat (-1)) 225 ((sa (sa (sa s 221 (s.1 26).toInt.toNat a1) 222 ((sa s 221 (s.1 26).toInt.toNat a1).1 26).toInt.toNat ((sa s 221 (s.1 26).toInt.toNat a1).1 7)) 224 ((sa (sa s 221 (s.1 26).toInt.toNat a1) 222 ((sa s 221 (s.1 26).toInt.toNat a1).1 26).toInt.toNat ((sa s 221 (s.1 26).toInt.toNat a1).1 7)).1 26).toInt.toNat (-1)).1 26).toInt.toNat (-1)) 226 ((sa (sa (sa (sa s 221 (s.1 26).toInt.toNat a1) 222 ((sa s 221 (s.1 26).toInt.toNat a1).1 26).toInt.toNat ((sa s 221 (s.1 26).toInt.toNat a1).1 7)) 224 ((sa (sa s 221 (s.1 26).toInt.toNat a1) 222 ((sa s 221 (s.1 26).toInt.toNat a1).1 26).toInt.toNat ((sa s 221 (s.1 26).toInt.toNat a1).1 7)).1 26).toInt.toNat (-1)) 225 ((sa (sa (sa s 221 (s.1 26).toInt.toNat a1) 222 ((sa s 221 (s.1 26).toInt.toNat a1).1 26).toInt.toNat ((sa s 221 (s.1 26).toInt.toNat a1).1 7)) 224 ((sa (sa s 221 (s.1 26).toInt.toNat a1) 222 ((sa s 221 (s.1 26).toInt.toNat a1).1 26).toInt.toNat ((sa s 221 (s.1 26).toInt.toNat a1).1 7)).1 26).toInt.toNat (-1)).1 26).toInt.toNat (-1)).1 26).toInt.toNat 0).1 26).toInt.toNat (-1)).1 26).toInt.toNat (-1)).1 26).toInt.toNat (-1)) 230 ((sa (sa (sa (sa (sa (sa (sa (sa s 221 (s.1 26).toInt.toNat a1) 222 ((sa s 221 (s.1 26).toInt.toNat a1).1 26).toInt.toNat ((sa s 221 (s.1 26).toInt.toNat a1).1 7)) 224 ((sa (sa s 221 (s.1 26).toInt.toNat a1) 222 ((sa s 221 (s.1 26).toInt.toNat a1).1 26).toInt.toNat ((sa s 221 (s.1 26).toInt.toNat a1).1 7)).1 26).toInt.toNat (-1)) 225 ((sa (sa (sa s 221 (s.1 26).toInt.toNat a1) 222 ((sa s 221 (s.1 26).toInt.toNat a1).1 26).toInt.toNat ((sa s 221 (s.1 26).toInt.toNat a1).1 7)) 224 ((sa (sa s 221 (s.1 26).toInt.toNat a1) 222 ((sa s 221 (s.1 26).toInt.toNat a1).1 26).toInt.toNat ((sa s 221 (s.1 26).toInt.toNat a1).1 7)).1 26).toInt.toNat (-1)).1 26).toInt.toNat (-1)) 226 ((sa (sa (sa (sa s 221 (s.1 26).toInt.toNat a1) 222 ((sa s 221 (s.1 26).toInt.toNat a1).1 26).toInt.toNat ((sa s 221 (s.1 26).toInt.toNat a1).1 7)) 224 ((sa (sa s 221 (s.1 26).toInt.toNat a1) 222 ((sa s 221 (s.1 26).toInt.toNat a1).1 26).toInt.toNat ((sa s 221 (s.1 26).toInt.toNat a1).1 7)).1 26).toInt.toNat (-1)) 225 ((sa (sa (sa s 221 (s.1 26).toInt.toNat a1) 222 ((sa s 221 (s.1 26).toInt.toNat a1).1 26).toInt.toNat ((sa s 221 (s.1 26).toInt.toNat a1).1 7)) 224 ((sa (sa s 221 (s.1 26).toInt.toNat a1) 222 ((sa s 221 (s.1 26).toInt.toNat a1).1 26).toInt.toNat ((sa s 221 (s.1 26).toInt.toNat a1).1 7)).1 26).toInt.toNat (-1)).1 26).toInt.toNat (-1)).1 26).toInt.toNat 0) 227 ((sa (sa (sa (sa (sa s 221 (s.1 26).toInt.toNat a1) 222 ((sa s 221 (s.1 26).toInt.toNat a1).1 26).toInt.toNat ((sa s 221 (s.1 26).toInt.toNat a1).1 7)) 224 ((sa (sa s 221 (s.1 26).toInt.toNat a1) 222 ((sa s 221 (s.1 26).toInt.toNat a1).1 26).toInt.toNat ((sa s 221 (s.1 26).toInt.toNat a1).1 7)).1 26).toInt.toNat (-1)) 225 ((sa (sa (sa s 221 (s.1 26).toInt.toNat a1) 222 ((sa s 221 (s.1 26).toInt.toNat a1).1 26).toInt.toNat ((sa s 221 (s.1 26).toInt.toNat a1).1 7)) 224 ((sa (sa s 221 (s.1 26).toInt.toNat a1) 222 ((sa s 221 (s.1 26).toInt.toNat a1).1 26).toInt.toNat ((sa s 221 (s.1 26).toInt.toNat a1).1 7)).1 26).toInt.toNat (-1)).1 26).toInt.toNat (-1)) 226 ((sa (sa (sa (sa s 221 (s.1 26).toInt.toNat a1) 222 ((sa s 221 (s.1 26).toInt.toNat a1).1 26).toInt.toNat ((sa s 221 (s.1 26).toInt.toNat a1).1 7)) 224 ((sa (sa s 221 (s.1 26).toInt.toNat a1) 222 ((sa s 221 (s.1 26).toInt.toNat a1).1 26).toInt.toNat ((sa s 221 (s.1 26).toInt.toNat a1).1 7)).1 26).toInt.toNat (-1)) 225 ((sa (sa (sa s 221 (s.1 26).toInt.toNat a1) 222 ((sa s 221 (s.1 26).toInt.toNat a1).1 26).toInt.toNat ((sa s 221 (s.1 26).toInt.toNat a1).1 7)) 224 ((sa (sa s 221 (s.1 26).toInt.toNat a1) 222 ((sa s 221 (s.1 26).toInt.toNat a1).1 26).toInt.toNat ((sa s 221 (s.1 26).toInt.toNat a1).1 7)).1 26).toInt.toNat (-1)).1 26).toInt.toNat (-1)).1 26).toInt.toNat 0).1 26).toInt.toNat (-1)) 228 ((sa (sa (sa (sa (sa (sa s 221 (s.1 26).toInt.toNat a1) 222 ((sa s 221 (s.1 26).toInt.toNat a1).1 26).toInt.toNat ((sa s 221 (s.1 26).toInt.toNat a1).1 7)) 224 ((sa (sa s 221 (s.1 26).toInt.toNat a1) 222 ((sa s 221 (s.1 26).toInt.toNat a1).1 26).toInt.toNat ((sa s 221 (s.1 26).toInt.toNat a1).1 7)).1 26).toInt.toNat (-1)) 225 ((sa (sa (sa s 221 (s.1 26).toInt.toNat a1) 222 ((sa s 221 (s.1 26).toInt.toNat a1).1 26).toInt.toNat ((sa s 221 (s.1 26).toInt.toNat a1).1 7)) 224 ((sa (sa s 221 (s.1 26).toInt.toNat a1) 222 ((sa s 221 (s.1 26).toInt.toNat a1).1 26).toInt.toNat ((sa s 221 (s.1 26).toInt.toNat a1).1 7)).1 26).toInt.toNat (-1)).1 26).toInt.toNat (-1)) 226 ((sa (sa (sa (sa s 221 (s.1 26).toInt.toNat a1) 222 ((sa s 221 (s.1 26).toInt.toNat a1).1 26).toInt.toNat ((sa s 221 (s.1 26).toInt.toNat a1).1 7)) 224 ((sa (sa s 221 (s.1 26).toInt.toNat a1) 222 ((sa s 221 (s.1 26).toInt.toNat a1).1 26).toInt.toNat ((sa s 221 (s.1 26).toInt.toNat a1).1 7)).1 26).toInt.toNat (-1)) 225 ((sa (sa (sa s 221 (s.1 26).toInt.toNat a1) 222 ((sa s 221 (s.1 26).toInt.toNat a1).1 26).toInt.toNat ((sa s 221 (s.1 26).toInt.toNat a1).1 7)) 224 ((sa (sa s 221 (s.1 26).toInt.toNat a1) 222 ((sa s 221 (s.1 26).toInt.toNat a1).1 26).toInt.toNat ((sa s 221 (s.1 26).toInt.toNat a1).1 7)).1 26).toInt.toNat (-1)).1 26).toInt.toNat (-1)).1 26).toInt.toNat 0) 227 ((sa (sa (sa (sa (sa s 221 (s.1 26).toInt.toNat a1) 222 ((sa s 221 (s.1 26).toInt.toNat a1).1 26).toInt.toNat ((sa s 221 (s.1 26).toInt.toNat a1).1 7)) 224 ((sa (sa s 221 (s.1 26).toInt.toNat a1) 222 ((sa s 221 (s.1 26).toInt.toNat a1).1 26).toInt.toNat ((sa s 221 (s.1 26).toInt.toNat a1).1 7)).1 26).toInt.toNat (-1)) 225 ((sa (sa (sa s 221 (s.1 26).toInt.toNat a1) 222 ((sa s 221 (s.1 26).toInt.toNat a1).1 26).toInt.toNat ((sa s 221 (s.1 26).toInt.toNat a1).1 7)) 224 ((sa (sa s 221 (s.1 26).toInt.toNat a1) 222 ((sa s 221 (s.1 26).toInt.toNat a1).1 26).toInt.toNat ((sa s 221 (s.1 26).toInt.toNat a1).1 7)).1 26).toInt.toNat (-1)).1 26).toInt.toNat (-1)) 226 ((sa (sa (sa (sa s 221 (s.1 26).toInt.toNat a1) 222 ((sa s 221 (s.1 26).toInt.toNat a1).1 26).toInt.toNat ((sa s 221 (s.1 26).toInt.toNat a1).1 7)) 224 ((sa (sa s 221 (s.1 26).toInt.toNat a1) 222 ((sa s 221 (s.1 26).toInt.toNat a1).1 26).toInt.toNat ((sa s 221 (s.1 26).toInt.toNat a1).1 7)).1 26).toInt.toNat (-1)) 225 ((sa (sa (sa s 221 (s.1 26).toInt.toNat a1) 222 ((sa s 221 (s.1 26).toInt.toNat a1).1 26).toInt.toNat ((sa s 221 (s.1 26).toInt.toNat a1).1 7)) 224 ((sa (sa s 221 (s.1 26).toInt.toNat a1) 222 ((sa s 221 (s.1 26).toInt.toNat a1).1 26).toInt.toNat ((sa s 221 (s.1 26).toInt.toNat a1).1 7)).1 26).toInt.toNat (-1)).1 26).toInt.toNat (-1)).1 26).toInt.toNat 0).1 26).toInt.toNat (-1)).1 26).toInt.toNat (-1)) 229 ((sa (sa (sa (sa (sa (sa (sa s 221 (s.1 26).toInt.toNat a1) 222 ((sa s 221 (s.1 26).toInt.toNat a1).1 26).toInt.toNat ((sa s 221 (s.1 26).toInt.toNat a1).1 7)) 224 ((sa (sa s 221 (s.1 26).toInt.toNat a1) 222 ((sa s 221 (s.1 26).toInt.toNat a1).1 26).toInt.toNat ((sa s 221 (s.1 26).toInt.toNat a1).1 7)).1 26).toInt.toNat (-1)) 225 ((sa (sa (sa s 221 (s.1 26).toInt.toNat a1) 222 ((sa s 221 (s.1 26).toInt.toNat a1).1 26).toInt.toNat ((sa s 221 (s.1 26).toInt.toNat a1).1 7)) 224 ((sa (sa s 221 (s.1 26).toInt.toNat a1) 222 ((sa s 221 (s.1 26).toInt.toNat a1).1 26).toInt.toNat ((sa s 221 (s.1 26).toInt.toNat a1).1 7)).1 26).toInt.toNat (-1)).1 26).toInt.toNat (-1)) 226 ((sa (sa (sa (sa s 221 (s.1 26).toInt.toNat a1) 222 ((sa s 221 (s.1 26).toInt.toNat a1).1 26).toInt.toNat ((sa s 221 (s.1 26).toInt.toNat a1).1 7)) 224 ((sa (sa s 221 (s.1 26).toInt.toNat a1) 222 ((sa s 221 (s.1 26).toInt.toNat a1).1 26).toInt.toNat ((sa s 221 (s.1 26).toInt.toNat a1).1 7)).1 26).toInt.toNat (-1)) 225 ((sa (sa (sa s 221 (s.1 26).toInt.toNat a1) 222 ((sa s 221 (s.1 26).toInt.toNat a1).1 26).toInt.toNat ((sa s 221 (s.1 26).toInt.toNat a1).1 7)) 224 ((sa (sa s 221 (s.1 26).toInt.toNat a1) 222 ((sa s 221 (s.1 26).toInt.toNat a1).1 26).toInt.toNat ((sa s 221 (s.1 26).toInt.toNat a1).1 7)).1 26).toInt.toNat (-1)).1 26).toInt.toNat (-1)).1 26).toInt.toNat 0) 227 ((sa (sa (sa (sa (sa s 221 (s.1 26).toInt.toNat a1) 222 ((sa s 221 (s.1 26).toInt.toNat a1).1 26).toInt.toNat ((sa s 221 (s.1 26).toInt.toNat a1).1 7)) 224 ((sa (sa s 221 (s.1 26).toInt.toNat a1) 222 ((sa s 221 (s.1 26).toInt.toNat a1).1 26).toInt.toNat ((sa s 221 (s.1 26).toInt.toNat a1).1 7)).1 26).toInt.toNat (-1)) 225 ((sa (sa (sa s 221 (s.1 26).toInt.toNat a1) 222 ((sa s 221 (s.1 26).toInt.toNat a1).1 26).toInt.toNat ((sa s 221 (s.1 26).toInt.toNat a1).1 7)) 224 ((sa (sa s 221 (s.1 26).toInt.toNat a1) 222 ((sa s 221 (s.1 26).toInt.toNat a1).1 26).toInt.toNat ((sa s 221 (s.1 26).toInt.toNat a1).1 7)).1 26).toInt.toNat (-1)).1 26).toInt.toNat (-1)) 226 ((sa (sa (sa (sa s 221 (s.1 26).toInt.toNat a1) 222 ((sa s 221 (s.1 26).toInt.toNat a1).1 26).toInt.toNat ((sa s 221 (s.1 26).toInt.toNat a1).1 7)) 224 ((sa (sa s 221 (s.1 26).toInt.toNat a1) 222 ((sa s 221 (s.1 26).toInt.toNat a1).1 26).toInt.toNat ((sa s 221 (s.1 26).toInt.toNat a1).1 7)).1 26).toInt.toNat (-1)) 225 ((sa (sa (sa s 221 (s.1 26).toInt.toNat a1) 222 ((sa s 221 (s.1 26).toInt.toNat a1).1 26).toInt.toNat ((sa s 221 (s.1 26).toInt.toNat a1).1 7)) 224 ((sa (sa s 221 (s.1 26).toInt.toNat a1) 222 ((sa s 221 (s.1 26).toInt.toNat a1).1 26).toInt.toNat ((sa s 221 (s.1 26).toInt.toNat a1).1 7)).1 26).toInt.toNat (-1)).1 26).toInt.toNat (-1)).1 26).toInt.toNat 0).1 26).toInt.toNat (-1)) 228 ((sa (sa (sa (sa (sa (sa s 221 (s.1 26).toInt.toNat a1) 222 ((sa s 221 (s.1 26).toInt.toNat a1).1 26).toInt.toNat ((sa s 221 (s.1 26).toInt.toNat a1).1 7)) 224 ((sa (sa s 221 (s.1 26).toInt.toNat a1) 222 ((sa s 221 (s.1 26).toInt.toNat a1).1 26).toInt.toNat ((sa s 221 (s.1 26).toInt.toNat a1).1 7)).1 26).toInt.toNat (-1)) 225 ((sa (sa (sa s 221 (s.1 26).toInt.toNat a1) 222 ((sa s 221 (s.1 26).toInt.toNat a1).1 26).toInt.toNat ((sa s 221 (s.1 26).toInt.toNat a1).1 7)) 224 ((sa (sa s 221 (s.1 26).toInt.toNat a1) 222 ((sa s 221 (s.1 26).toInt.toNat a1).1 26).toInt.toNat ((sa s 221 (s.1 26).toInt.toNat a1).1 7)).1 26).toInt.toNat (-1)).1 26).toInt.toNat (-1)) 226 ((sa (sa (sa (sa s 221 (s.1 26).toInt.toNat a1) 222 ((sa s 221 (s.1 26).toInt.toNat a1).1 26).toInt.toNat ((sa s 221 (s.1 26).toInt.toNat a1).1 7)) 224 ((sa (sa s 221 (s.1 26).toInt.toNat a1) 222 ((sa s 221 (s.1 26).toInt.toNat a1).1 26).toInt.toNat ((sa s 221 (s.1 26).toInt.toNat a1).1 7)).1 26).toInt.toNat (-1)) 225 ((sa (sa (sa s 221 (s.1 26).toInt.toNat a1) 222 ((sa s 221 (s.1 26).toInt.toNat a1).1 26).toInt.toNat ((sa s 221 (s.1 26).toInt.toNat a1).1 7)) 224 ((sa (sa s 221 (s.1 26).toInt.toNat a1) 222 ((sa s 221 (s.1 26).toInt.toNat a1).1 26).toInt.toNat ((sa s 221 (s.1 26).toInt.toNat a1).1 7)).1 26).toInt.toNat (-1)).1 26).toInt.toNat (-1)).1 26).toInt.toNat 0) 227 ((sa (sa (sa (sa (sa s 221 (s.1 26).toInt.toNat a1) 222 ((sa s 221 (s.1 26).toInt.toNat a1).1 26).toInt.toNat ((sa s 221 (s.1 26).toInt.toNat a1).1 7)) 224 ((sa (sa s 221 (s.1 26).toInt.toNat a1) 222 ((sa s 221 (s.1 26).toInt.toNat a1).1 26).toInt.toNat ((sa s 221 (s.1 26).toInt.toNat a1).1 7)).1 26).toInt.toNat (-1)) 225 ((sa (sa (sa s 221 (s.1 26).toInt.toNat a1) 222 ((sa s 221 (s.1 26).toInt.toNat a1).1 26).toInt.toNat ((sa s 221 (s.1 26).toInt.toNat a1).1 7)) 224 ((sa (sa s 221 (s.1 26).toInt.toNat a1) 222 ((sa s 221 (s.1 26).toInt.toNat a1).1 26).toInt.toNat ((sa s 221 (s.1 26).toInt.toNat a1).1 7)).1 26).toInt.toNat (-1)).1 26).toInt.toNat (-1)) 226 ((sa (sa (sa (sa s 221 (s.1 26).toInt.toNat a1) 222 ((sa s 221 (s.1 26).toInt.toNat a1).1 26).toInt.toNat ((sa s 221 (s.1 26).toInt.toNat a1).1 7)) 224 ((sa (sa s 221 (s.1 26).toInt.toNat a1) 222 ((sa s 221 (s.1 26).toInt.toNat a1).1 26).toInt.toNat ((sa s 221 (s.1 26).toInt.toNat a1).1 7)).1 26).toInt.toNat (-1)) 225 ((sa (sa (sa s 221 (s.1 26).toInt.toNat a1) 222 ((sa s 221 (s.1 26).toInt.toNat a1).1 26).toInt.toNat ((sa s 221 (s.1 26).toInt.toNat a1).1 7)) 224 ((sa (sa s 221 (s.1 26).toInt.toNat a1) 222 ((sa s 221 (s.1 26).toInt.toNat a1).1 26).toInt.toNat ((sa s 221 (s.1 26).toInt.toNat a1).1 7)).1 26).toInt.toNat (-1)).1 26).toInt.toNat (-1)).1 26).toInt.toNat 0).1 26).toInt.toNat (-1)).1 26).toInt.toNat (-1)).1 26).toInt.toNat (-1)).1 26).toInt.toNat 0).1 26) + 1)).1 26) (y := 1) rfl (show (1 : Int32).toInt = 1 by decide) h.1
  replace h := h.2 _ ex12
  refine g_c [.int (((sf (sa (sa (sa (sa (sa (sa (sa (sa (sa s 221 (s.1 26).toInt.toNat a1) 222 ((sa s 221 (s.1 26).toInt.toNat a1).1 26).toInt.toNat ((sa s 221 (s.1 26).toInt.toNat a1).1 7)) 224 ((sa (sa s 221 (s.1 26).toInt.toNat a1) 222 ((sa s 221 (s.1 26).toInt.toNat a1).1 26).toInt.toNat ((sa s 221 (s.1 26).toInt.toNat a1).1 7)).1 26).toInt.toNat (-1)) 225 ((sa (sa (sa s 221 (s.1 26).toInt.toNat a1) 222 ((sa s 221 (s.1 26).toInt.toNat a1).1 26).toInt.toNat ((sa s 221 (s.1 26).toInt.toNat a1).1 7)) 224 ((sa (sa s 221 (s.1 26).toInt.toNat a1) 222 ((sa s 221 (s.1 26).toInt.toNat a1).1 26).toInt.toNat ((sa s 221 (s.1 26).toInt.toNat a1).1 7)).1 26).toInt.toNat (-1)).1 26).toInt.toNat (-1)) 226 ((sa (sa (sa (sa s 221 (s.1 26).toInt.toNat a1) 222 ((sa s 221 (s.1 26).toInt.toNat a1).1 26).toInt.toNat ((sa s 221 (s.1 26).toInt.toNat a1).1 7)) 224 ((sa (sa s 221 (s.1 26).toInt.toNat a1) 222 ((sa s 221 (s.1 26).toInt.toNat a1).1 26).toInt.toNat ((sa s 221 (s.1 26).toInt.toNat a1).1 7)).1 26).toInt.toNat (-1)) 225 ((sa (sa (sa s 221 (s.1 26).toInt.toNat a1) 222 ((sa s 221 (s.1 26).toInt.toNat a1).1 26).toInt.toNat ((sa s 221 (s.1 26).toInt.toNat a1).1 7)) 224 ((sa (sa s 221 (s.1 26).toInt.toNat a1) 222 ((sa s 221 (s.1 26).toInt.toNat a1).1 26).toInt.toNat ((sa s 221 (s.1 26).toInt.toNat a1).1 7)).1 26).toInt.toNat (-1)).1 26).toInt.toNat (-1)).1 26).toInt.toNat 0) 227 ((sa (sa (sa (sa (sa s 221 (s.1 26).toInt.toNat a1) 222 ((sa s 221 (s.1 26).toInt.toNat a1).1 26).toInt.toNat ((sa s 221 (s.1 26).toInt.toNat a1).1 7)) 224 ((sa (sa s 221 (s.1 26).toInt.toNat a1) 222 ((sa s 221 (s.1 26).toInt.toNat a1).1 26).toInt.toNat ((sa s 221 (s.1 26).toInt.toNat a1).1 7)).1 26).toInt.toNat (-1)) 225 ((sa (sa (sa s 221 (s.1 26).toInt.toNat a1) 222 ((sa s 221 (s.1 26).toInt.toNat a1).1 26).toInt.toNat ((sa s 221 (s.1 26).toInt.toNat a1).1 7)) 224 ((sa (sa s 221 (s.1 26).toInt.toNat a1) 222 ((sa s 221 (s.1 26).toInt.toNat a1).1 26).toInt.toNat ((sa s 221 (s.1 26).toInt.toNat a1).1 7)).1 26).toInt.toNat (-1)).1 26).toInt.toNat (-1)) 226 ((sa (sa (sa (sa s 221 (s.1 26).toInt.toNat a1) 222 ((sa s 221 (s.1 26).toInt.toNat a1).1 26).toInt.toNat ((sa s 221 (s.1 26).toInt.toNat a1).1 7)) 224 ((sa (sa s 221 (s.1 26).toInt.toNat a1) 222 ((sa s 221 (s.1 26).toInt.toNat a1).1 26).toInt.toNat ((sa s 221 (s.1 26).toInt.toNat a1).1 7)).1 26).toInt.toNat (-1)) 225 ((sa (sa (sa s 221 (s.1 26).toInt.toNat a1) 222 ((sa s 221 (s.1 26).toInt.toNat a1).1 26).toInt.toNat ((sa s 221 (s.1 26).toInt.toNat a1).1 7)) 224 ((sa (sa s 221 (s.1 26).toInt.toNat a1) 222 ((sa s 221 (s.1 26).toInt.toNat a1).1 26).toInt.toNat ((sa s 221 (s.1 26).toInt.toNat a1).1 7)).1 26).toInt.toNat (-1)).1 26).toInt.toNat (-1)).1 26).toInt.toNat 0).1 26).toInt.toNat (-1)) 228 ((sa (sa (sa (sa (sa (sa s 221 (s.1 26).toInt.toNat a1) 222 ((sa s 221 (s.1 26).toInt.toNat a1).1 26).toInt.toNat ((sa s 221 (s.1 26).toInt.toNat a1).1 7)) 224 ((sa (sa s 221 (s.1 26).toInt.toNat a1) 222 ((sa s 221 (s.1 26).toInt.toNat a1).1 26).toInt.toNat ((sa s 221 (s.1 26).toInt.toNat a1).1 7)).1 26).toInt.toNat (-1)) 225 ((sa (sa (sa s 221 (s.1 26).toInt.toNat a1) 222 ((sa s 221 (s.1 26).toInt.toNat a1).1 26).toInt.toNat ((sa s 221 (s.1 26).toInt.toNat a1).1 7)) 224 ((sa (sa s 221 (s.1 26).toInt.toNat a1) 222 ((sa s 221 (s.1 26).toInt.toNat a1).1 26).toInt.toNat ((sa s 221 (s.1 26).toInt.toNat a1).1 7)).1 26).toInt.toNat (-1)).1 26).toInt.toNat (-1)) 226 ((sa (sa (sa (sa s 221 (s.1 26).toInt.toNat a1) 222 ((sa s 221 (s.1 26).toInt.toNat a1).1 26).toInt.toNat ((sa s 221 (s.1 26).toInt.toNat a1).1 7)) 224 ((sa (sa s 221 (s.1 26).toInt.toNat a1) 222 ((sa s 221 (s.1 26).toInt.toNat a1).1 26).toInt.toNat ((sa s 221 (s.1 26).toInt.toNat a1).1 7)).1 26).toInt.toNat (-1)) 225 ((sa (sa (sa s 221 (s.1 26).toInt.toNat a1) 222 ((sa s 221 (s.1 26).toInt.toNat a1).1 26).toInt.toNat ((sa s 221 (s.1 26).toInt.toNat a1).1 7)) 224 ((sa (sa s 221 (s.1 26).toInt.toNat a1) 222 ((sa s 221 (s.1 26).toInt.toNat a1).1 26).toInt.toNat ((sa s 221 (s.1 26).toInt.toNat a1).1 7)).1 26).toInt.toNat (-1)).1 26).toInt.toNat (-1)).1 26).toInt.toNat 0) 227 ((sa (sa (sa (sa (sa s 221 (s.1 26).toInt.toNat a1) 222 ((sa s 221 (s.1 26).toInt.toNat a1).1 26).toInt.toNat ((sa s 221 (s.1 26).toInt.toNat a1).1 7)) 224 ((sa (sa s 221 (s.1 26).toInt.toNat a1) 222 ((sa s 221 (s.1 26).toInt.toNat a1).1 26).toInt.toNat ((sa s 221 (s.1 26).toInt.toNat a1).1 7)).1 26).toInt.toNat (-1)) 225 ((sa (sa (sa s 221 (s.1 26).toInt.toNat a1) 222 ((sa s 221 (s.1 26).toInt.toNat a1).1 26).toInt.toNat ((sa s 221 (s.1 26).toInt.toNat a1).1 7)) 224 ((sa (sa s 221 (s.1 26).toInt.toNat a1) 222 ((sa s 221 (s.1 26).toInt.toNat a1).1 26).toInt.toNat ((sa s 221 (s.1 26).toInt.toNat a1).1 7)).1 26).toInt.toNat (-1)).1 26).toInt.toNat (-1)) 226 ((sa (sa (sa (sa s 221 (s.1 26).toInt.toNat a1) 222 ((sa s 221 (s.1 26).toInt.toNat a1).1 26).toInt.toNat ((sa s 221 (s.1 26).toInt.toNat a1).1 7)) 224 ((sa (sa s 221 (s.1 26).toInt.toNat a1) 222 ((sa s 221 (s.1 26).toInt.toNat a1).1 26).toInt.toNat ((sa s 221 (s.1 26).toInt.toNat a1).1 7)).1 26).toInt.toNat (-1)) 225 ((sa (sa (sa s 221 (s.1 26).toInt.toNat a1) 222 ((sa s 221 (s.1 26).toInt.toNat a1).1 26).toInt.toNat ((sa s 221 (s.1 26).toInt.toNat a1).1 7)) 224 ((sa (sa s 221 (s.1 26).toInt.toNat a1) 222 ((sa s 221 (s.1 26).toInt.toNat a1).1 26).toInt.toNat ((sa s 221 (s.1 26).toInt.toNat a1).1 7)).1 26).toInt.toNat (-1)).1 26).toInt.toNat (-1)).1 26).toInt.toNat 0).1 26).toInt.toNat (-1)).1 26).toInt.toNat (-1)) 229 ((sa (sa (sa (sa (sa (sa (sa s 221 (s.1 26).toInt.toNat a1) 222 ((sa s 221 (s.1 26).toInt.toNat a1).1 26).toInt.toNat ((sa s 221 (s.1 26).toInt.toNat a1).1 7)) 224 ((sa (sa s 221 (s.1 26).toInt.toNat a1) 222 ((sa s 221 (s.1 26).toInt.toNat a1).1 26).toInt.toNat ((sa s 221 (s.1 26).toInt.toNat a1).1 7)).1 26).toInt.toNat (-1)) 225 ((sa (sa (sa s 221 (s.1 26).toInt.toNat a1) 222 ((sa s 221 (s.1 26).toInt.toNat a1).1 26).toInt.toNat ((sa s 221 (s.1 26).toInt.toNat a1).1 7)) 224 ((sa (sa s 221 (s.1 26).toInt.toNat a1) 222 ((sa s 221 (s.1 26).toInt.toNat a1).1 26).toInt.toNat ((sa s 221 (s.1 26).toInt.toNat a1).1 7)).1 26).toInt.toNat (-1)).1 26).toInt.toNat (-1)) 226 ((sa (sa (sa (sa s 221 (s.1 26).toInt.toNat a1) 222 ((sa s 221 (s.1 26).toInt.toNat a1).1 26).toInt.toNat ((sa s 221 (s.1 26).toInt.toNat a1).1 7)) 224 ((sa (sa s 221 (s.1 26).toInt.toNat a1) 222 ((sa s 221 (s.1 26).toInt.toNat a1).1 26).toInt.toNat ((sa s 221 (s.1 26).toInt.toNat a1).1 7)).1 26).toInt.toNat (-1)) 225 ((sa (sa (sa s 221 (s.1 26).toInt.toNat a1) 222 ((sa s 221 (s.1 26).toInt.toNat a1).1 26).toInt.toNat ((sa s 221 (s.1 26).toInt.toNat a1).1 7)) 224 ((sa (sa s 221 (s.1 26).toInt.toNat a1) 222 ((sa s 221 (s.1 26).toInt.toNat a1).1 26).toInt.toNat ((sa s 221 (s.1 26).toInt.toNat a1).1 7)).1 26).toInt.toNat (-1)).1 26).toInt.toNat (-1)).1 26).toInt.toNat 0) 227 ((sa (sa (sa (sa (sa s 221 (s.1 26).toInt.toNat a1) 222 ((sa s 221 (s.1 26).toInt.toNat a1).1 26).toInt.toNat ((sa s 221 (s.1 26).toInt.toNat a1).1 7)) 224 ((sa (sa s 221 (s.1 26).toInt.toNat a1) 222 ((sa s 221 (s.1 26).toInt.toNat a1).1 26).toInt.toNat ((sa s 221 (s.1 26).toInt.toNat a1).1 7)).1 26).toInt.toNat (-1)) 225 ((sa (sa (sa s 221 (s.1 26).toInt.toNat a1) 222 ((sa s 221 (s.1 26).toInt.toNat a1).1 26).toInt.toNat ((sa s 221 (s.1 26).toInt.toNat a1).1 7)) 224 ((sa (sa s 221 (s.1 26).toInt.toNat a1) 222 ((sa s 221 (s.1 26).toInt.toNat a1).1 26).toInt.toNat ((sa s 221 (s.1 26).toInt.toNat a1).1 7)).1 26).toInt.toNat (-1)).1 26).toInt.toNat (-1)) 226 ((sa (sa (sa (sa s 221 (s.1 26).toInt.toNat a1) 222 ((sa s 221 (s.1 26).toInt.toNat a1).1 26).toInt.toNat ((sa s 221 (s.1 26).toInt.toNat a1).1 7)) 224 ((sa (sa s 221 (s.1 26).toInt.toNat a1) 222 ((sa s 221 (s.1 26).toInt.toNat a1).1 26).toInt.toNat ((sa s 221 (s.1 26).toInt.toNat a1).1 7)).1 26).toInt.toNat (-1)) 225 ((sa (sa (sa s 221 (s.1 26).toInt.toNat a1) 222 ((sa s 221 (s.1 26).toInt.toNat a1).1 26).toInt.toNat ((sa s 221 (s.1 26).toInt.toNat a1).1 7)) 224 ((sa (sa s 221 (s.1 26).toInt.toNat a1) 222 ((sa s 221 (s.1 26).toInt.toNat a1).1 26).toInt.toNat ((sa s 221 (s.1 26).toInt.toNat a1).1 7)).1 26).toInt.toNat (-1)).1 26).toInt.toNat (-1)).1 26).toInt.toNat 0).1 26).toInt.toNat (-1)) 228 ((sa (sa (sa (sa (sa (sa s 221 (s.1 26).toInt.toNat a1) 222 ((sa s 221 (s.1 26).toInt.toNat a1).1 26).toInt.toNat ((sa s 221 (s.1 26).toInt.toNat a1).1 7)) 224 ((sa (sa s 221 (s.1 26).toInt.toNat a1) 222 ((sa s 221 (s.1 26).toInt.toNat a1).1 26).toInt.toNat ((sa s 221 (s.1 26).toInt.toNat a1).1 7)).1 26).toInt.toNat (-1)) 225 ((sa (sa (sa s 221 (s.1 26).toInt.toNat a1) 222 ((sa s 221 (s.1 26).toInt.toNat a1).1 26).toInt.toNat ((sa s 221 (s.1 26).toInt.toNat a1).1 7)) 224 ((sa (sa s 221 (s.1 26).toInt.toNat a1) 222 ((sa s 221 (s.1 26).toInt.toNat a1).1 26).toInt.toNat ((sa s 221 (s.1 26).toInt.toNat a1).1 7)).1 26).toInt.toNat (-1)).1 26).toInt.toNat (-1)) 226 ((sa (sa (sa (sa s 221 (s.1 26).toInt.toNat a1) 222 ((sa s 221 (s.1 26).toInt.toNat a1).1 26).toInt.toNat ((sa s 221 (s.1 26).toInt.toNat a1).1 7)) 224 ((sa (sa s 221 (s.1 26).toInt.toNat a1) 222 ((sa s 221 (s.1 26).toInt.toNat a1).1 26).toInt.toNat ((sa s 221 (s.1 26).toInt.toNat a1).1 7)).1 26).toInt.toNat (-1)) 225 ((sa (sa (sa s 221 (s.1 26).toInt.toNat a1) 222 ((sa s 221 (s.1 26).toInt.toNat a1).1 26).toInt.toNat ((sa s 221 (s.1 26).toInt.toNat a1).1 7)) 224 ((sa (sa s 221 (s.1 26).toInt.toNat a1) 222 ((sa s 221 (s.1 26).toInt.toNat a1).1 26).toInt.toNat ((sa s 221 (s.1 26).toInt.toNat a1).1 7)).1 26).toInt.toNat (-1)).1 26).toInt.toNat (-1)).1 26).toInt.toNat 0) 227 ((sa (sa (sa (sa (sa s 221 (s.1 26).toInt.toNat a1) 222 ((sa s 221 (s.1 26).toInt.toNat a1).1 26).toInt.toNat ((sa s 221 (s.1 26).toInt.toNat a1).1 7)) 224 ((sa (sa s 221 (s.1 26).toInt.toNat a1) 222 ((sa s 221 (s.1 26).toInt.toNat a1).1 26).toInt.toNat ((sa s 221 (s.1 26).toInt.toNat a1).1 7)).1 26).toInt.toNat (-1)) 225 ((sa (sa (sa s 221 (s.1 26).toInt.toNat a1) 222 ((sa s 221 (s.1 26).toInt.toNat a1).1 26).toInt.toNat ((sa s 221 (s.1 26).toInt.toNat a1).1 7)) 224 ((sa (sa s 221 (s.1 26).toInt.toNat a1) 222 ((sa s 221 (s.1 26).toInt.toNat a1).1 26).toInt.toNat ((sa s 221 (s.1 26).toInt.toNat a1).1 7)).1 26).toInt.toNat (-1)).1 26).toInt.toNat (-1)) 226 ((sa (sa (sa (sa s 221 (s.1 26).toInt.toNat a1) 222 ((sa s 221 (s.1 26).toInt.toNat a1).1 26).toInt.toNat ((sa s 221 (s.1 26).toInt.toNat a1).1 7)) 224 ((sa (sa s 221 (s.1 26).toInt.toNat a1) 222 ((sa s 221 (s.1 26).toInt.toNat a1).1 26).toInt.toNat ((sa s 221 (s.1 26).toInt.toNat a1).1 7)).1 26).toInt.toNat (-1)) 225 ((sa (sa (sa s 221 (s.1 26).toInt.toNat a1) 222 ((sa s 221 (s.1 26).toInt.toNat a1).1 26).toInt.toNat ((sa s 221 (s.1 26).toInt.toNat a1).1 7)) 224 ((sa (sa s 221 (s.1 26).toInt.toNat a1) 222 ((sa s 221 (s.1 26).toInt.toNat a1).1 26).toInt.toNat ((sa s 221 (s.1 26).toInt.toNat a1).1 7)).1 26).toInt.toNat (-1)).1 26).toInt.toNat (-1)).1 26).toInt.toNat 0).1 26).toInt.toNat (-1)).1 26).toInt.toNat (-1)).1 26).toInt.toNat (-1)) 230 ((sa (sa (sa (sa (sa (sa (sa (sa s 221 (s.1 26).toInt.toNat a1) 222 ((sa s 221 (s.1 26).toInt.toNat a1).1 26).toInt.toNat ((sa s 221 (s.1 26).toInt.toNat a1).1 7)) 224 ((sa (sa s 221 (s.1 26).toInt.toNat a1) 222 ((sa s 221 (s.1 26).toInt.toNat a1).1 26).toInt.toNat ((sa s 221 (s.1 26).toInt.toNat a1).1 7)).1 26).toInt.toNat (-1)) 225 ((sa (sa (sa s 221 (s.1 26).toInt.toNat a1) 222 ((sa s 221 (s.1 26).toInt.toNat a1).1 26).toInt.toNat ((sa s 221 (s.1 26).toInt.toNat a1).1 7)) 224 ((sa (sa s 221 (s.1 26).toInt.toNat a1) 222 ((sa s 221 (s.1 26).toInt.toNat a1).1 26).toInt.toNat ((sa s 221 (s.1 26).toInt.toNat a1).1 7)).1 26).toInt.toNat (-1)).1 26).toInt.toNat (-1)) 226 ((sa (sa (sa (sa s 221 (s.1 26).toInt.toNat a1) 222 ((sa s 221 (s.1 26).toInt.toNat a1).1 26).toInt.toNat ((sa s 221 (s.1 26).toInt.toNat a1).1 7)) 224 ((sa (sa s 221 (s.1 26).toInt.toNat a1) 222 ((sa s 221 (s.1 26).toInt.toNat a1).1 26).toInt.toNat ((sa s 221 (s.1 26).toInt.toNat a1).1 7)).1 26).toInt.toNat (-1)) 225 ((sa (sa (sa s 221 (s.1 26).toInt.toNat a1) 222 ((sa s 221 (s.1 26).toInt.toNat a1).1 26).toInt.toNat ((sa s 221 (s.1 26).toInt.toNat a1).1 7)) 224 ((sa (sa s 221 (s.1 26).toInt.toNat a1) 222 ((sa s 221 (s.1 26).toInt.toNat a1).1 26).toInt.toNat ((sa s 221 (s.1 26).toInt.toNat a1).1 7)).1 26).toInt.toNat (-1)).1 26).toInt.toNat (-1)).1 26).toInt.toNat 0) 227 ((sa (sa (sa (sa (sa s 221 (s.1 26).toInt.toNat a1) 222 ((sa s 221 (s.1 26).toInt.toNat a1).1 26).toInt.toNat ((sa s 221 (s.1 26).toInt.toNat a1).1 7)) 224 ((sa (sa s 221 (s.1 26).toInt.toNat a1) 222 ((sa s 221 (s.1 26).toInt.toNat a1).1 26).toInt.toNat ((sa s 221 (s.1 26).toInt.toNat a1).1 7)).1 26).toInt.toNat (-1)) 225 ((sa (sa (sa s 221 (s.1 26).toInt.toNat a1) 222 ((sa s 221 (s.1 26).toInt.toNat a1).1 26).toInt.toNat ((sa s 221 (s.1 26).toInt.toNat a1).1 7)) 224 ((sa (sa s 221 (s.1 26).toInt.toNat a1) 222 ((sa s 221 (s.1 26).toInt.toNat a1).1 26).toInt.toNat ((sa s 221 (s.1 26).toInt.toNat a1).1 7)).1 26).toInt.toNat (-1)).1 26).toInt.toNat (-1)) 226 ((sa (sa (sa (sa s 221 (s.1 26).toInt.toNat a1) 222 ((sa s 221 (s.1 26).toInt.toNat a1).1 26).toInt.toNat ((sa s 221 (s.1 26).toInt.toNat a1).1 7)) 224 ((sa (sa s 221 (s.1 26).toInt.toNat a1) 222 ((sa s 221 (s.1 26).toInt.toNat a1).1 26).toInt.toNat ((sa s 221 (s.1 26).toInt.toNat a1).1 7)).1 26).toInt.toNat (-1)) 225 ((sa (sa (sa s 221 (s.1 26).toInt.toNat a1) 222 ((sa s 221 (s.1 26).toInt.toNat a1).1 26).toInt.toNat ((sa s 221 (s.1 26).toInt.toNat a1).1 7)) 224 ((sa (sa s 221 (s.1 26).toInt.toNat a1) 222 ((sa s 221 (s.1 26).toInt.toNat a1).1 26).toInt.toNat ((sa s 221 (s.1 26).toInt.toNat a1).1 7)).1 26).toInt.toNat (-1)).1 26).toInt.toNat (-1)).1 26).toInt.toNat 0).1 26).toInt.toNat (-1)) 228 ((sa (sa (sa (sa (sa (sa s 221 (s.1 26).toInt.toNat a1) 222 ((sa s 221 (s.1 26).toInt.toNat a1).1 26).toInt.toNat ((sa s 221 (s.1 26).toInt.toNat a1).1 7)) 224 ((sa (sa s 221 (s.1 26).toInt.toNat a1) 222 ((sa s 221 (s.1 26).toInt.toNat a1).1 26).toInt.toNat ((sa s 221 (s.1 26).toInt.toNat a1).1 7)).1 26).toInt.toNat (-1)) 225 ((sa (sa (sa s 221 (s.1 26).toInt.toNat a1) 222 ((sa s 221 (s.1 26).toInt.toNat a1).1 26).toInt.toNat ((sa s 221 (s.1 26).toInt.toNat a1).1 7)) 224 ((sa (sa s 221 (s.1 26).toInt.toNat a1) 222 ((sa s 221 (s.1 26).toInt.toNat a1).1 26).toInt.toNat ((sa s 221 (s.1 26).toInt.toNat a1).1 7)).1 26).toInt.toNat (-1)).1 26).toInt.toNat (-1)) 226 ((sa (sa (sa (sa s 221 (s.1 26).toInt.toNat a1) 222 ((sa s 221 (s.1 26).toInt.toNat a1).1 26).toInt.toNat ((sa s 221 (s.1 26).toInt.toNat a1).1 7)) 224 ((sa (sa s 221 (s.1 26).toInt.toNat a1) 222 ((sa s 221 (s.1 26).toInt.toNat a1).1 26).toInt.toNat ((sa s 221 (s.1 26).toInt.toNat a1).1 7)).1 26).toInt.toNat (-1)) 225 ((sa (sa (sa s 221 (s.1 26).toInt.toNat a1) 222 ((sa s 221 (s.1 26).toInt.toNat a1).1 26).toInt.toNat ((sa s 221 (s.1 26).toInt.toNat a1).1 7)) 224 ((sa (sa s 221 (s.1 26).toInt.toNat a1) 222 ((sa s 221 (s.1 26).toInt.toNat a1).1 26).toInt.toNat ((sa s 221 (s.1 26).toInt.toNat a1).1 7)).1 26).toInt.toNat (-1)).1 26).toInt.toNat (-1)).1 26).toInt.toNat 0) 227 ((sa (sa (sa (sa (sa s 221 (s.1 26).toInt.toNat a1) 222 ((sa s 221 (s.1 26).toInt.toNat a1).1 26).toInt.toNat ((sa s 221 (s.1 26).toInt.toNat a1).1 7)) 224 ((sa (sa s 221 (s.1 26).toInt.toNat a1) 222 ((sa s 221 (s.1 26).toInt.toNat a1).1 26).toInt.toNat ((sa s 221 (s.1 26).toInt.toNat a1).1 7)).1 26).toInt.toNat (-1)) 225 ((sa (sa (sa s 221 (s.1 26).toInt.toNat a1) 222 ((sa s 221 (s.1 26).toInt.toNat a1).1 26).toInt.toNat ((sa s 221 (s.1 26).toInt.toNat a1).1 7)) 224 ((sa (sa s 221 (s.1 26).toInt.toNat a1) 222 ((sa s 221 (s.1 26).toInt.toNat a1).1 26).toInt.toNat ((sa s 221 (s.1 26).toInt.toNat a1).1 7)).1 26).toInt.toNat (-1)).1 26).toInt.toNat (-1)) 226 ((sa (sa (sa (sa s 221 (s.1 26).toInt.toNat a1) 222 ((sa s 221 (s.1 26).toInt.toNat a1).1 26).toInt.toNat ((sa s 221 (s.1 26).toInt.toNat a1).1 7)) 224 ((sa (sa s 221 (s.1 26).toInt.toNat a1) 222 ((sa s 221 (s.1 26).toInt.toNat a1).1 26).toInt.toNat ((sa s 221 (s.1 26).toInt.toNat a1).1 7)).1 26).toInt.toNat (-1)) 225 ((sa (sa (sa s 221 (s.1 26).toInt.toNat a1) 222 ((sa s 221 (s.1 26).toInt.toNat a1).1 26).toInt.toNat ((sa s 221 (s.1 26).toInt.toNat a1).1 7)) 224 ((sa (sa s 221 (s.1 26).toInt.toNat a1) 222 ((sa s 221 (s.1 26).toInt.toNat a1).1 26).toInt.toNat ((sa s 221 (s.1 26).toInt.toNat a1).1 7)).1 26).toInt.toNat (-1)).1 26).toInt.toNat (-1)).1 26).toInt.toNat 0).1 26).toInt.toNat (-1)).1 26).toInt.toNat (-1)) 229 ((sa (sa (sa (sa (sa (sa (sa s 221 (s.1 26).toInt.toNat a1) 222 ((sa s 221 (s.1 26).toInt.toNat a1).1 26).toInt.toNat ((sa s 221 (s.1 26).toInt.toNat a1).1 7)) 224 ((sa (sa s 221 (s.1 26).toInt.toNat a1) 222 ((sa s 221 (s.1 26).toInt.toNat a1).1 26).toInt.toNat ((sa s 221 (s.1 26).toInt.toNat a1).1 7)).1 26).toInt.toNat (-1)) 225 ((sa (sa (sa s 221 (s.1 26).toInt.toNat a1) 222 ((sa s 221 (s.1 26).toInt.toNat a1).1 26).toInt.toNat ((sa s 221 (s.1 26).toInt.toNat a1).1 7)) 224 ((sa (sa s 221 (s.1 26).toInt.toNat a1) 222 ((sa s 221 (s.1 26).toInt.toNat a1).1 26).toInt.toNat ((sa s 221 (s.1 26).toInt.toNat a1).1 7)).1 26).toInt.toNat (-1)).1 26).toInt.toNat (-1)) 226 ((sa (sa (sa (sa s 221 (s.1 26).toInt.toNat a1) 222 ((sa s 221 (s.1 26).toInt.toNat a1).1 26).toInt.toNat ((sa s 221 (s.1 26).toInt.toNat a1).1 7)) 224 ((sa (sa s 221 (s.1 26).toInt.toNat a1) 222 ((sa s 221 (s.1 26).toInt.toNat a1).1 26).toInt.toNat ((sa s 221 (s.1 26).toInt.toNat a1).1 7)).1 26).toInt.toNat (-1)) 225 ((sa (sa (sa s 221 (s.1 26).toInt.toNat a1) 222 ((sa s 221 (s.1 26).toInt.toNat a1).1 26).toInt.toNat ((sa s 221 (s.1 26).toInt.toNat a1).1 7)) 224 ((sa (sa s 221 (s.1 26).toInt.toNat a1) 222 ((sa s 221 (s.1 26).toInt.toNat a1).1 26).toInt.toNat ((sa s 221 (s.1 26).toInt.toNat a1).1 7)).1 26).toInt.toNat (-1)).1 26).toInt.toNat (-1)).1 26).toInt.toNat 0) 227 ((sa (sa (sa (sa (sa s 221 (s.1 26).toInt.toNat a1) 222 ((sa s 221 (s.1 26).toInt.toNat a1).1 26).toInt.toNat ((sa s 221 (s.1 26).toInt.toNat a1).1 7)) 224 ((sa (sa s 221 (s.1 26).toInt.toNat a1) 222 ((sa s 221 (s.1 26).toInt.toNat a1).1 26).toInt.toNat ((sa s 221 (s.1 26).toInt.toNat a1).1 7)).1 26).toInt.toNat (-1)) 225 ((sa (sa (sa s 221 (s.1 26).toInt.toNat a1) 222 ((sa s 221 (s.1 26).toInt.toNat a1).1 26).toInt.toNat ((sa s 221 (s.1 26).toInt.toNat a1).1 7)) 224 ((sa (sa s 221 (s.1 26).toInt.toNat a1) 222 ((sa s 221 (s.1 26).toInt.toNat a1).1 26).toInt.toNat ((sa s 221 (s.1 26).toInt.toNat a1).1 7)).1 26).toInt.toNat (-1)).1 26).toInt.toNat (-1)) 226 ((sa (sa (sa (sa s 221 (s.1 26).toInt.toNat a1) 222 ((sa s 221 (s.1 26).toInt.toNat a1).1 26).toInt.toNat ((sa s 221 (s.1 26).toInt.toNat a1).1 7)) 224 ((sa (sa s 221 (s.1 26).toInt.toNat a1) 222 ((sa s 221 (s.1 26).toInt.toNat a1).1 26).toInt.toNat ((sa s 221 (s.1 26).toInt.toNat a1).1 7)).1 26).toInt.toNat (-1)) 225 ((sa (sa (sa s 221 (s.1 26).toInt.toNat a1) 222 ((sa s 221 (s.1 26).toInt.toNat a1).1 26).toInt.toNat ((sa s 221 (s.1 26).toInt.toNat a1).1 7)) 224 ((sa (sa s 221 (s.1 26).toInt.toNat a1) 222 ((sa s 221 (s.1 26).toInt.toNat a1).1 26).toInt.toNat ((sa s 221 (s.1 26).toInt.toNat a1).1 7)).1 26).toInt.toNat (-1)).1 26).toInt.toNat (-1)).1 26).toInt.toNat 0).1 26).toInt.toNat (-1)) 228 ((sa (sa (sa (sa (sa (sa s 221 (s.1 26).toInt.toNat a1) 222 ((sa s 221 (s.1 26).toInt.toNat a1).1 26).toInt.toNat ((sa s 221 (s.1 26).toInt.toNat a1).1 7)) 224 ((sa (sa s 221 (s.1 26).toInt.toNat a1) 222 ((sa s 221 (s.1 26).toInt.toNat a1).1 26).toInt.toNat ((sa s 221 (s.1 26).toInt.toNat a1).1 7)).1 26).toInt.toNat (-1)) 225 ((sa (sa (sa s 221 (s.1 26).toInt.toNat a1) 222 ((sa s 221 (s.1 26).toInt.toNat a1).1 26).toInt.toNat ((sa s 221 (s.1 26).toInt.toNat a1).1 7)) 224 ((sa (sa s 221 (s.1 26).toInt.toNat a1) 222 ((sa s 221 (s.1 26).toInt.toNat a1).1 26).toInt.toNat ((sa s 221 (s.1 26).toInt.toNat a1).1 7)).1 26).toInt.toNat (-1)).1 26).toInt.toNat (-1)) 226 ((sa (sa (sa (sa s 221 (s.1 26).toInt.toNat a1) 222 ((sa s 221 (s.1 26).toInt.toNat a1).1 26).toInt.toNat ((sa s 221 (s.1 26).toInt.toNat a1).1 7)) 224 ((sa (sa s 221 (s.1 26).toInt.toNat a1) 222 ((sa s 221 (s.1 26).toInt.toNat a1).1 26).toInt.toNat ((sa s 221 (s.1 26).toInt.toNat a1).1 7)).1 26).toInt.toNat (-1)) 225 ((sa (sa (sa s 221 (s.1 26).toInt.toNat a1) 222 ((sa s 221 (s.1 26).toInt.toNat a1).1 26).toInt.toNat ((sa s 221 (s.1 26).toInt.toNat a1).1 7)) 224 ((sa (sa s 221 (s.1 26).toInt.toNat a1) 222 ((sa s 221 (s.1 26).toInt.toNat a1).1 26).toInt.toNat ((sa s 221 (s.1 26).toInt.toNat a1).1 7)).1 26).toInt.toNat (-1)).1 26).toInt.toNat (-1)).1 26).toInt.toNat 0) 227 ((sa (sa (sa (sa (sa s 221 (s.1 26).toInt.toNat a1) 222 ((sa s 221 (s.1 26).toInt.toNat a1).1 26).toInt.toNat ((sa s 221 (s.1 26).toInt.toNat a1).1 7)) 224 ((sa (sa s 221 (s.1 26).toInt.toNat a1) 222 ((sa s 221 (s.1 26).toInt.toNat a1).1 26).toInt.toNat ((sa s 221 (s.1 26).toInt.toNat a1).1 7)).1 26).toInt.toNat (-1)) 225 ((sa (sa (sa s 221 (s.1 26).toInt.toNat a1) 222 ((sa s 221 (s.1 26).toInt.toNat a1).1 26).toInt.toNat ((sa s 221 (s.1 26).toInt.toNat a1).1 7)) 224 ((sa (sa s 221 (s.1 26).toInt.toNat a1) 222 ((sa s 221 (s.1 26).toInt.toNat a1).1 26).toInt.toNat ((sa s 221 (s.1 26).toInt.toNat a1).1 7)).1 26).toInt.toNat (-1)).1 26).toInt.toNat (-1)) 226 ((sa (sa (sa (sa s 221 (s.1 26).toInt.toNat a1) 222 ((sa s 221 (s.1 26).toInt.toNat a1).1 26).toInt.toNat ((sa s 221 (s.1 26).toInt.toNat a1).1 7)) 224 ((sa (sa s 221 (s.1 26).toInt.toNat a1) 222 ((sa s 221 (s.1 26).toInt.toNat a1).1 26).toInt.toNat ((sa s 221 (s.1 26).toInt.toNat a1).1 7)).1 26).toInt.toNat (-1)) 225 ((sa (sa (sa s 221 (s.1 26).toInt.toNat a1) 222 ((sa s 221 (s.1 26).toInt.toNat a1).1 26).toInt.toNat ((sa s 221 (s.1 26).toInt.toNat a1).1 7)) 224 ((sa (sa s 221 (s.1 26).toInt.toNat a1) 222 ((sa s 221 (s.1 26).toInt.toNat a1).1 26).toInt.toNat ((sa s 221 (s.1 26).toInt.toNat a1).1 7)).1 26).toInt.toNat (-1)).1 26).toInt.toNat (-1)).1 26).toInt.toNat 0).1 26).toInt.toNat (-1)).1 26).toInt.toNat (-1)).1 26).toInt.toNat (-1)).1 26).toInt.toNat 0) 26 (((sa (sa (sa (sa (sa (sa (sa (sa (sa s 221 (s.1 26).toInt.toNat a1) 222 ((sa s 221 (s.1 26).toInt.toNat a1).1 26).toInt.toNat ((sa s 221 (s.1 26).toInt.toNat a1).1 7)) 224 ((sa (sa s 221 (s.1 26).toInt.toNat a1) 222 ((sa s 221 (s.1 26).toInt.toNat a1).1 26).toInt.toNat ((sa s 221 (s.1 26).toInt.toNat a1).1 7)).1 26).toInt.toNat (-1)) 225 ((sa (sa (sa s 221 (s.1 26).toInt.toNat a1) 222 ((sa s 221 (s.1 26).toInt.toNat a1).1 26).toInt.toNat ((sa s 221 (s.1 26).toInt.toNat a1).1 7)) 224 ((sa (sa s 221 (s.1 26).toInt.toNat a1) 222 ((sa s 221 (s.1 26).toInt.toNat a1).1 26).toInt.toNat ((sa s 221 (s.1 26).toInt.toNat a1).1 7)).1 26).toInt.toNat (-1)).1 26).toInt.toNat (-1)) 226 ((sa (sa (sa (sa s 221 (s.1 26).toInt.toNat a1) 222 ((sa s 221 (s.1 26).toInt.toNat a1).1 26).toInt.toNat ((sa s 221 (s.1 26).toInt.toNat a1).1 7)) 224 ((sa (sa s 221 (s.1 26).toInt.toNat a1) 222 ((sa s 221 (s.1 26).toInt.toNat a1).1 26).toInt.toNat ((sa s 221 (s.1 26).toInt.toNat a1).1 7)).1 26).toInt.toNat (-1)) 225 ((sa (sa (sa s 221 (s.1 26).toInt.toNat a1) 222 ((sa s 221 (s.1 26).toInt.toNat a1).1 26).toInt.toNat ((sa s 221 (s.1 26).toInt.toNat a1).1 7)) 224 ((sa (sa s 221 (s.1 26).toInt.toNat a1) 222 ((sa s 221 (s.1 26).toInt.toNat a1).1 26).toInt.toNat ((sa s 221 (s.1 26).toInt.toNat a1).1 7)).1 26).toInt.toNat (-1)).1 26).toInt.toNat (-1)).1 26).toInt.toNat 0) 227 ((sa (sa (sa (sa (sa s 221 (s.1 26).toInt.toNat a1) 222 ((sa s 221 (s.1 26).toInt.toNat a1).1 26).toInt.toNat ((sa s 221 (s.1 26).toInt.toNat a1).1 7)) 224 ((sa (sa s 221 (s.1 26).toInt.toNat a1) 222 ((sa s 221 (s.1 26).toInt.toNat a1).1 26).toInt.toNat ((sa s 221 (s.1 26).toInt.toNat a1).1 7)).1 26).toInt.toNat (-1)) 225 ((sa (sa (sa s 221 (s.1 26).toInt.toNat a1) 222 ((sa s 221 (s.1 26).toInt.toNat a1).1 26).toInt.toNat ((sa s 221 (s.1 26).toInt.toNat a1).1 7)) 224 ((sa (sa s 221 (s.1 26).toInt.toNat a1) 222 ((sa s 221 (s.1 26).toInt.toNat a1).1 26).toInt.toNat ((sa s 221 (s.1 26).toInt.toNat a1).1 7)).1 26).toInt.toNat (-1)).1 26).toInt.toNat (-1)) 226 ((sa (sa (sa (sa s 221 (s.1 26).toInt.toNat a1) 222 ((sa s 221 (s.1 26).toInt.toNat a1).1 26).toInt.toNat ((sa s 221 (s.1 26).toInt.toNat a1).1 7)) 224 ((sa (sa s 221 (s.1 26).toInt.toNat a1) 222 ((sa s 221 (s.1 26).toInt.toNat a1).1 26).toInt.toNat ((sa s 221 (s.1 26).toInt.toNat a1).1 7)).1 26).toInt.toNat (-1)) 225 ((sa (sa (sa s 221 (s.1 26).toInt.toNat a1) 222 ((sa s 221 (s.1 26).toInt.toNat a1).1 26).toInt.toNat ((sa s 221 (s.1 26).toInt.toNat a1).1 7)) 224 ((sa (sa s 221 (s.1 26).toInt.toNat a1) 222 ((sa s 221 (s.1 26).toInt.toNat a1).1 26).toInt.toNat ((sa s 221 (s.1 26).toInt.toNat a1).1 7)).1 26).toInt.toNat (-1)).1 26).toInt.toNat (-1)).1 26).toInt.toNat 0).1 26).toInt.toNat (-1)) 228 ((sa (sa (sa (sa (sa (sa s 221 (s.1 26).toInt.toNat a1) 222 ((sa s 221 (s.1 26).toInt.toNat a1).1 26).toInt.toNat ((sa s 221 (s.1 26).toInt.toNat a1).1 7)) 224 ((sa (sa s 221 (s.1 26).toInt.toNat a1) 222 ((sa s 221 (s.1 26).toInt.toNat a1).1 26).toInt.toNat ((sa s 221 (s.1 26).toInt.toNat a1).1 7)).1 26).toInt.toNat (-1)) 225 ((sa (sa (sa s 221 (s.1 26).toInt.toNat a1) 222 ((sa s 221 (s.1 26).toInt.toNat a1).1 26).toInt.toNat ((sa s 221 (s.1 26).toInt.toNat a1).1 7)) 224 ((sa (sa s 221 (s.1 26).toInt.toNat a1) 222 ((sa s 221 (s.1 26).toInt.toNat a1).1 26).toInt.toNat ((sa s 221 (s.1 26).toInt.toNat a1).1 7)).1 26).toInt.toNat (-1)).1 26).toInt.toNat (-1)) 226 ((sa (sa (sa (sa s 221 (s.1 26).toInt.toNat a1) 222 ((sa s 221 (s.1 26).toInt.toNat a1).1 26).toInt.toNat ((sa s 221 (s.1 26).toInt.toNat a1).1 7)) 224 ((sa (sa s 221 (s.1 26).toInt.toNat a1) 222 ((sa s 221 (s.1 26).toInt.toNat a1).1 26).toInt.toNat ((sa s 221 (s.1 26).toInt.toNat a1).1 7)).1 26).toInt.toNat (-1)) 225 ((sa (sa (sa s 221 (s.1 26).toInt.toNat a1) 222 ((sa s 221 (s.1 26).toInt.toNat a1).1 26).toInt.toNat ((sa s 221 (s.1 26).toInt.toNat a1).1 7)) 224 ((sa (sa s 221 (s.1 26).toInt.toNat a1) 222 ((sa s 221 (s.1 26).toInt.toNat a1).1 26).toInt.toNat ((sa s 221 (s.1 26).toInt.toNat a1).1 7)).1 26).toInt.toNat (-1)).1 26).toInt.toNat (-1)).1 26).toInt.toNat 0) 227 ((sa (sa (sa (sa (sa s 221 (s.1 26).toInt.toNat a1) 222 ((sa s 221 (s.1 26).toInt.toNat a1).1 26).toInt.toNat ((sa s 221 (s.1 26).toInt.toNat a1).1 7)) 224 ((sa (sa s 221 (s.1 26).toInt.toNat a1) 222 ((sa s 221 (s.1 26).toInt.toNat a1).1 26).toInt.toNat ((sa s 221 (s.1 26).toInt.toNat a1).1 7)).1 26).toInt.toNat (-1)) 225 ((sa (sa (sa s 221 (s.1 26).toInt.toNat a1) 222 ((sa s 221 (s.1 26).toInt.toNat a1).1 26).toInt.toNat ((sa s 221 (s.1 26).toInt.toNat a1).1 7)) 224 ((sa (sa s 221 (s.1 26).toInt.toNat a1) 222 ((sa s 221 (s.1 26).toInt.toNat a1).1 26).toInt.toNat ((sa s 221 (s.1 26).toInt.toNat a1).1 7)).1 26).toInt.toNat (-1)).1 26).toInt.toNat (-1)) 226 ((sa (sa (sa (sa s 221 (s.1 26).toInt.toNat a1) 222 ((sa s 221 (s.1 26).toInt.toNat a1).1 26).toInt.toNat ((sa s 221 (s.1 26).toInt.toNat a1).1 7)) 224 ((sa (sa s 221 (s.1 26).toInt.toNat a1) 222 ((sa s 221 (s.1 26).toInt.toNat a1).1 26).toInt.toNat ((sa s 221 (s.1 26).toInt.toNat a1).1 7)).1 26).toInt.toNat (-1)) 225 ((sa (sa (sa s 221 (s.1 26).toInt.toNat a1) 222 ((sa s 221 (s.1 26).toInt.toNat a1).1 26).toInt.toNat ((sa s 221 (s.1 26).toInt.toNat a1).1 7)) 224 ((sa (sa s 221 (s.1 26).toInt.toNat a1) 222 ((sa s 221 (s.1 26).toInt.toNat a1).1 26).toInt.toNat ((sa s 221 (s.1 26).toInt.toNat a1).1 7)).1 26).toInt.toNat (-1)).1 26).toInt.toNat (-1)).1 26).toInt.toNat 0).1 26).toInt.toNat (-1)).1 26).toInt.toNat (-1)) 229 ((sa (sa (sa (sa (sa (sa (sa s 221 (s.1 26).toInt.toNat a1) 222 ((sa s 221 (s.1 26).toInt.toNat a1).1 26).toInt.toNat ((sa s 221 (s.1 26).toInt.toNat a1).1 7)) 224 ((sa (sa s 221 (s.1 26).toInt.toNat a1) 222 ((sa s 221 (s.1 26).toInt.toNat a1).1 26).toInt.toNat ((sa s 221 (s.1 26).toInt.toNat a1).1 7)).1 26).toInt.toNat (-1)) 225 ((sa (sa (sa s 221 (s.1 26).toInt.toNat a1) 222 ((sa s 221 (s.1 26).toInt.toNat a1).1 26).toInt.toNat ((sa s 221 (s.1 26).toInt.toNat a1).1 7)) 224 ((sa (sa s 221 (s.1 26).toInt.toNat a1) 222 ((sa s 221 (s.1 26).toInt.toNat a1).1 26).toInt.toNat ((sa s 221 (s.1 26).toInt.toNat a1).1 7)).1 26).toInt.toNat (-1)).1 26).toInt.toNat (-1)) 226 ((sa (sa (sa (sa s 221 (s.1 26).toInt.toNat a1) 222 ((sa s 221 (s.1 26).toInt.toNat a1).1 26).toInt.toNat ((sa s 221 (s.1 26).toInt.toNat a1).1 7)) 224 ((sa (sa s 221 (s.1 26).toInt.toNat a1) 222 ((sa s 221 (s.1 26).toInt.toNat a1).1 26).toInt.toNat ((sa s 221 (s.1 26).toInt.toNat a1).1 7)).1 26).toInt.toNat (-1)) 225 ((sa (sa (sa s 221 (s.1 26).toInt.toNat a1) 222 ((sa s 221 (s.1 26).toInt.toNat a1).1 26).toInt.toNat ((sa s 221 (s.1 26).toInt.toNat a1).1 7)) 224 ((sa (sa s 221 (s.1 26).toInt.toNat a1) 222 ((sa s 221 (s.1 26).toInt.toNat a1).1 26).toInt.toNat ((sa s 221 (s.1 26).toInt.toNat a1).1 7)).1 26).toInt.toNat (-1)).1 26).toInt.toNat (-1)).1 26).toInt.toNat 0) 227 ((sa (sa (sa (sa (sa s 221 (s.1 26).toInt.toNat a1) 222 ((sa s 221 (s.1 26).toInt.toNat a1).1 26).toInt.toNat ((sa s 221 (s.1 26).toInt.toNat a1).1 7)) 224 ((sa (sa s 221 (s.1 26).toInt.toNat a1) 222 ((sa s 221 (s.1 26).toInt.toNat a1).1 26).toInt.toNat ((sa s 221 (s.1 26).toInt.toNat a1).1 7)).1 26).toInt.toNat (-1)) 225 ((sa (sa (sa s 221 (s.1 26).toInt.toNat a1) 222 ((sa s 221 (s.1 26).toInt.toNat a1).1 26).toInt.toNat ((sa s 221 (s.1 26).toInt.toNat a1).1 7)) 224 ((sa (sa s 221 (s.1 26).toInt.toNat a1) 222 ((sa s 221 (s.1 26).toInt.toNat a1).1 26).toInt.toNat ((sa s 221 (s.1 26).toInt.toNat a1).1 7)).1 26).toInt.toNat (-1)).1 26).toInt.toNat (-1)) 226 ((sa (sa (sa (sa s 221 (s.1 26).toInt.toNat a1) 222 ((sa s 221 (s.1 26).toInt.toNat a1).1 26).toInt.toNat ((sa s 221 (s.1 26).toInt.toNat a1).1 7)) 224 ((sa (sa s 221 (s.1 26).toInt.toNat a1) 222 ((sa s 221 (s.1 26).toInt.toNat a1).1 26).toInt.toNat ((sa s 221 (s.1 26).toInt.toNat a1).1 7)).1 26).toInt.toNat (-1)) 225 ((sa (sa (sa s 221 (s.1 26).toInt.toNat a1) 222 ((sa s 221 (s.1 26).toInt.toNat a1).1 26).toInt.toNat ((sa s 221 (s.1 26).toInt.toNat a1).1 7)) 224 ((sa (sa s 221 (s.1 26).toInt.toNat a1) 222 ((sa s 221 (s.1 26).toInt.toNat a1).1 26).toInt.toNat ((sa s 221 (s.1 26).toInt.toNat a1).1 7)).1 26).toInt.toNat (-1)).1 26).toInt.toNat (-1)).1 26).toInt.toNat 0).1 26).toInt.toNat (-1)) 228 ((sa (sa (sa (sa (sa (sa s 221 (s.1 26).toInt.toNat a1) 222 ((sa s 221 (s.1 26).toInt.toNat a1).1 26).toInt.toNat ((sa s 221 (s.1 26).toInt.toNat a1).1 7)) 224 ((sa (sa s 221 (s.1 26).toInt.toNat a1) 222 ((sa s 221 (s.1 26).toInt.toNat a1).1 26).toInt.toNat ((sa s 221 (s.1 26).toInt.toNat a1).1 7)).1 26).toInt.toNat (-1)) 225 ((sa (sa (sa s 221 (s.1 26).toInt.toNat a1) 222 ((sa s 221 (s.1 26).toInt.toNat a1).1 26).toInt.toNat ((sa s 221 (s.1 26).toInt.toNat a1).1 7)) 224 ((sa (sa s 221 (s.1 26).toInt.toNat a1) 222 ((sa s 221 (s.1 26).toInt.toNat a1).1 26).toInt.toNat ((sa s 221 (s.1 26).toInt.toNat a1).1 7)).1 26).toInt.toNat (-1)).1 26).toInt.toNat (-1)) 226 ((sa (sa (sa (sa s 221 (s.1 26).toInt.toNat a1) 222 ((sa s 221 (s.1 26).toInt.toNat a1).1 26).toInt.toNat ((sa s 221 (s.1 26).toInt.toNat a1).1 7)) 224 ((sa (sa s 221 (s.1 26).toInt.toNat a1) 222 ((sa s 221 (s.1 26).toInt.toNat a1).1 26).toInt.toNat ((sa s 221 (s.1 26).toInt.toNat a1).1 7)).1 26).toInt.toNat (-1)) 225 ((sa (sa (sa s 221 (s.1 26).toInt.toNat a1) 222 ((sa s 221 (s.1 26).toInt.toNat a1).1 26).toInt.toNat ((sa s 221 (s.1 26).toInt.toNat a1).1 7)) 224 ((sa (sa s 221 (s.1 26).toInt.toNat a1) 222 ((sa s 221 (s.1 26).toInt.toNat a1).1 26).toInt.toNat ((sa s 221 (s.1 26).toInt.toNat a1).1 7)).1 26).toInt.toNat (-1)).1 26).toInt.toNat (-1)).1 26).toInt.toNat 0) 227 ((sa (sa (sa (sa (sa s 221 (s.1 26).toInt.toNat a1) 222 ((sa s 221 (s.1 26).toInt.toNat a1).1 26).toInt.toNat ((sa s 221 (s.1 26).toInt.toNat a1).1 7)) 224 ((sa (sa s 221 (s.1 26).toInt.toNat a1) 222 ((sa s 221 (s.1 26).toInt.toNat a1).1 26).toInt.toNat ((sa s 221 (s.1 26).toInt.toNat a1).1 7)).1 26).toInt.toNat (-1)) 225 ((sa (sa (sa s 221 (s.1 26).toInt.toNat a1) 222 ((sa s 221 (s.1 26).toInt.toNat a1).1 26).toInt.toNat ((sa s 221 (s.1 26).toInt.toNat a1).1 7)) 224 ((sa (sa s 221 (s.1 26).toInt.toNat a1) 222 ((sa s 221 (s.1 26).toInt.toNat a1).1 26).toInt.toNat ((sa s 221 (s.1 26).toInt.toNat a1).1 7)).1 26).toInt.toNat (-1)).1 26).toInt.toNat (-1)) 226 ((sa (sa (sa (sa s 221 (s.1 26).toInt.toNat a1) 222 ((sa s 221 (s.1 26).toInt.toNat a1).1 26).toInt.toNat ((sa s 221 (s.1 26).toInt.toNat a1).1 7)) 224 ((sa (sa s 221 (s.1 26).toInt.toNat a1) 222 ((sa s 221 (s.1 26).toInt.toNat a1).1 26).toInt.toNat ((sa s 221 (s.1 26).toInt.toNat a1).1 7)).1 26).toInt.toNat (-1)) 225 ((sa (sa (sa s 221 (s.1 26).toInt.toNat a1) 222 ((sa s 221 (s.1 26).toInt.toNat a1).1 26).toInt.toNat ((sa s 221 (s.1 26).toInt.toNat a1).1 7)) 224 ((sa (sa s 221 (s.1 26).toInt.toNat a1) 222 ((sa s 221 (s.1 26).toInt.toNat a1).1 26).toInt.toNat ((sa s 221 (s.1 26).toInt.toNat a1).1 7)).1 26).toInt.toNat (-1)).1 26).toInt.toNat (-1)).1 26).toInt.toNat 0).1 26).toInt.toNat (-1)).1 26).toInt.toNat (-1)).1 26).toInt.toNat (-1)) 230 ((sa (sa (sa (sa (sa (sa (sa (sa s 221 (s.1 26).toInt.toNat a1) 222 ((sa s 221 (s.1 26).toInt.toNat a1).1 26).toInt.toNat ((sa s 221 (s.1 26).toInt.toNat a1).1 7)) 224 ((sa (sa s 221 (s.1 26).toInt.toNat a1) 222 ((sa s 221 (s.1 26).toInt.toNat a1).1 26).toInt.toNat ((sa s 221 (s.1 26).toInt.toNat a1).1 7)).1 26).toInt.toNat (-1)) 225 ((sa (sa (sa s 221 (s.1 26).toInt.toNat a1) 222 ((sa s 221 (s.1 26).toInt.toNat a1).1 26).toInt.toNat ((sa s 221 (s.1 26).toInt.toNat a1).1 7)) 224 ((sa (sa s 221 (s.1 26).toInt.toNat a1) 222 ((sa s 221 (s.1 26).toInt.toNat a1).1 26).toInt.toNat ((sa s 221 (s.1 26).toInt.toNat a1).1 7)).1 26).toInt.toNat (-1)).1 26).toInt.toNat (-1)) 226 ((sa (sa (sa (sa s 221 (s.1 26).toInt.toNat a1) 222 ((sa s 221 (s.1 26).toInt.toNat a1).1 26).toInt.toNat ((sa s 221 (s.1 26).toInt.toNat a1).1 7)) 224 ((sa (sa s 221 (s.1 26).toInt.toNat a1) 222 ((sa s 221 (s.1 26).toInt.toNat a1).1 26).toInt.toNat ((sa s 221 (s.1 26).toInt.toNat a1).1 7)).1 26).toInt.toNat (-1)) 225 ((sa (sa (sa s 221 (s.1 26).toInt.toNat a1) 222 ((sa s 221 (s.1 26).toInt.toNat a1).1 26).toInt.toNat ((sa s 221 (s.1 26).toInt.toNat a1).1 7)) 224 ((sa (sa s 221 (s.1 26).toInt.toNat a1) 222 ((sa s 221 (s.1 26).toInt.toNat a1).1 26).toInt.toNat ((sa s 221 (s.1 26).toInt.toNat a1).1 7)).1 26).toInt.toNat (-1)).1 26).toInt.toNat (-1)).1 26).toInt.toNat 0) 227 ((sa (sa (sa (sa (sa s 221 (s.1 26).toInt.toNat a1) 222 ((sa s 221 (s.1 26).toInt.toNat a1).1 26).toInt.toNat ((sa s 221 (s.1 26).toInt.toNat a1).1 7)) 224 ((sa (sa s 221 (s.1 26).toInt.toNat a1) 222 ((sa s 221 (s.1 26).toInt.toNat a1).1 26).toInt.toNat ((sa s 221 (s.1 26).toInt.toNat a1).1 7)).1 26).toInt.toNat (-1)) 225 ((sa (sa (sa s 221 (s.1 26).toInt.toNat a1) 222 ((sa s 221 (s.1 26).toInt.toNat a1).1 26).toInt.toNat ((sa s 221 (s.1 26).toInt.toNat a1).1 7)) 224 ((sa (sa s 221 (s.1 26).toInt.toNat a1) 222 ((sa s 221 (s.1 26).toInt.toNat a1).1 26).toInt.toNat ((sa s 221 (s.1 26).toInt.toNat a1).1 7)).1 26).toInt.toNat (-1)).1 26).toInt.toNat (-1)) 226 ((sa (sa (sa (sa s 221 (s.1 26).toInt.toNat a1) 222 ((sa s 221 (s.1 26).toInt.toNat a1).1 26).toInt.toNat ((sa s 221 (s.1 26).toInt.toNat a1).1 7)) 224 ((sa (sa s 221 (s.1 26).toInt.toNat a1) 222 ((sa s 221 (s.1 26).toInt.toNat a1).1 26).toInt.toNat ((sa s 221 (s.1 26).toInt.toNat a1).1 7)).1 26).toInt.toNat (-1)) 225 ((sa (sa (sa s 221 (s.1 26).toInt.toNat a1) 222 ((sa s 221 (s.1 26).toInt.toNat a1).1 26).toInt.toNat ((sa s 221 (s.1 26).toInt.toNat a1).1 7)) 224 ((sa (sa s 221 (s.1 26).toInt.toNat a1) 222 ((sa s 221 (s.1 26).toInt.toNat a1).1 26).toInt.toNat ((sa s 221 (s.1 26).toInt.toNat a1).1 7)).1 26).toInt.toNat (-1)).1 26).toInt.toNat (-1)).1 26).toInt.toNat 0).1 26).toInt.toNat (-1)) 228 ((sa (sa (sa (sa (sa (sa s 221 (s.1 26).toInt.toNat a1) 222 ((sa s 221 (s.1 26).toInt.toNat a1).1 26).toInt.toNat ((sa s 221 (s.1 26).toInt.toNat a1).1 7)) 224 ((sa (sa s 221 (s.1 26).toInt.toNat a1) 222 ((sa s 221 (s.1 26).toInt.toNat a1).1 26).toInt.toNat ((sa s 221 (s.1 26).toInt.toNat a1).1 7)).1 26).toInt.toNat (-1)) 225 ((sa (sa (sa s 221 (s.1 26).toInt.toNat a1) 222 ((sa s 221 (s.1 26).toInt.toNat a1).1 26).toInt.toNat ((sa s 221 (s.1 26).toInt.toNat a1).1 7)) 224 ((sa (sa s 221 (s.1 26).toInt.toNat a1) 222 ((sa s 221 (s.1 26).toInt.toNat a1).1 26).toInt.toNat ((sa s 221 (s.1 26).toInt.toNat a1).1 7)).1 26).toInt.toNat (-1)).1 26).toInt.toNat (-1)) 226 ((sa (sa (sa (sa s 221 (s.1 26).toInt.toNat a1) 222 ((sa s 221 (s.1 26).toInt.toNat a1).1 26).toInt.toNat ((sa s 221 (s.1 26).toInt.toNat a1).1 7)) 224 ((sa (sa s 221 (s.1 26).toInt.toNat a1) 222 ((sa s 221 (s.1 26).toInt.toNat a1).1 26).toInt.toNat ((sa s 221 (s.1 26).toInt.toNat a1).1 7)).1 26).toInt.toNat (-1)) 225 ((sa (sa (sa s 221 (s.1 26).toInt.toNat a1) 222 ((sa s 221 (s.1 26).toInt.toNat a1).1 26).toInt.toNat ((sa s 221 (s.1 26).toInt.toNat a1).1 7)) 224 ((sa (sa s 221 (s.1 26).toInt.toNat a1) 222 ((sa s 221 (s.1 26).toInt.toNat a1).1 26).toInt.toNat ((sa s 221 (s.1 26).toInt.toNat a1).1 7)).1 26).toInt.toNat (-1)).1 26).toInt.toNat (-1)).1 26).toInt.toNat 0) 227 ((sa (sa (sa (sa (sa s 221 (s.1 26).toInt.toNat a1) 222 ((sa s 221 (s.1 26).toInt.toNat a1).1 26).toInt.toNat ((sa s 221 (s.1 26).toInt.toNat a1).1 7)) 224 ((sa (sa s 221 (s.1 26).toInt.toNat a1) 222 ((sa s 221 (s.1 26).toInt.toNat a1).1 26).toInt.toNat ((sa s 221 (s.1 26).toInt.toNat a1).1 7)).1 26).toInt.toNat (-1)) 225 ((sa (sa (sa s 221 (s.1 26).toInt.toNat a1) 222 ((sa s 221 (s.1 26).toInt.toNat a1).1 26).toInt.toNat ((sa s 221 (s.1 26).toInt.toNat a1).1 7)) 224 ((sa (sa s 221 (s.1 26).toInt.toNat a1) 222 ((sa s 221 (s.1 26).toInt.toNat a1).1 26).toInt.toNat ((sa s 221 (s.1 26).toInt.toNat a1).1 7)).1 26).toInt.toNat (-1)).1 26).toInt.toNat (-1)) 226 ((sa (sa (sa (sa s 221 (s.1 26).toInt.toNat a1) 222 ((sa s 221 (s.1 26).toInt.toNat a1).1 26).toInt.toNat ((sa s 221 (s.1 26).toInt.toNat a1).1 7)) 224 ((sa (sa s 221 (s.1 26).toInt.toNat a1) 222 ((sa s 221 (s.1 26).toInt.toNat a1).1 26).toInt.toNat ((sa s 221 (s.1 26).toInt.toNat a1).1 7)).1 26).toInt.toNat (-1)) 225 ((sa (sa (sa s 221 (s.1 26).toInt.toNat a1) 222 ((sa s 221 (s.1 26).toInt.toNat a1).1 26).toInt.toNat ((sa s 221 (s.1 26).toInt.toNat a1).1 7)) 224 ((sa (sa s 221 (s.1 26).toInt.toNat a1) 222 ((sa s 221 (s.1 26).toInt.toNat a1).1 26).toInt.toNat ((sa s 221 (s.1 26).toInt.toNat a1).1 7)).1 26).toInt.toNat (-1)).1 26).toInt.toNat (-1)).1 26).toInt.toNat 0).1 26).toInt.toNat (-1)).1 26).toInt.toNat (-1)) 229 ((sa (sa (sa (sa (sa (sa (sa s 221 (s.1 26).toInt.toNat a1) 222 ((sa s 221 (s.1 26).toInt.toNat a1).1 26).toInt.toNat ((sa s 221 (s.1 26).toInt.toNat a1).1 7)) 224 ((sa (sa s 221 (s.1 26).toInt.toNat a1) 222 ((sa s 221 (s.1 26).toInt.toNat a1).1 26).toInt.toNat ((sa s 221 (s.1 26).toInt.toNat a1).1 7)).1 26).toInt.toNat (-1)) 225 ((sa (sa (sa s 221 (s.1 26).toInt.toNat a1) 222 ((sa s 221 (s.1 26).toInt.toNat a1).1 26).toInt.toNat ((sa s 221 (s.1 26).toInt.toNat a1).1 7)) 224 ((sa (sa s 221 (s.1 26).toInt.toNat a1) 222 ((sa s 221 (s.1 26).toInt.toNat a1).1 26).toInt.toNat ((sa s 221 (s.1 26).toInt.toNat a1).1 7)).1 26).toInt.toNat (-1)).1 26).toInt.toNat (-1)) 226 ((sa (sa (sa (sa s 221 (s.1 26).toInt.toNat a1) 222 ((sa s 221 (s.1 26).toInt.toNat a1).1 26).toInt.toNat ((sa s 221 (s.1 26).toInt.toNat a1).1 7)) 224 ((sa (sa s 221 (s.1 26).toInt.toNat a1) 222 ((sa s 221 (s.1 26).toInt.toNat a1).1 26).toInt.toNat ((sa s 221 (s.1 26).toInt.toNat a1).1 7)).1 26).toInt.toNat (-1)) 225 ((sa (sa (sa s 221 (s.1 26).toInt.toNat a1) 222 ((sa s 221 (s.1 26).toInt.toNat a1).1 26).toInt.toNat ((sa s 221 (s.1 26).toInt.toNat a1).1 7)) 224 ((sa (sa s 221 (s.1 26).toInt.toNat a1) 222 ((sa s 221 (s.1 26).toInt.toNat a1).1 26).toInt.toNat ((sa s 221 (s.1 26).toInt.toNat a1).1 7)).1 26).toInt.toNat (-1)).1 26).toInt.toNat (-1)).1 26).toInt.toNat 0) 227 ((sa (sa (sa (sa (sa s 221 (s.1 26).toInt.toNat a1) 222 ((sa s 221 (s.1 26).toInt.toNat a1).1 26).toInt.toNat ((sa s 221 (s.1 26).toInt.toNat a1).1 7)) 224 ((sa (sa s 221 (s.1 26).toInt.toNat a1) 222 ((sa s 221 (s.1 26).toInt.toNat a1).1 26).toInt.toNat ((sa s 221 (s.1 26).toInt.toNat a1).1 7)).1 26).toInt.toNat (-1)) 225 ((sa (sa (sa s 221 (s.1 26).toInt.toNat a1) 222 ((sa s 221 (s.1 26).toInt.toNat a1).1 26).toInt.toNat ((sa s 221 (s.1 26).toInt.toNat a1).1 7)) 224 ((sa (sa s 221 (s.1 26).toInt.toNat a1) 222 ((sa s 221 (s.1 26).toInt.toNat a1).1 26).toInt.toNat ((sa s 221 (s.1 26).toInt.toNat a1).1 7)).1 26).toInt.toNat (-1)).1 26).toInt.toNat (-1)) 226 ((sa (sa (sa (sa s 221 (s.1 26).toInt.toNat a1) 222 ((sa s 221 (s.1 26).toInt.toNat a1).1 26).toInt.toNat ((sa s 221 (s.1 26).toInt.toNat a1).1 7)) 224 ((sa (sa s 221 (s.1 26).toInt.toNat a1) 222 ((sa s 221 (s.1 26).toInt.toNat a1).1 26).toInt.toNat ((sa s 221 (s.1 26).toInt.toNat a1).1 7)).1 26).toInt.toNat (-1)) 225 ((sa (sa (sa s 221 (s.1 26).toInt.toNat a1) 222 ((sa s 221 (s.1 26).toInt.toNat a1).1 26).toInt.toNat ((sa s 221 (s.1 26).toInt.toNat a1).1 7)) 224 ((sa (sa s 221 (s.1 26).toInt.toNat a1) 222 ((sa s 221 (s.1 26).toInt.toNat a1).1 26).toInt.toNat ((sa s 221 (s.1 26).toInt.toNat a1).1 7)).1 26).toInt.toNat (-1)).1 26).toInt.toNat (-1)).1 26).toInt.toNat 0).1 26).toInt.toNat (-1)) 228 ((sa (sa (sa (sa (sa (sa s 221 (s.1 26).toInt.toNat a1) 222 ((sa s 221 (s.1 26).toInt.toNat a1).1 26).toInt.toNat ((sa s 221 (s.1 26).toInt.toNat a1).1 7)) 224 ((sa (sa s 221 (s.1 26).toInt.toNat a1) 222 ((sa s 221 (s.1 26).toInt.toNat a1).1 26).toInt.toNat ((sa s 221 (s.1 26).toInt.toNat a1).1 7)).1 26).toInt.toNat (-1)) 225 ((sa (sa (sa s 221 (s.1 26).toInt.toNat a1) 222 ((sa s 221 (s.1 26).toInt.toNat a1).1 26).toInt.toNat ((sa s 221 (s.1 26).toInt.toNat a1).1 7)) 224 ((sa (sa s 221 (s.1 26).toInt.toNat a1) 222 ((sa s 221 (s.1 26).toInt.toNat a1).1 26).toInt.toNat ((sa s 221 (s.1 26).toInt.toNat a1).1 7)).1 26).toInt.toNat (-1)).1 26).toInt.toNat (-1)) 226 ((sa (sa (sa (sa s 221 (s.1 26).toInt.toNat a1) 222 ((sa s 221 (s.1 26).toInt.toNat a1).1 26).toInt.toNat ((sa s 221 (s.1 26).toInt.toNat a1).1 7)) 224 ((sa (sa s 221 (s.1 26).toInt.toNat a1) 222 ((sa s 221 (s.1 26).toInt.toNat a1).1 26).toInt.toNat ((sa s 221 (s.1 26).toInt.toNat a1).1 7)).1 26).toInt.toNat (-1)) 225 ((sa (sa (sa s 221 (s.1 26).toInt.toNat a1) 222 ((sa s 221 (s.1 26).toInt.toNat a1).1 26).toInt.toNat ((sa s 221 (s.1 26).toInt.toNat a1).1 7)) 224 ((sa (sa s 221 (s.1 26).toInt.toNat a1) 222 ((sa s 221 (s.1 26).toInt.toNat a1).1 26).toInt.toNat ((sa s 221 (s.1 26).toInt.toNat a1).1 7)).1 26).toInt.toNat (-1)).1 26).toInt.toNat (-1)).1 26).toInt.toNat 0) 227 ((sa (sa (sa (sa (sa s 221 (s.1 26).toInt.toNat a1) 222 ((sa s 221 (s.1 26).toInt.toNat a1).1 26).toInt.toNat ((sa s 221 (s.1 26).toInt.toNat a1).1 7)) 224 ((sa (sa s 221 (s.1 26).toInt.toNat a1) 222 ((sa s 221 (s.1 26).toInt.toNat a1).1 26).toInt.toNat ((sa s 221 (s.1 26).toInt.toNat a1).1 7)).1 26).toInt.toNat (-1)) 225 ((sa (sa (sa s 221 (s.1 26).toInt.toNat a1) 222 ((sa s 221 (s.1 26).toInt.toNat a1).1 26).toInt.toNat ((sa s 221 (s.1 26).toInt.toNat a1).1 7)) 224 ((sa (sa s 221 (s.1 26).toInt.toNat a1) 222 ((sa s 221 (s.1 26).toInt.toNat a1).1 26).toInt.toNat ((sa s 221 (s.1 26).toInt.toNat a1).1 7)).1 26).toInt.toNat (-1)).1 26).toInt.toNat (-1)) 226 ((sa (sa (sa (sa s 221 (s.1 26).toInt.toNat a1) 222 ((sa s 221 (s.1 26).toInt.toNat a1).1 26).toInt.toNat ((sa s 221 (s.1 26).toInt.toNat a1).1 7)) 224 ((sa (sa s 221 (s.1 26).toInt.toNat a1) 222 ((sa s 221 (s.1 26).toInt.toNat a1).1 26).toInt.toNat ((sa s 221 (s.1 26).toInt.toNat a1).1 7)).1 26).toInt.toNat (-1)) 225 ((sa (sa (sa s 221 (s.1 26).toInt.toNat a1) 222 ((sa s 221 (s.1 26).toInt.toNat a1).1 26).toInt.toNat ((sa s 221 (s.1 26).toInt.toNat a1).1 7)) 224 ((sa (sa s 221 (s.1 26).toInt.toNat a1) 222 ((sa s 221 (s.1 26).toInt.toNat a1).1 26).toInt.toNat ((sa s 221 (s.1 26).toInt.toNat a1).1 7)).1 26).toInt.toNat (-1)).1 26).toInt.toNat (-1)).1 26).toInt.toNat 0).1 26).toInt.toNat (-1)).1 26).toInt.toNat (-1)).1 26).toInt.toNat (-1)).1 26).toInt.toNat 0).1 26) + 1)).1 26) - 1)] xo_isub rfl rfl ?_
  exact g_retI rfl h
theorem t_171 {d : Nat} {a1 : Int32} {s : yS} {P : Option Value → yS → Prop} (h : w_171_0 (Tot d) a1 s P) : Tot (d + 1) 171 [.ref 213, .int a1] s P := tot_of (E := xE_171) (ml := 2) (ret := some .int) rfl rfl rfl (k_171_0 h)
/-! within -/
def w_172_17 (T : Nat → List Value → yS → (Option Value → yS → Prop) → Prop)  (a1 : Int32) (s : yS) (P : Option Value → yS → Prop) : Prop :=
  (-2147483648 ≤ (s.1 27).toInt + 1 ∧ (s.1 27).toInt + 1 ≤ 2147483647) ∧ (∀ x1 : Int32, x1.toInt = (s.1 27).toInt + 1 → ∀ s2, s2 = sf s 27 x1 → P none s2)
set_option maxRecDepth 20000 in
theorem k_172_17 {d : Nat}  {a1 : Int32} {s : yS} {P : Option Value → yS → Prop}  (h : w_172_17 (Tot d)  a1 s P) : Go d 2 (none) xE_172 (xE_172.drop 17) [.ref 213, .int a1, .null, .null] [] s P := by
  unfold w_172_17 at h
  refine g_ld rfl rfl rfl ?_
  refine g_c [.ref 213, .ref 213] xo_dup rfl rfl ?_
  refine g_get rfl rfl ?_
  change Go _ _ _ _ _ _ [.int (s.1 27), .ref 213] _ _
  refine g_c [.int 1, .int (s.1 27), .ref 213] (xo_push (.int 1)) rfl rfl ?_
  have ex1 := i_add (x := s.1 27) (y := 1) rfl (show (1 : Int32).toInt = 1 by decide) h.1
  replace h := h.2 _ ex1
  refine g_c [.int ((s.1 27) + 1), .ref 213] xo_iadd rfl rfl ?_
  refine g_put rfl rfl rfl ?_
  replace h := h _ rfl
  exact g_ret0 rfl h
def w_172_0 (T : Nat → List Value → yS → (Option Value → yS → Prop) → Prop)  (a1 : Int32) (s : yS) (P : Option Value → yS → Prop) : Prop :=
  (¬ (a1.toInt = 0) → (¬ ((s.1 27).toInt = 10) → w_172_17 T  a1  s P) ∧ ((s.1 27).toInt = 10 → T 163 [.ref 213, .int 5, .int (s.1 7)] s (fun v2 s1 => v2 = none ∧ (w_172_17 T  a1  s1 P)))) ∧ (a1.toInt = 0 → T 163 [.ref 213, .int 1, .int (s.1 7)] s (fun v4 s3 => v4 = none ∧ (w_172_17 T  a1  s3 P)))
set_option maxRecDepth 20000 in
theorem k_172_0 {d : Nat}  {a1 : Int32} {s : yS} {P : Option Value → yS → Prop}  (h : w_172_0 (Tot d)  a1 s P) : Go d 2 (none) xE_172 (xE_172.drop 0) [.ref 213, .int a1, .null, .null] [] s P := by
  unfold w_172_0 at h
  refine g_ld rfl rfl rfl ?_
  refine g_brN rfl rfl ⟨fun hc => ?_, fun hc => ?_⟩
  · replace h := h.1 (fun q => hc ((i_eq (x := a1) (y := 0) rfl (show (0 : Int32).toInt = 0 by decide)).mpr q))
    refine g_ld rfl rfl rfl ?_
    refine g_get rfl rfl ?_
    change Go _ _ _ _ _ _ [.int (s.1 27)] _ _
    refine g_c [.int 10, .int (s.1 27)] (xo_push (.int 10)) rfl rfl ?_
    refine g_brN rfl rfl ⟨fun hc => ?_, fun hc => ?_⟩
    · replace h := h.1 (fun q => hc ((i_eq (x := s.1 27) (y := 10) rfl (show (10 : Int32).toInt = 10 by decide)).mpr q))
      exact k_172_17  h
    · replace h := h.2 ((i_eq (x := s.1 27) (y := 10) rfl (show (10 : Int32).toInt = 10 by decide)).mp hc)
      refine g_ld rfl rfl rfl ?_
      refine g_c [.int 5, .ref 213] (xo_push (.int 5)) rfl rfl ?_
      refine g_ld rfl rfl rfl ?_
      refine g_get rfl rfl ?_
      change Go _ _ _ _ _ _ [.int (s.1 7), .int 5, .ref 213] _ _
      refine g_call [.ref 213, .int 5, .int (s.1 7)] [] rfl rfl rfl (Tot.imp h (fun v2 s1 h => ?_))
      obtain ⟨rfl, h⟩ := h
      change Go _ _ _ _ _ _ [] _ _
      exact k_172_17  h
  · replace h := h.2 ((i_eq (x := a1) (y := 0) rfl (show (0 : Int32).toInt = 0 by decide)).mp hc)
    refine g_ld rfl rfl rfl ?_
    refine g_c [.int 1, .ref 213] (xo_push (.int 1)) rfl rfl ?_
    refine g_ld rfl rfl rfl ?_
    refine g_get rfl rfl ?_
    change Go _ _ _ _ _ _ [.int (s.1 7), .int 1, .ref 213] _ _
    refine g_call [.ref 213, .int 1, .int (s.1 7)] [] rfl rfl rfl (Tot.imp h (fun v4 s3 h => ?_))
    obtain ⟨rfl, h⟩ := h
    change Go _ _ _ _ _ _ [] _ _
    refine g_go rfl ?_
    exact k_172_17  h
theorem t_172 {d : Nat} {a1 : Int32} {s : yS} {P : Option Value → yS → Prop} (h : w_172_0 (Tot d) a1 s P) : Tot (d + 1) 172 [.ref 213, .int a1] s P := tot_of (E := xE_172) (ml := 2) (ret := none) rfl rfl rfl (k_172_0 h)
/-! takeType -/
def w_173_30 (T : Nat → List Value → yS → (Option Value → yS → Prop) → Prop)  (a1 : Int32) (s : yS) (P : Option Value → yS → Prop) : Prop :=
  (-2147483648 ≤ (s.1 27).toInt - 1 ∧ (s.1 27).toInt - 1 ≤ 2147483647) ∧ (∀ x1 : Int32, x1.toInt = (s.1 27).toInt - 1 → ∀ s2, s2 = sf s 27 x1 → P (some (.int a1)) s2)
set_option maxRecDepth 20000 in
theorem k_173_30 {d : Nat}  {a1 : Int32} {s : yS} {P : Option Value → yS → Prop}  (h : w_173_30 (Tot d)  a1 s P) : Go d 2 (some .int) xE_173 (xE_173.drop 30) [.ref 213, .int a1, .null] [] s P := by
  unfold w_173_30 at h
  refine g_ld rfl rfl rfl ?_
  refine g_c [.ref 213, .ref 213] xo_dup rfl rfl ?_
  refine g_get rfl rfl ?_
  change Go _ _ _ _ _ _ [.int (s.1 27), .ref 213] _ _
  refine g_c [.int 1, .int (s.1 27), .ref 213] (xo_push (.int 1)) rfl rfl ?_
  have ex1 := i_sub (x := s.1 27) (y := 1) rfl (show (1 : Int32).toInt = 1 by decide) h.1
  replace h := h.2 _ ex1
  refine g_c [.int ((s.1 27) - 1), .ref 213] xo_isub rfl rfl ?_
  refine g_put rfl rfl rfl ?_
  replace h := h _ rfl
  refine g_ld rfl rfl rfl ?_
  exact g_retI rfl h
def w_173_0 (T : Nat → List Value → yS → (Option Value → yS → Prop) → Prop)   (s : yS) (P : Option Value → yS → Prop) : Prop :=
  T 166 [.ref 213] s (fun v2 s1 => ∃ x3, v2 = some (.int x3) ∧ (T 172 [.ref 213, .int x3] s1 (fun v5 s4 => v5 = none ∧ (T 171 [.ref 213, .int 0] s4 (fun v7 s6 => ∃ x8, v7 = some (.int x8) ∧ ((-2147483648 ≤ (s6.1 7).toInt + 1 ∧ (s6.1 7).toInt + 1 ≤ 2147483647) ∧ (∀ x9 : Int32, x9.toInt = (s6.1 7).toInt + 1 → ∀ s10, s10 = sf s6 7 x9 → T 164 [.ref 213, .int 91] s10 (fun v12 s11 => ∃ x13, v12 = some (.int x13) ∧ ((x13.toInt = 0 → w_173_30 T  x8  s11 P) ∧ (¬ (x13.toInt = 0) → T 174 [.ref 213] s11 (fun v15 s14 => ∃ x16, v15 = some (.int x16) ∧ ((0 ≤ x8.toInt ∧ x8.toInt < 12006) ∧ (∀ s17, s17 = sa s14 224 x8.toInt.toNat x16 → (0 ≤ x8.toInt ∧ x8.toInt < 12006) ∧ (∀ s18, s18 = sa s17 226 x8.toInt.toNat (s17.1 28) → w_173_30 T  x8  s18 P))))))))))))))
set_option maxRecDepth 20000 in
theorem k_173_0 {d : Nat}   {s : yS} {P : Option Value → yS → Prop}  (h : w_173_0 (Tot d)   s P) : Go d 2 (some .int) xE_173 (xE_173.drop 0) [.ref 213, .null, .null] [] s P := by
  unfold w_173_0 at h
  refine g_ld rfl rfl rfl ?_
  refine g_ld rfl rfl rfl ?_
  refine g_call [.ref 213] [.ref 213] rfl rfl rfl (Tot.imp h (fun v2 s1 h => ?_))
  obtain ⟨x3, rfl, h⟩ := h
  change Go _ _ _ _ _ _ [.int x3, .ref 213] _ _
  refine g_call [.ref 213, .int x3] [] rfl rfl rfl (Tot.imp h (fun v5 s4 h => ?_))
  obtain ⟨rfl, h⟩ := h
  change Go _ _ _ _ _ _ [] _ _
  refine g_ld rfl rfl rfl ?_
  refine g_c [.int 0, .ref 213] (xo_push (.int 0)) rfl rfl ?_
  refine g_call [.ref 213, .int 0] [] rfl rfl rfl (Tot.imp h (fun v7 s6 h => ?_))
  obtain ⟨x8, rfl, h⟩ := h
  change Go _ _ _ _ _ _ [.int x8] _ _
  refine g_st [.ref 213, .int x8, .null] rfl rfl rfl ?_
  refine g_ld rfl rfl rfl ?_
  refine g_c [.ref 213, .ref 213] xo_dup rfl rfl ?_
  refine g_get rfl rfl ?_
  change Go _ _ _ _ _ _ [.int (s6.1 7), .ref 213] _ _
  refine g_c [.int 1, .int (s6.1 7), .ref 213] (xo_push (.int 1)) rfl rfl ?_
  have ex9 := i_add (x := s6.1 7) (y := 1) rfl (show (1 : Int32).toInt = 1 by decide) h.1
  replace h := h.2 _ ex9
  refine g_c [.int ((s6.1 7) + 1), .ref 213] xo_iadd rfl rfl ?_
  refine g_put rfl rfl rfl ?_
  replace h := h _ rfl
  refine g_ld rfl rfl rfl ?_
  refine g_c [.int 91, .ref 213] (xo_push (.int 91)) rfl rfl ?_
  refine g_call [.ref 213, .int 91] [] rfl rfl rfl (Tot.imp h (fun v12 s11 h => ?_))
  obtain ⟨x13, rfl, h⟩ := h
  change Go _ _ _ _ _ _ [.int x13] _ _
  refine g_brP rfl rfl ⟨fun hc => ?_, fun hc => ?_⟩
  · replace h := h.1 ((i_eq (x := x13) (y := 0) rfl (show (0 : Int32).toInt = 0 by decide)).mp hc)
    exact k_173_30  h
  · replace h := h.2 (fun q => hc ((i_eq (x := x13) (y := 0) rfl (show (0 : Int32).toInt = 0 by decide)).mpr q))
    refine g_ld rfl rfl rfl ?_
    refine g_get rfl rfl ?_
    change Go _ _ _ _ _ _ [.ref 224] _ _
    refine g_ld rfl rfl rfl ?_
    refine g_ld rfl rfl rfl ?_
    refine g_call [.ref 213] [.int x8, .ref 224] rfl rfl rfl (Tot.imp h (fun v15 s14 h => ?_))
    obtain ⟨x16, rfl, h⟩ := h
    change Go _ _ _ _ _ _ [.int x16, .int x8, .ref 224] _ _
    refine g_ias rfl rfl (i_in (x := x8) rfl h.1) ?_
    replace h := h.2
    replace h := h _ rfl
    refine g_ld rfl rfl rfl ?_
    refine g_get rfl rfl ?_
    change Go _ _ _ _ _ _ [.ref 226] _ _
    refine g_ld rfl rfl rfl ?_
    refine g_ld rfl rfl rfl ?_
    refine g_get rfl rfl ?_
    change Go _ _ _ _ _ _ [.int ((sa s14 224 x8.toInt.toNat x16).1 28), .int x8, .ref 226] _ _
    refine g_ias rfl rfl (i_in (x := x8) rfl h.1) ?_
    replace h := h.2
    replace h := h _ rfl
    exact k_173_30  h
theorem t_173 {d : Nat}  {s : yS} {P : Option Value → yS → Prop} (h : w_173_0 (Tot d)  s P) : Tot (d + 1) 173 [.ref 213] s P := tot_of (E := xE_173) (ml := 2) (ret := some .int) rfl rfl rfl (k_173_0 h)
/-! takeTypes -/
def w_174_25 (T : Nat → List Value → yS → (Option Value → yS → Prop) → Prop) (R10 : Int32 → Int32 → Int32 → yS → Prop) (a1 : Int32) (a2 : Int32) (a3 : Int32) (s : yS) (P : Option Value → yS → Prop) : Prop :=
  T 173 [.ref 213] s (fun v2 s1 => ∃ x3, v2 = some (.int x3) ∧ ((0 ≤ a2.toInt ∧ a2.toInt < 12006) ∧ (∀ s4, s4 = sa s1 225 a2.toInt.toNat x3 → (-2147483648 ≤ a3.toInt + 1 ∧ a3.toInt + 1 ≤ 2147483647) ∧ (∀ x5 : Int32, x5.toInt = a3.toInt + 1 → R10 a1 x3 x5  s4))))
set_option maxRecDepth 20000 in
theorem k_174_25 {d : Nat} {R10 : Int32 → Int32 → Int32 → yS → Prop} {a1 : Int32} {a2 : Int32} {a3 : Int32} {s : yS} {P : Option Value → yS → Prop} (r10 : ∀ a1 a2 a3 s, R10 a1 a2 a3 s → Go d 5 (some .int) xE_174 (xE_174.drop 10) [.ref 213, .int a1, .int a2, .int a3, .null, .null] [] s P) (h : w_174_25 (Tot d) R10 a1 a2 a3 s P) : Go d 5 (some .int) xE_174 (xE_174.drop 25) [.ref 213, .int a1, .int a2, .int a3, .null, .null] [] s P := by
  unfold w_174_25 at h
  refine g_ld rfl rfl rfl ?_
  refine g_call [.ref 213] [] rfl rfl rfl (Tot.imp h (fun v2 s1 h => ?_))
  obtain ⟨x3, rfl, h⟩ := h
  change Go _ _ _ _ _ _ [.int x3] _ _
  refine g_st [.ref 213, .int a1, .int a2, .int a3, .int x3, .null] rfl rfl rfl ?_
  refine g_ld rfl rfl rfl ?_
  refine g_get rfl rfl ?_
  change Go _ _ _ _ _ _ [.ref 225] _ _
  refine g_ld rfl rfl rfl ?_
  refine g_ld rfl rfl rfl ?_
  refine g_ias rfl rfl (i_in (x := a2) rfl h.1) ?_
  replace h := h.2
  replace h := h _ rfl
  refine g_ld rfl rfl rfl ?_
  refine g_st [.ref 213, .int a1, .int x3, .int a3, .int x3, .null] rfl rfl rfl ?_
  have ex5 := i_add (x := a3) (y := 1) rfl (show (1 : Int32).toInt = 1 by decide) h.1
  replace h := h.2 _ ex5
  refine g_inc [.ref 213, .int a1, .int x3, .int (a3 + 1), .int x3, .null] rfl rfl rfl rfl ?_
  refine g_go rfl ?_
  refine g_fg 4 ?_
  exact r10 a1 x3 (a3 + 1)  (sa s1 225 a2.toInt.toNat x3) h
def w_174_10 (T : Nat → List Value → yS → (Option Value → yS → Prop) → Prop) (R10 : Int32 → Int32 → Int32 → yS → Prop) (a1 : Int32) (a2 : Int32) (a3 : Int32) (s : yS) (P : Option Value → yS → Prop) : Prop :=
  T 168 [.ref 213, .int 44] s (fun v2 s1 => ∃ x3, v2 = some (.int x3) ∧ ((x3.toInt = 0 → T 167 [.ref 213, .int 93] s1 (fun v5 s4 => v5 = none ∧ (∀ s6, s6 = sf s4 28 a3 → P (some (.int a1)) s6))) ∧ (¬ (x3.toInt = 0) → (¬ (a3.toInt = 6) → w_174_25 T R10 a1 a2 a3  s1 P) ∧ (a3.toInt = 6 → T 166 [.ref 213] s1 (fun v8 s7 => ∃ x9, v8 = some (.int x9) ∧ ((x9.toInt = 0 → w_174_25 T R10 a1 a2 a3  s7 P) ∧ (¬ (x9.toInt = 0) → T 163 [.ref 213, .int 5, .int (s7.1 7)] s7 (fun v11 s10 => v11 = none ∧ (w_174_25 T R10 a1 a2 a3  s10 P)))))))))
set_option maxRecDepth 20000 in
theorem k_174_10 {d : Nat} {R10 : Int32 → Int32 → Int32 → yS → Prop} {a1 : Int32} {a2 : Int32} {a3 : Int32} {s : yS} {P : Option Value → yS → Prop} (r10 : ∀ a1 a2 a3 s, R10 a1 a2 a3 s → Go d 5 (some .int) xE_174 (xE_174.drop 10) [.ref 213, .int a1, .int a2, .int a3, .null, .null] [] s P) (h : w_174_10 (Tot d) R10 a1 a2 a3 s P) : Go d 5 (some .int) xE_174 (xE_174.drop 10) [.ref 213, .int a1, .int a2, .int a3, .null, .null] [] s P := by
  unfold w_174_10 at h
  refine g_ld rfl rfl rfl ?_
  refine g_c [.int 44, .ref 213] (xo_push (.int 44)) rfl rfl ?_
  refine g_call [.ref 213, .int 44] [] rfl rfl rfl (Tot.imp h (fun v2 s1 h => ?_))
  obtain ⟨x3, rfl, h⟩ := h
  change Go _ _ _ _ _ _ [.int x3] _ _
  refine g_brP rfl rfl ⟨fun hc => ?_, fun hc => ?_⟩
  · replace h := h.1 ((i_eq (x := x3) (y := 0) rfl (show (0 : Int32).toInt = 0 by decide)).mp hc)
    refine g_ld rfl rfl rfl ?_
    refine g_c [.int 93, .ref 213] (xo_push (.int 93)) rfl rfl ?_
    refine g_call [.ref 213, .int 93] [] rfl rfl rfl (Tot.imp h (fun v5 s4 h => ?_))
    obtain ⟨rfl, h⟩ := h
    change Go _ _ _ _ _ _ [] _ _
    refine g_ld rfl rfl rfl ?_
    refine g_ld rfl rfl rfl ?_
    refine g_put rfl rfl rfl ?_
    replace h := h _ rfl
    refine g_ld rfl rfl rfl ?_
    exact g_retI rfl h
  · replace h := h.2 (fun q => hc ((i_eq (x := x3) (y := 0) rfl (show (0 : Int32).toInt = 0 by decide)).mpr q))
    refine g_ld rfl rfl rfl ?_
    refine g_c [.int 6, .int a3] (xo_push (.int 6)) rfl rfl ?_
    refine g_brN rfl rfl ⟨fun hc => ?_, fun hc => ?_⟩
    · replace h := h.1 (fun q => hc ((i_eq (x := a3) (y := 6) rfl (show (6 : Int32).toInt = 6 by decide)).mpr q))
      exact k_174_25 r10 h
    · replace h := h.2 ((i_eq (x := a3) (y := 6) rfl (show (6 : Int32).toInt = 6 by decide)).mp hc)
      refine g_ld rfl rfl rfl ?_
      refine g_call [.ref 213] [] rfl rfl rfl (Tot.imp h (fun v8 s7 h => ?_))
      obtain ⟨x9, rfl, h⟩ := h
      change Go _ _ _ _ _ _ [.int x9] _ _
      refine g_brP rfl rfl ⟨fun hc => ?_, fun hc => ?_⟩
      · replace h := h.1 ((i_eq (x := x9) (y := 0) rfl (show (0 : Int32).toInt = 0 by decide)).mp hc)
        exact k_174_25 r10 h
      · replace h := h.2 (fun q => hc ((i_eq (x := x9) (y := 0) rfl (show (0 : Int32).toInt = 0 by decide)).mpr q))
        refine g_ld rfl rfl rfl ?_
        refine g_c [.int 5, .ref 213] (xo_push (.int 5)) rfl rfl ?_
        refine g_ld rfl rfl rfl ?_
        refine g_get rfl rfl ?_
        change Go _ _ _ _ _ _ [.int (s7.1 7), .int 5, .ref 213] _ _
        refine g_call [.ref 213, .int 5, .int (s7.1 7)] [] rfl rfl rfl (Tot.imp h (fun v11 s10 h => ?_))
        obtain ⟨rfl, h⟩ := h
        change Go _ _ _ _ _ _ [] _ _
        exact k_174_25 r10 h
def wl_174_10 (T : Nat → List Value → yS → (Option Value → yS → Prop) → Prop)  (a1 : Int32) (a2 : Int32) (a3 : Int32) (s : yS) (P : Option Value → yS → Prop) : Prop :=
  ∃ (I : Int32 → Int32 → Int32 → yS → Prop) (μ : Int32 → Int32 → Int32 → yS → Nat), I a1 a2 a3 s ∧ ∀ (a1 : Int32) (a2 : Int32) (a3 : Int32) (s : yS), I a1 a2 a3 s → w_174_10 T (fun a1' a2' a3' s' => I a1' a2' a3' s' ∧ μ a1' a2' a3' s' < μ a1 a2 a3 s) a1 a2 a3 s P
theorem kl_174_10 {d : Nat}  {a1 : Int32} {a2 : Int32} {a3 : Int32} {s : yS} {P : Option Value → yS → Prop}  (h : wl_174_10 (Tot d)  a1 a2 a3 s P) : Go d 5 (some .int) xE_174 (xE_174.drop 10) [.ref 213, .int a1, .int a2, .int a3, .null, .null] [] s P := by
  obtain ⟨I, μ, h0, h1⟩ := h
  have key : ∀ (n : Nat) (a1 : Int32) (a2 : Int32) (a3 : Int32) (s : yS), μ a1 a2 a3 s = n → I a1 a2 a3 s → Go d 5 (some .int) xE_174 (xE_174.drop 10) [.ref 213, .int a1, .int a2, .int a3, .null, .null] [] s P := by
    intro n
    induction n using Nat.strongRecOn with
    | ind n ih =>
      intro a1 a2 a3 s e hI
      exact k_174_10 (fun a1' a2' a3' s' q => ih _ (by rw [← e]; exact q.2) _ _ _ _ rfl q.1) (h1 a1 a2 a3 s hI)
  exact key _ a1 a2 a3 s rfl h0
def w_174_0 (T : Nat → List Value → yS → (Option Value → yS → Prop) → Prop)   (s : yS) (P : Option Value → yS → Prop) : Prop :=
  T 167 [.ref 213, .int 91] s (fun v2 s1 => v2 = none ∧ (T 173 [.ref 213] s1 (fun v4 s3 => ∃ x5, v4 = some (.int x5) ∧ (wl_174_10 T  x5 x5 1  s3 P))))
set_option maxRecDepth 20000 in
theorem k_174_0 {d : Nat}   {s : yS} {P : Option Value → yS → Prop}  (h : w_174_0 (Tot d)   s P) : Go d 5 (some .int) xE_174 (xE_174.drop 0) [.ref 213, .null, .null, .null, .null, .null] [] s P := by
  unfold w_174_0 at h
  refine g_ld rfl rfl rfl ?_
  refine g_c [.int 91, .ref 213] (xo_push (.int 91)) rfl rfl ?_
  refine g_call [.ref 213, .int 91] [] rfl rfl rfl (Tot.imp h (fun v2 s1 h => ?_))
  obtain ⟨rfl, h⟩ := h
  change Go _ _ _ _ _ _ [] _ _
  refine g_ld rfl rfl rfl ?_
  refine g_call [.ref 213] [] rfl rfl rfl (Tot.imp h (fun v4 s3 h => ?_))
  obtain ⟨x5, rfl, h⟩ := h
  change Go _ _ _ _ _ _ [.int x5] _ _
  refine g_st [.ref 213, .int x5, .null, .null, .null, .null] rfl rfl rfl ?_
  refine g_ld rfl rfl rfl ?_
  refine g_st [.ref 213, .int x5, .int x5, .null, .null, .null] rfl rfl rfl ?_
  refine g_c [.int 1] (xo_push (.int 1)) rfl rfl ?_
  refine g_st [.ref 213, .int x5, .int x5, .int 1, .null, .null] rfl rfl rfl ?_
  exact kl_174_10  h
theorem t_174 {d : Nat}  {s : yS} {P : Option Value → yS → Prop} (h : w_174_0 (Tot d)  s P) : Tot (d + 1) 174 [.ref 213] s P := tot_of (E := xE_174) (ml := 5) (ret := some .int) rfl rfl rfl (k_174_0 h)
/-! takeE -/
def w_175_106 (T : Nat → List Value → yS → (Option Value → yS → Prop) → Prop) (R94 : Int32 → Int32 → Int32 → yS → Prop) (a1 : Int32) (a2 : Int32) (a3 : Int32) (s : yS) (P : Option Value → yS → Prop) : Prop :=
  (-2147483648 ≤ a3.toInt + 1 ∧ a3.toInt + 1 ≤ 2147483647) ∧ (∀ x1 : Int32, x1.toInt = a3.toInt + 1 → T 177 [.ref 213, .int a1] s (fun v3 s2 => ∃ x4, v3 = some (.int x4) ∧ (R94 x4 a2 x1  s2)))
set_option maxRecDepth 20000 in
theorem k_175_106 {d : Nat} {R94 : Int32 → Int32 → Int32 → yS → Prop} {a1 : Int32} {a2 : Int32} {a3 : Int32} {s : yS} {P : Option Value → yS → Prop} (r94 : ∀ a1 a2 a3 s, R94 a1 a2 a3 s → Go d 5 (some .int) xE_175 (xE_175.drop 94) [.ref 213, .int a1, .int a2, .int a3, .null, .null] [] s P) (h : w_175_106 (Tot d) R94 a1 a2 a3 s P) : Go d 5 (some .int) xE_175 (xE_175.drop 106) [.ref 213, .int a1, .int a2, .int a3, .null, .null] [] s P := by
  unfold w_175_106 at h
  have ex1 := i_add (x := a3) (y := 1) rfl (show (1 : Int32).toInt = 1 by decide) h.1
  replace h := h.2 _ ex1
  refine g_inc [.ref 213, .int a1, .int a2, .int (a3 + 1), .null, .null] rfl rfl rfl rfl ?_
  refine g_ld rfl rfl rfl ?_
  refine g_ld rfl rfl rfl ?_
  refine g_call [.ref 213, .int a1] [] rfl rfl rfl (Tot.imp h (fun v3 s2 h => ?_))
  obtain ⟨x4, rfl, h⟩ := h
  change Go _ _ _ _ _ _ [.int x4] _ _
  refine g_st [.ref 213, .int x4, .int a2, .int (a3 + 1), .null, .null] rfl rfl rfl ?_
  refine g_go rfl ?_
  exact r94 x4 a2 (a3 + 1)  s2 h
def w_175_94 (T : Nat → List Value → yS → (Option Value → yS → Prop) → Prop) (R94 : Int32 → Int32 → Int32 → yS → Prop) (a1 : Int32) (a2 : Int32) (a3 : Int32) (s : yS) (P : Option Value → yS → Prop) : Prop :=
  T 164 [.ref 213, .int 46] s (fun v2 s1 => ∃ x3, v2 = some (.int x3) ∧ ((x3.toInt = 0 → (-2147483648 ≤ (s1.1 27).toInt - 1 ∧ (s1.1 27).toInt - 1 ≤ 2147483647) ∧ (∀ x4 : Int32, x4.toInt = (s1.1 27).toInt - 1 → ∀ s5, s5 = sf s1 27 x4 → P (some (.int a1)) s5)) ∧ (¬ (x3.toInt = 0) → (¬ (a3.toInt = 20) → w_175_106 T R94 a1 a2 a3  s1 P) ∧ (a3.toInt = 20 → T 163 [.ref 213, .int 5, .int (s1.1 7)] s1 (fun v7 s6 => v7 = none ∧ (w_175_106 T R94 a1 a2 a3  s6 P))))))
set_option maxRecDepth 20000 in
theorem k_175_94 {d : Nat} {R94 : Int32 → Int32 → Int32 → yS → Prop} {a1 : Int32} {a2 : Int32} {a3 : Int32} {s : yS} {P : Option Value → yS → Prop} (r94 : ∀ a1 a2 a3 s, R94 a1 a2 a3 s → Go d 5 (some .int) xE_175 (xE_175.drop 94) [.ref 213, .int a1, .int a2, .int a3, .null, .null] [] s P) (h : w_175_94 (Tot d) R94 a1 a2 a3 s P) : Go d 5 (some .int) xE_175 (xE_175.drop 94) [.ref 213, .int a1, .int a2, .int a3, .null, .null] [] s P := by
  unfold w_175_94 at h
  refine g_ld rfl rfl rfl ?_
  refine g_c [.int 46, .ref 213] (xo_push (.int 46)) rfl rfl ?_
  refine g_call [.ref 213, .int 46] [] rfl rfl rfl (Tot.imp h (fun v2 s1 h => ?_))
  obtain ⟨x3, rfl, h⟩ := h
  change Go _ _ _ _ _ _ [.int x3] _ _
  refine g_brP rfl rfl ⟨fun hc => ?_, fun hc => ?_⟩
  · replace h := h.1 ((i_eq (x := x3) (y := 0) rfl (show (0 : Int32).toInt = 0 by decide)).mp hc)
    refine g_ld rfl rfl rfl ?_
    refine g_c [.ref 213, .ref 213] xo_dup rfl rfl ?_
    refine g_get rfl rfl ?_
    change Go _ _ _ _ _ _ [.int (s1.1 27), .ref 213] _ _
    refine g_c [.int 1, .int (s1.1 27), .ref 213] (xo_push (.int 1)) rfl rfl ?_
    have ex4 := i_sub (x := s1.1 27) (y := 1) rfl (show (1 : Int32).toInt = 1 by decide) h.1
    replace h := h.2 _ ex4
    refine g_c [.int ((s1.1 27) - 1), .ref 213] xo_isub rfl rfl ?_
    refine g_put rfl rfl rfl ?_
    replace h := h _ rfl
    refine g_ld rfl rfl rfl ?_
    exact g_retI rfl h
  · replace h := h.2 (fun q => hc ((i_eq (x := x3) (y := 0) rfl (show (0 : Int32).toInt = 0 by decide)).mpr q))
    refine g_ld rfl rfl rfl ?_
    refine g_c [.int 20, .int a3] (xo_push (.int 20)) rfl rfl ?_
    refine g_brN rfl rfl ⟨fun hc => ?_, fun hc => ?_⟩
    · replace h := h.1 (fun q => hc ((i_eq (x := a3) (y := 20) rfl (show (20 : Int32).toInt = 20 by decide)).mpr q))
      exact k_175_106 r94 h
    · replace h := h.2 ((i_eq (x := a3) (y := 20) rfl (show (20 : Int32).toInt = 20 by decide)).mp hc)
      refine g_ld rfl rfl rfl ?_
      refine g_c [.int 5, .ref 213] (xo_push (.int 5)) rfl rfl ?_
      refine g_ld rfl rfl rfl ?_
      refine g_get rfl rfl ?_
      change Go _ _ _ _ _ _ [.int (s1.1 7), .int 5, .ref 213] _ _
      refine g_call [.ref 213, .int 5, .int (s1.1 7)] [] rfl rfl rfl (Tot.imp h (fun v7 s6 h => ?_))
      obtain ⟨rfl, h⟩ := h
      change Go _ _ _ _ _ _ [] _ _
      exact k_175_106 r94 h
def wl_175_94 (T : Nat → List Value → yS → (Option Value → yS → Prop) → Prop)  (a1 : Int32) (a2 : Int32) (a3 : Int32) (s : yS) (P : Option Value → yS → Prop) : Prop :=
  ∃ (I : Int32 → Int32 → Int32 → yS → Prop) (μ : Int32 → Int32 → Int32 → yS → Nat), I a1 a2 a3 s ∧ ∀ (a1 : Int32) (a2 : Int32) (a3 : Int32) (s : yS), I a1 a2 a3 s → w_175_94 T (fun a1' a2' a3' s' => I a1' a2' a3' s' ∧ μ a1' a2' a3' s' < μ a1 a2 a3 s) a1 a2 a3 s P
theorem kl_175_94 {d : Nat}  {a1 : Int32} {a2 : Int32} {a3 : Int32} {s : yS} {P : Option Value → yS → Prop}  (h : wl_175_94 (Tot d)  a1 a2 a3 s P) : Go d 5 (some .int) xE_175 (xE_175.drop 94) [.ref 213, .int a1, .int a2, .int a3, .null, .null] [] s P := by
  obtain ⟨I, μ, h0, h1⟩ := h
  have key : ∀ (n : Nat) (a1 : Int32) (a2 : Int32) (a3 : Int32) (s : yS), μ a1 a2 a3 s = n → I a1 a2 a3 s → Go d 5 (some .int) xE_175 (xE_175.drop 94) [.ref 213, .int a1, .int a2, .int a3, .null, .null] [] s P := by
    intro n
    induction n using Nat.strongRecOn with
    | ind n ih =>
      intro a1 a2 a3 s e hI
      exact k_175_94 (fun a1' a2' a3' s' q => ih _ (by rw [← e]; exact q.2) _ _ _ _ rfl q.1) (h1 a1 a2 a3 s hI)
  exact key _ a1 a2 a3 s rfl h0
def w_175_92 (T : Nat → List Value → yS → (Option Value → yS → Prop) → Prop)  (a1 : Int32) (a2 : Int32) (s : yS) (P : Option Value → yS → Prop) : Prop :=
  wl_175_94 T  a1 a2 0  s P
set_option maxRecDepth 20000 in
theorem k_175_92 {d : Nat}  {a1 : Int32} {a2 : Int32} {s : yS} {P : Option Value → yS → Prop}  (h : w_175_92 (Tot d)  a1 a2 s P) : Go d 5 (some .int) xE_175 (xE_175.drop 92) [.ref 213, .int a1, .int a2, .null, .null, .null] [] s P := by
  unfold w_175_92 at h
  refine g_c [.int 0] (xo_push (.int 0)) rfl rfl ?_
  refine g_st [.ref 213, .int a1, .int a2, .int 0, .null, .null] rfl rfl rfl ?_
  exact kl_175_94  h
def w_175_78 (T : Nat → List Value → yS → (Option Value → yS → Prop) → Prop)  (a1 : Int32) (a2 : Int32) (a3 : Int32) (s : yS) (P : Option Value → yS → Prop) : Prop :=
  T 167 [.ref 213, .int 125] s (fun v2 s1 => v2 = none ∧ (w_175_92 T  a1 a2  s1 P))
set_option maxRecDepth 20000 in
theorem k_175_78 {d : Nat}  {a1 : Int32} {a2 : Int32} {a3 : Int32} {s : yS} {P : Option Value → yS → Prop}  (h : w_175_78 (Tot d)  a1 a2 a3 s P) : Go d 5 (some .int) xE_175 (xE_175.drop 78) [.ref 213, .int a1, .int a2, .int a3, .null, .null] [] s P := by
  unfold w_175_78 at h
  refine g_ld rfl rfl rfl ?_
  refine g_c [.int 125, .ref 213] (xo_push (.int 125)) rfl rfl ?_
  refine g_call [.ref 213, .int 125] [] rfl rfl rfl (Tot.imp h (fun v2 s1 h => ?_))
  obtain ⟨rfl, h⟩ := h
  change Go _ _ _ _ _ _ [] _ _
  refine g_go rfl ?_
  refine g_fg 3 ?_
  exact k_175_92  h
def w_175_37 (T : Nat → List Value → yS → (Option Value → yS → Prop) → Prop)  (t0 : Int32) (s : yS) (P : Option Value → yS → Prop) : Prop :=
  (t0.toInt = 0 → T 171 [.ref 213, .int 1] s (fun v2 s1 => ∃ x3, v2 = some (.int x3) ∧ ((-2147483648 ≤ (s1.1 7).toInt + 1 ∧ (s1.1 7).toInt + 1 ≤ 2147483647) ∧ (∀ x4 : Int32, x4.toInt = (s1.1 7).toInt + 1 → ∀ s5, s5 = sf s1 7 x4 → w_175_92 T  x3 t0  s5 P)))) ∧ (¬ (t0.toInt = 0) → T 171 [.ref 213, .int 2] s (fun v7 s6 => ∃ x8, v7 = some (.int x8) ∧ (T 173 [.ref 213] s6 (fun v10 s9 => ∃ x11, v10 = some (.int x11) ∧ ((0 ≤ x8.toInt ∧ x8.toInt < 12006) ∧ (∀ s12, s12 = sa s9 229 x8.toInt.toNat x11 → T 167 [.ref 213, .int 123] s12 (fun v14 s13 => v14 = none ∧ ((0 ≤ x8.toInt ∧ x8.toInt < 12006) ∧ (∀ s15, s15 = sa s13 224 x8.toInt.toNat (-1) → T 164 [.ref 213, .int 125] s15 (fun v17 s16 => ∃ x18, v17 = some (.int x18) ∧ ((¬ (x18.toInt = 0) → w_175_78 T  x8 t0 x11  s16 P) ∧ (x18.toInt = 0 → T 176 [.ref 213] s16 (fun v20 s19 => ∃ x21, v20 = some (.int x21) ∧ ((0 ≤ x8.toInt ∧ x8.toInt < 12006) ∧ (∀ s22, s22 = sa s19 224 x8.toInt.toNat x21 → (0 ≤ x8.toInt ∧ x8.toInt < 12006) ∧ (∀ s23, s23 = sa s22 226 x8.toInt.toNat (s22.1 28) → w_175_78 T  x8 t0 x11  s23 P))))))))))))))))
set_option maxRecDepth 20000 in
theorem k_175_37 {d : Nat}  {t0 : Int32} {s : yS} {P : Option Value → yS → Prop}  (h : w_175_37 (Tot d)  t0 s P) : Go d 5 (some .int) xE_175 (xE_175.drop 37) [.ref 213, .null, .null, .null, .null, .null] [.int t0] s P := by
  unfold w_175_37 at h
  refine g_st [.ref 213, .null, .int t0, .null, .null, .null] rfl rfl rfl ?_
  refine g_ld rfl rfl rfl ?_
  refine g_brP rfl rfl ⟨fun hc => ?_, fun hc => ?_⟩
  · replace h := h.1 ((i_eq (x := t0) (y := 0) rfl (show (0 : Int32).toInt = 0 by decide)).mp hc)
    refine g_ld rfl rfl rfl ?_
    refine g_c [.int 1, .ref 213] (xo_push (.int 1)) rfl rfl ?_
    refine g_call [.ref 213, .int 1] [] rfl rfl rfl (Tot.imp h (fun v2 s1 h => ?_))
    obtain ⟨x3, rfl, h⟩ := h
    change Go _ _ _ _ _ _ [.int x3] _ _
    refine g_st [.ref 213, .int x3, .int t0, .null, .null, .null] rfl rfl rfl ?_
    refine g_ld rfl rfl rfl ?_
    refine g_c [.ref 213, .ref 213] xo_dup rfl rfl ?_
    refine g_get rfl rfl ?_
    change Go _ _ _ _ _ _ [.int (s1.1 7), .ref 213] _ _
    refine g_c [.int 1, .int (s1.1 7), .ref 213] (xo_push (.int 1)) rfl rfl ?_
    have ex4 := i_add (x := s1.1 7) (y := 1) rfl (show (1 : Int32).toInt = 1 by decide) h.1
    replace h := h.2 _ ex4
    refine g_c [.int ((s1.1 7) + 1), .ref 213] xo_iadd rfl rfl ?_
    refine g_put rfl rfl rfl ?_
    replace h := h _ rfl
    exact k_175_92  h
  · replace h := h.2 (fun q => hc ((i_eq (x := t0) (y := 0) rfl (show (0 : Int32).toInt = 0 by decide)).mpr q))
    refine g_ld rfl rfl rfl ?_
    refine g_c [.int 2, .ref 213] (xo_push (.int 2)) rfl rfl ?_
    refine g_call [.ref 213, .int 2] [] rfl rfl rfl (Tot.imp h (fun v7 s6 h => ?_))
    obtain ⟨x8, rfl, h⟩ := h
    change Go _ _ _ _ _ _ [.int x8] _ _
    refine g_st [.ref 213, .int x8, .int t0, .null, .null, .null] rfl rfl rfl ?_
    refine g_ld rfl rfl rfl ?_
    refine g_call [.ref 213] [] rfl rfl rfl (Tot.imp h (fun v10 s9 h => ?_))
    obtain ⟨x11, rfl, h⟩ := h
    change Go _ _ _ _ _ _ [.int x11] _ _
    refine g_st [.ref 213, .int x8, .int t0, .int x11, .null, .null] rfl rfl rfl ?_
    refine g_ld rfl rfl rfl ?_
    refine g_get rfl rfl ?_
    change Go _ _ _ _ _ _ [.ref 229] _ _
    refine g_ld rfl rfl rfl ?_
    refine g_ld rfl rfl rfl ?_
    refine g_ias rfl rfl (i_in (x := x8) rfl h.1) ?_
    replace h := h.2
    replace h := h _ rfl
    refine g_ld rfl rfl rfl ?_
    refine g_c [.int 123, .ref 213] (xo_push (.int 123)) rfl rfl ?_
    refine g_call [.ref 213, .int 123] [] rfl rfl rfl (Tot.imp h (fun v14 s13 h => ?_))
    obtain ⟨rfl, h⟩ := h
    change Go _ _ _ _ _ _ [] _ _
    refine g_ld rfl rfl rfl ?_
    refine g_get rfl rfl ?_
    change Go _ _ _ _ _ _ [.ref 224] _ _
    refine g_ld rfl rfl rfl ?_
    refine g_c [.int (-1), .int x8, .ref 224] (xo_push (.int (-1))) rfl rfl ?_
    refine g_ias rfl rfl (i_in (x := x8) rfl h.1) ?_
    replace h := h.2
    replace h := h _ rfl
    refine g_ld rfl rfl rfl ?_
    refine g_c [.int 125, .ref 213] (xo_push (.int 125)) rfl rfl ?_
    refine g_call [.ref 213, .int 125] [] rfl rfl rfl (Tot.imp h (fun v17 s16 h => ?_))
    obtain ⟨x18, rfl, h⟩ := h
    change Go _ _ _ _ _ _ [.int x18] _ _
    refine g_brN rfl rfl ⟨fun hc => ?_, fun hc => ?_⟩
    · replace h := h.1 (fun q => hc ((i_eq (x := x18) (y := 0) rfl (show (0 : Int32).toInt = 0 by decide)).mpr q))
      exact k_175_78  h
    · replace h := h.2 ((i_eq (x := x18) (y := 0) rfl (show (0 : Int32).toInt = 0 by decide)).mp hc)
      refine g_ld rfl rfl rfl ?_
      refine g_call [.ref 213] [] rfl rfl rfl (Tot.imp h (fun v20 s19 h => ?_))
      obtain ⟨x21, rfl, h⟩ := h
      change Go _ _ _ _ _ _ [.int x21] _ _
      refine g_st [.ref 213, .int x8, .int t0, .int x11, .int x21, .null] rfl rfl rfl ?_
      refine g_ld rfl rfl rfl ?_
      refine g_get rfl rfl ?_
      change Go _ _ _ _ _ _ [.ref 224] _ _
      refine g_ld rfl rfl rfl ?_
      refine g_ld rfl rfl rfl ?_
      refine g_ias rfl rfl (i_in (x := x8) rfl h.1) ?_
      replace h := h.2
      replace h := h _ rfl
      refine g_ld rfl rfl rfl ?_
      refine g_get rfl rfl ?_
      change Go _ _ _ _ _ _ [.ref 226] _ _
      refine g_ld rfl rfl rfl ?_
      refine g_ld rfl rfl rfl ?_
      refine g_get rfl rfl ?_
      change Go _ _ _ _ _ _ [.int ((sa s19 224 x8.toInt.toNat x21).1 28), .int x8, .ref 226] _ _
      refine g_ias rfl rfl (i_in (x := x8) rfl h.1) ?_
      replace h := h.2
      replace h := h _ rfl
      refine g_fg 4 ?_
      exact k_175_78  h
def w_175_36 (T : Nat → List Value → yS → (Option Value → yS → Prop) → Prop)   (s : yS) (P : Option Value → yS → Prop) : Prop :=
  w_175_37 T   0 s P
set_option maxRecDepth 20000 in
theorem k_175_36 {d : Nat}   {s : yS} {P : Option Value → yS → Prop}  (h : w_175_36 (Tot d)   s P) : Go d 5 (some .int) xE_175 (xE_175.drop 36) [.ref 213, .null, .null, .null, .null, .null] [] s P := by
  unfold w_175_36 at h
  refine g_c [.int 0] (xo_push (.int 0)) rfl rfl ?_
  exact k_175_37  h
def w_175_34 (T : Nat → List Value → yS → (Option Value → yS → Prop) → Prop)   (s : yS) (P : Option Value → yS → Prop) : Prop :=
  w_175_37 T   1 s P
set_option maxRecDepth 20000 in
theorem k_175_34 {d : Nat}   {s : yS} {P : Option Value → yS → Prop}  (h : w_175_34 (Tot d)   s P) : Go d 5 (some .int) xE_175 (xE_175.drop 34) [.ref 213, .null, .null, .null, .null, .null] [] s P := by
  unfold w_175_34 at h
  refine g_c [.int 1] (xo_push (.int 1)) rfl rfl ?_
  refine g_go rfl ?_
  exact k_175_37  h
def w_175_0 (T : Nat → List Value → yS → (Option Value → yS → Prop) → Prop)   (s : yS) (P : Option Value → yS → Prop) : Prop :=
  T 166 [.ref 213] s (fun v2 s1 => ∃ x3, v2 = some (.int x3) ∧ (T 172 [.ref 213, .int x3] s1 (fun v5 s4 => v5 = none ∧ ((¬ ((s4.1 8).toInt = 0) → w_175_36 T    s4 P) ∧ ((s4.1 8).toInt = 0 → (-2147483648 ≤ (s4.1 7).toInt + 1 ∧ (s4.1 7).toInt + 1 ≤ 2147483647) ∧ (∀ x6 : Int32, x6.toInt = (s4.1 7).toInt + 1 → (0 ≤ x6.toInt ∧ x6.toInt < 12006) ∧ ((¬ ((s4.2.1 215 x6.toInt.toNat).toInt = 3) → w_175_36 T    s4 P) ∧ ((s4.2.1 215 x6.toInt.toNat).toInt = 3 → (-2147483648 ≤ (s4.1 7).toInt + 1 ∧ (s4.1 7).toInt + 1 ≤ 2147483647) ∧ (∀ x7 : Int32, x7.toInt = (s4.1 7).toInt + 1 → (0 ≤ x7.toInt ∧ x7.toInt < 12006) ∧ (((s4.2.1 217 x7.toInt.toNat).toInt = 123 → w_175_34 T    s4 P) ∧ (¬ ((s4.2.1 217 x7.toInt.toNat).toInt = 123) → (-2147483648 ≤ (s4.1 7).toInt + 1 ∧ (s4.1 7).toInt + 1 ≤ 2147483647) ∧ (∀ x8 : Int32, x8.toInt = (s4.1 7).toInt + 1 → (0 ≤ x8.toInt ∧ x8.toInt < 12006) ∧ ((¬ ((s4.2.1 217 x8.toInt.toNat).toInt = 91) → w_175_36 T    s4 P) ∧ ((s4.2.1 217 x8.toInt.toNat).toInt = 91 → w_175_34 T    s4 P))))))))))))))
set_option maxRecDepth 20000 in
theorem k_175_0 {d : Nat}   {s : yS} {P : Option Value → yS → Prop}  (h : w_175_0 (Tot d)   s P) : Go d 5 (some .int) xE_175 (xE_175.drop 0) [.ref 213, .null, .null, .null, .null, .null] [] s P := by
  unfold w_175_0 at h
  refine g_ld rfl rfl rfl ?_
  refine g_ld rfl rfl rfl ?_
  refine g_call [.ref 213] [.ref 213] rfl rfl rfl (Tot.imp h (fun v2 s1 h => ?_))
  obtain ⟨x3, rfl, h⟩ := h
  change Go _ _ _ _ _ _ [.int x3, .ref 213] _ _
  refine g_call [.ref 213, .int x3] [] rfl rfl rfl (Tot.imp h (fun v5 s4 h => ?_))
  obtain ⟨rfl, h⟩ := h
  change Go _ _ _ _ _ _ [] _ _
  refine g_ld rfl rfl rfl ?_
  refine g_get rfl rfl ?_
  change Go _ _ _ _ _ _ [.int (s4.1 8)] _ _
  refine g_brN rfl rfl ⟨fun hc => ?_, fun hc => ?_⟩
  · replace h := h.1 (fun q => hc ((i_eq (x := s4.1 8) (y := 0) rfl (show (0 : Int32).toInt = 0 by decide)).mpr q))
    exact k_175_36  h
  · replace h := h.2 ((i_eq (x := s4.1 8) (y := 0) rfl (show (0 : Int32).toInt = 0 by decide)).mp hc)
    refine g_ld rfl rfl rfl ?_
    refine g_get rfl rfl ?_
    change Go _ _ _ _ _ _ [.ref 215] _ _
    refine g_ld rfl rfl rfl ?_
    refine g_get rfl rfl ?_
    change Go _ _ _ _ _ _ [.int (s4.1 7), .ref 215] _ _
    refine g_c [.int 1, .int (s4.1 7), .ref 215] (xo_push (.int 1)) rfl rfl ?_
    have ex6 := i_add (x := s4.1 7) (y := 1) rfl (show (1 : Int32).toInt = 1 by decide) h.1
    replace h := h.2 _ ex6
    refine g_c [.int ((s4.1 7) + 1), .ref 215] xo_iadd rfl rfl ?_
    refine g_ial rfl rfl (i_in (x := ((s4.1 7) + 1)) rfl h.1) ?_
    change Go _ _ _ _ _ _ [.int (s4.2.1 215 ((s4.1 7) + 1).toInt.toNat)] _ _
    replace h := h.2
    refine g_c [.int 3, .int (s4.2.1 215 ((s4.1 7) + 1).toInt.toNat)] (xo_push (.int 3)) rfl rfl ?_
    refine g_brN rfl rfl ⟨fun hc => ?_, fun hc => ?_⟩
    · replace h := h.1 (fun q => hc ((i_eq (x := s4.2.1 215 ((s4.1 7) + 1).toInt.toNat) (y := 3) rfl (show (3 : Int32).toInt = 3 by decide)).mpr q))
      exact k_175_36  h
    · replace h := h.2 ((i_eq (x := s4.2.1 215 ((s4.1 7) + 1).toInt.toNat) (y := 3) rfl (show (3 : Int32).toInt = 3 by decide)).mp hc)
      refine g_ld rfl rfl rfl ?_
      refine g_get rfl rfl ?_
      change Go _ _ _ _ _ _ [.ref 217] _ _
      refine g_ld rfl rfl rfl ?_
      refine g_get rfl rfl ?_
      change Go _ _ _ _ _ _ [.int (s4.1 7), .ref 217] _ _
      refine g_c [.int 1, .int (s4.1 7), .ref 217] (xo_push (.int 1)) rfl rfl ?_
      have ex7 := i_add (x := s4.1 7) (y := 1) rfl (show (1 : Int32).toInt = 1 by decide) h.1
      replace h := h.2 _ ex7
      refine g_c [.int ((s4.1 7) + 1), .ref 217] xo_iadd rfl rfl ?_
      refine g_ial rfl rfl (i_in (x := ((s4.1 7) + 1)) rfl h.1) ?_
      change Go _ _ _ _ _ _ [.int (s4.2.1 217 ((s4.1 7) + 1).toInt.toNat)] _ _
      replace h := h.2
      refine g_c [.int 123, .int (s4.2.1 217 ((s4.1 7) + 1).toInt.toNat)] (xo_push (.int 123)) rfl rfl ?_
      refine g_brP rfl rfl ⟨fun hc => ?_, fun hc => ?_⟩
      · replace h := h.1 ((i_eq (x := s4.2.1 217 ((s4.1 7) + 1).toInt.toNat) (y := 123) rfl (show (123 : Int32).toInt = 123 by decide)).mp hc)
        exact k_175_34  h
      · replace h := h.2 (fun q => hc ((i_eq (x := s4.2.1 217 ((s4.1 7) + 1).toInt.toNat) (y := 123) rfl (show (123 : Int32).toInt = 123 by decide)).mpr q))
        refine g_ld rfl rfl rfl ?_
        refine g_get rfl rfl ?_
        change Go _ _ _ _ _ _ [.ref 217] _ _
        refine g_ld rfl rfl rfl ?_
        refine g_get rfl rfl ?_
        change Go _ _ _ _ _ _ [.int (s4.1 7), .ref 217] _ _
        refine g_c [.int 1, .int (s4.1 7), .ref 217] (xo_push (.int 1)) rfl rfl ?_
        have ex8 := i_add (x := s4.1 7) (y := 1) rfl (show (1 : Int32).toInt = 1 by decide) h.1
        replace h := h.2 _ ex8
        refine g_c [.int ((s4.1 7) + 1), .ref 217] xo_iadd rfl rfl ?_
        refine g_ial rfl rfl (i_in (x := ((s4.1 7) + 1)) rfl h.1) ?_
        change Go _ _ _ _ _ _ [.int (s4.2.1 217 ((s4.1 7) + 1).toInt.toNat)] _ _
        replace h := h.2
        refine g_c [.int 91, .int (s4.2.1 217 ((s4.1 7) + 1).toInt.toNat)] (xo_push (.int 91)) rfl rfl ?_
        refine g_brN rfl rfl ⟨fun hc => ?_, fun hc => ?_⟩
        · replace h := h.1 (fun q => hc ((i_eq (x := s4.2.1 217 ((s4.1 7) + 1).toInt.toNat) (y := 91) rfl (show (91 : Int32).toInt = 91 by decide)).mpr q))
          exact k_175_36  h
        · replace h := h.2 ((i_eq (x := s4.2.1 217 ((s4.1 7) + 1).toInt.toNat) (y := 91) rfl (show (91 : Int32).toInt = 91 by decide)).mp hc)
          exact k_175_34  h
theorem t_175 {d : Nat}  {s : yS} {P : Option Value → yS → Prop} (h : w_175_0 (Tot d)  s P) : Tot (d + 1) 175 [.ref 213] s P := tot_of (E := xE_175) (ml := 5) (ret := some .int) rfl rfl rfl (k_175_0 h)
/-! takeList -/
def w_176_22 (T : Nat → List Value → yS → (Option Value → yS → Prop) → Prop) (R7 : Int32 → Int32 → Int32 → yS → Prop) (a1 : Int32) (a2 : Int32) (a3 : Int32) (s : yS) (P : Option Value → yS → Prop) : Prop :=
  T 175 [.ref 213] s (fun v2 s1 => ∃ x3, v2 = some (.int x3) ∧ ((0 ≤ a2.toInt ∧ a2.toInt < 12006) ∧ (∀ s4, s4 = sa s1 225 a2.toInt.toNat x3 → (-2147483648 ≤ a3.toInt + 1 ∧ a3.toInt + 1 ≤ 2147483647) ∧ (∀ x5 : Int32, x5.toInt = a3.toInt + 1 → R7 a1 x3 x5  s4))))
set_option maxRecDepth 20000 in
theorem k_176_22 {d : Nat} {R7 : Int32 → Int32 → Int32 → yS → Prop} {a1 : Int32} {a2 : Int32} {a3 : Int32} {s : yS} {P : Option Value → yS → Prop} (r7 : ∀ a1 a2 a3 s, R7 a1 a2 a3 s → Go d 5 (some .int) xE_176 (xE_176.drop 7) [.ref 213, .int a1, .int a2, .int a3, .null, .null] [] s P) (h : w_176_22 (Tot d) R7 a1 a2 a3 s P) : Go d 5 (some .int) xE_176 (xE_176.drop 22) [.ref 213, .int a1, .int a2, .int a3, .null, .null] [] s P := by
  unfold w_176_22 at h
  refine g_ld rfl rfl rfl ?_
  refine g_call [.ref 213] [] rfl rfl rfl (Tot.imp h (fun v2 s1 h => ?_))
  obtain ⟨x3, rfl, h⟩ := h
  change Go _ _ _ _ _ _ [.int x3] _ _
  refine g_st [.ref 213, .int a1, .int a2, .int a3, .int x3, .null] rfl rfl rfl ?_
  refine g_ld rfl rfl rfl ?_
  refine g_get rfl rfl ?_
  change Go _ _ _ _ _ _ [.ref 225] _ _
  refine g_ld rfl rfl rfl ?_
  refine g_ld rfl rfl rfl ?_
  refine g_ias rfl rfl (i_in (x := a2) rfl h.1) ?_
  replace h := h.2
  replace h := h _ rfl
  refine g_ld rfl rfl rfl ?_
  refine g_st [.ref 213, .int a1, .int x3, .int a3, .int x3, .null] rfl rfl rfl ?_
  have ex5 := i_add (x := a3) (y := 1) rfl (show (1 : Int32).toInt = 1 by decide) h.1
  replace h := h.2 _ ex5
  refine g_inc [.ref 213, .int a1, .int x3, .int (a3 + 1), .int x3, .null] rfl rfl rfl rfl ?_
  refine g_go rfl ?_
  refine g_fg 4 ?_
  exact r7 a1 x3 (a3 + 1)  (sa s1 225 a2.toInt.toNat x3) h
def w_176_7 (T : Nat → List Value → yS → (Option Value → yS → Prop) → Prop) (R7 : Int32 → Int32 → Int32 → yS → Prop) (a1 : Int32) (a2 : Int32) (a3 : Int32) (s : yS) (P : Option Value → yS → Prop) : Prop :=
  T 168 [.ref 213, .int 44] s (fun v2 s1 => ∃ x3, v2 = some (.int x3) ∧ ((x3.toInt = 0 → ∀ s4, s4 = sf s1 28 a3 → P (some (.int a1)) s4) ∧ (¬ (x3.toInt = 0) → (¬ (a3.toInt = 6) → w_176_22 T R7 a1 a2 a3  s1 P) ∧ (a3.toInt = 6 → T 166 [.ref 213] s1 (fun v6 s5 => ∃ x7, v6 = some (.int x7) ∧ ((x7.toInt = 0 → w_176_22 T R7 a1 a2 a3  s5 P) ∧ (¬ (x7.toInt = 0) → T 163 [.ref 213, .int 5, .int (s5.1 7)] s5 (fun v9 s8 => v9 = none ∧ (w_176_22 T R7 a1 a2 a3  s8 P)))))))))
set_option maxRecDepth 20000 in
theorem k_176_7 {d : Nat} {R7 : Int32 → Int32 → Int32 → yS → Prop} {a1 : Int32} {a2 : Int32} {a3 : Int32} {s : yS} {P : Option Value → yS → Prop} (r7 : ∀ a1 a2 a3 s, R7 a1 a2 a3 s → Go d 5 (some .int) xE_176 (xE_176.drop 7) [.ref 213, .int a1, .int a2, .int a3, .null, .null] [] s P) (h : w_176_7 (Tot d) R7 a1 a2 a3 s P) : Go d 5 (some .int) xE_176 (xE_176.drop 7) [.ref 213, .int a1, .int a2, .int a3, .null, .null] [] s P := by
  unfold w_176_7 at h
  refine g_ld rfl rfl rfl ?_
  refine g_c [.int 44, .ref 213] (xo_push (.int 44)) rfl rfl ?_
  refine g_call [.ref 213, .int 44] [] rfl rfl rfl (Tot.imp h (fun v2 s1 h => ?_))
  obtain ⟨x3, rfl, h⟩ := h
  change Go _ _ _ _ _ _ [.int x3] _ _
  refine g_brP rfl rfl ⟨fun hc => ?_, fun hc => ?_⟩
  · replace h := h.1 ((i_eq (x := x3) (y := 0) rfl (show (0 : Int32).toInt = 0 by decide)).mp hc)
    refine g_ld rfl rfl rfl ?_
    refine g_ld rfl rfl rfl ?_
    refine g_put rfl rfl rfl ?_
    replace h := h _ rfl
    refine g_ld rfl rfl rfl ?_
    exact g_retI rfl h
  · replace h := h.2 (fun q => hc ((i_eq (x := x3) (y := 0) rfl (show (0 : Int32).toInt = 0 by decide)).mpr q))
    refine g_ld rfl rfl rfl ?_
    refine g_c [.int 6, .int a3] (xo_push (.int 6)) rfl rfl ?_
    refine g_brN rfl rfl ⟨fun hc => ?_, fun hc => ?_⟩
    · replace h := h.1 (fun q => hc ((i_eq (x := a3) (y := 6) rfl (show (6 : Int32).toInt = 6 by decide)).mpr q))
      exact k_176_22 r7 h
    · replace h := h.2 ((i_eq (x := a3) (y := 6) rfl (show (6 : Int32).toInt = 6 by decide)).mp hc)
      refine g_ld rfl rfl rfl ?_
      refine g_call [.ref 213] [] rfl rfl rfl (Tot.imp h (fun v6 s5 h => ?_))
      obtain ⟨x7, rfl, h⟩ := h
      change Go _ _ _ _ _ _ [.int x7] _ _
      refine g_brP rfl rfl ⟨fun hc => ?_, fun hc => ?_⟩
      · replace h := h.1 ((i_eq (x := x7) (y := 0) rfl (show (0 : Int32).toInt = 0 by decide)).mp hc)
        exact k_176_22 r7 h
      · replace h := h.2 (fun q => hc ((i_eq (x := x7) (y := 0) rfl (show (0 : Int32).toInt = 0 by decide)).mpr q))
        refine g_ld rfl rfl rfl ?_
        refine g_c [.int 5, .ref 213] (xo_push (.int 5)) rfl rfl ?_
        refine g_ld rfl rfl rfl ?_
        refine g_get rfl rfl ?_
        change Go _ _ _ _ _ _ [.int (s5.1 7), .int 5, .ref 213] _ _
        refine g_call [.ref 213, .int 5, .int (s5.1 7)] [] rfl rfl rfl (Tot.imp h (fun v9 s8 h => ?_))
        obtain ⟨rfl, h⟩ := h
        change Go _ _ _ _ _ _ [] _ _
        exact k_176_22 r7 h
def wl_176_7 (T : Nat → List Value → yS → (Option Value → yS → Prop) → Prop)  (a1 : Int32) (a2 : Int32) (a3 : Int32) (s : yS) (P : Option Value → yS → Prop) : Prop :=
  ∃ (I : Int32 → Int32 → Int32 → yS → Prop) (μ : Int32 → Int32 → Int32 → yS → Nat), I a1 a2 a3 s ∧ ∀ (a1 : Int32) (a2 : Int32) (a3 : Int32) (s : yS), I a1 a2 a3 s → w_176_7 T (fun a1' a2' a3' s' => I a1' a2' a3' s' ∧ μ a1' a2' a3' s' < μ a1 a2 a3 s) a1 a2 a3 s P
theorem kl_176_7 {d : Nat}  {a1 : Int32} {a2 : Int32} {a3 : Int32} {s : yS} {P : Option Value → yS → Prop}  (h : wl_176_7 (Tot d)  a1 a2 a3 s P) : Go d 5 (some .int) xE_176 (xE_176.drop 7) [.ref 213, .int a1, .int a2, .int a3, .null, .null] [] s P := by
  obtain ⟨I, μ, h0, h1⟩ := h
  have key : ∀ (n : Nat) (a1 : Int32) (a2 : Int32) (a3 : Int32) (s : yS), μ a1 a2 a3 s = n → I a1 a2 a3 s → Go d 5 (some .int) xE_176 (xE_176.drop 7) [.ref 213, .int a1, .int a2, .int a3, .null, .null] [] s P := by
    intro n
    induction n using Nat.strongRecOn with
    | ind n ih =>
      intro a1 a2 a3 s e hI
      exact k_176_7 (fun a1' a2' a3' s' q => ih _ (by rw [← e]; exact q.2) _ _ _ _ rfl q.1) (h1 a1 a2 a3 s hI)
  exact key _ a1 a2 a3 s rfl h0
def w_176_0 (T : Nat → List Value → yS → (Option Value → yS → Prop) → Prop)   (s : yS) (P : Option Value → yS → Prop) : Prop :=
  T 175 [.ref 213] s (fun v2 s1 => ∃ x3, v2 = some (.int x3) ∧ (wl_176_7 T  x3 x3 1  s1 P))
set_option maxRecDepth 20000 in
theorem k_176_0 {d : Nat}   {s : yS} {P : Option Value → yS → Prop}  (h : w_176_0 (Tot d)   s P) : Go d 5 (some .int) xE_176 (xE_176.drop 0) [.ref 213, .null, .null, .null, .null, .null] [] s P := by
  unfold w_176_0 at h
  refine g_ld rfl rfl rfl ?_
  refine g_call [.ref 213] [] rfl rfl rfl (Tot.imp h (fun v2 s1 h => ?_))
  obtain ⟨x3, rfl, h⟩ := h
  change Go _ _ _ _ _ _ [.int x3] _ _
  refine g_st [.ref 213, .int x3, .null, .null, .null, .null] rfl rfl rfl ?_
  refine g_ld rfl rfl rfl ?_
  refine g_st [.ref 213, .int x3, .int x3, .null, .null, .null] rfl rfl rfl ?_
  refine g_c [.int 1] (xo_push (.int 1)) rfl rfl ?_
  refine g_st [.ref 213, .int x3, .int x3, .int 1, .null, .null] rfl rfl rfl ?_
  exact kl_176_7  h
theorem t_176 {d : Nat}  {s : yS} {P : Option Value → yS → Prop} (h : w_176_0 (Tot d)  s P) : Tot (d + 1) 176 [.ref 213] s P := tot_of (E := xE_176) (ml := 5) (ret := some .int) rfl rfl rfl (k_176_0 h)
/-! behindPoint -/
def w_177_160 (T : Nat → List Value → yS → (Option Value → yS → Prop) → Prop)  (a1 : Int32) (a2 : Int32) (a3 : Int32) (a4 : Int32) (s : yS) (P : Option Value → yS → Prop) : Prop :=
  P (some (.int a4)) s
set_option maxRecDepth 20000 in
theorem k_177_160 {d : Nat}  {a1 : Int32} {a2 : Int32} {a3 : Int32} {a4 : Int32} {s : yS} {P : Option Value → yS → Prop}  (h : w_177_160 (Tot d)  a1 a2 a3 a4 s P) : Go d 6 (some .int) xE_177 (xE_177.drop 160) [.ref 213, .int a1, .int a2, .int a3, .int a4, .null, .null, .null] [] s P := by
  unfold w_177_160 at h
  refine g_ld rfl rfl rfl ?_
  exact g_retI rfl h
def w_177_157 (T : Nat → List Value → yS → (Option Value → yS → Prop) → Prop)  (a1 : Int32) (a2 : Int32) (a3 : Int32) (a4 : Int32) (s : yS) (P : Option Value → yS → Prop) : Prop :=
  T 167 [.ref 213, .int 41] s (fun v2 s1 => v2 = none ∧ (w_177_160 T  a1 a2 a3 a4  s1 P))
set_option maxRecDepth 20000 in
theorem k_177_157 {d : Nat}  {a1 : Int32} {a2 : Int32} {a3 : Int32} {a4 : Int32} {s : yS} {P : Option Value → yS → Prop}  (h : w_177_157 (Tot d)  a1 a2 a3 a4 s P) : Go d 6 (some .int) xE_177 (xE_177.drop 157) [.ref 213, .int a1, .int a2, .int a3, .int a4, .null, .null, .null] [] s P := by
  unfold w_177_157 at h
  refine g_ld rfl rfl rfl ?_
  refine g_c [.int 41, .ref 213] (xo_push (.int 41)) rfl rfl ?_
  refine g_call [.ref 213, .int 41] [] rfl rfl rfl (Tot.imp h (fun v2 s1 h => ?_))
  obtain ⟨rfl, h⟩ := h
  change Go _ _ _ _ _ _ [] _ _
  exact k_177_160  h
def w_177_136 (T : Nat → List Value → yS → (Option Value → yS → Prop) → Prop)  (a1 : Int32) (a2 : Int32) (a3 : Int32) (a4 : Int32) (s : yS) (P : Option Value → yS → Prop) : Prop :=
  T 167 [.ref 213, .int 40] s (fun v2 s1 => v2 = none ∧ (T 164 [.ref 213, .int 41] s1 (fun v4 s3 => ∃ x5, v4 = some (.int x5) ∧ ((¬ (x5.toInt = 0) → w_177_157 T  a1 a2 a3 a4  s3 P) ∧ (x5.toInt = 0 → T 176 [.ref 213] s3 (fun v7 s6 => ∃ x8, v7 = some (.int x8) ∧ ((0 ≤ a4.toInt ∧ a4.toInt < 12006) ∧ (∀ s9, s9 = sa s6 224 a4.toInt.toNat x8 → (0 ≤ a4.toInt ∧ a4.toInt < 12006) ∧ (∀ s10, s10 = sa s9 226 a4.toInt.toNat (s9.1 28) → w_177_157 T  a1 a2 a3 a4  s10 P)))))))))
set_option maxRecDepth 20000 in
theorem k_177_136 {d : Nat}  {a1 : Int32} {a2 : Int32} {a3 : Int32} {a4 : Int32} {s : yS} {P : Option Value → yS → Prop}  (h : w_177_136 (Tot d)  a1 a2 a3 a4 s P) : Go d 6 (some .int) xE_177 (xE_177.drop 136) [.ref 213, .int a1, .int a2, .int a3, .int a4, .null, .null, .null] [] s P := by
  unfold w_177_136 at h
  refine g_ld rfl rfl rfl ?_
  refine g_c [.int 40, .ref 213] (xo_push (.int 40)) rfl rfl ?_
  refine g_call [.ref 213, .int 40] [] rfl rfl rfl (Tot.imp h (fun v2 s1 h => ?_))
  obtain ⟨rfl, h⟩ := h
  change Go _ _ _ _ _ _ [] _ _
  refine g_ld rfl rfl rfl ?_
  refine g_c [.int 41, .ref 213] (xo_push (.int 41)) rfl rfl ?_
  refine g_call [.ref 213, .int 41] [] rfl rfl rfl (Tot.imp h (fun v4 s3 h => ?_))
  obtain ⟨x5, rfl, h⟩ := h
  change Go _ _ _ _ _ _ [.int x5] _ _
  refine g_brN rfl rfl ⟨fun hc => ?_, fun hc => ?_⟩
  · replace h := h.1 (fun q => hc ((i_eq (x := x5) (y := 0) rfl (show (0 : Int32).toInt = 0 by decide)).mpr q))
    exact k_177_157  h
  · replace h := h.2 ((i_eq (x := x5) (y := 0) rfl (show (0 : Int32).toInt = 0 by decide)).mp hc)
    refine g_ld rfl rfl rfl ?_
    refine g_call [.ref 213] [] rfl rfl rfl (Tot.imp h (fun v7 s6 h => ?_))
    obtain ⟨x8, rfl, h⟩ := h
    change Go _ _ _ _ _ _ [.int x8] _ _
    refine g_st [.ref 213, .int a1, .int a2, .int a3, .int a4, .int x8, .null, .null] rfl rfl rfl ?_
    refine g_ld rfl rfl rfl ?_
    refine g_get rfl rfl ?_
    change Go _ _ _ _ _ _ [.ref 224] _ _
    refine g_ld rfl rfl rfl ?_
    refine g_ld rfl rfl rfl ?_
    refine g_ias rfl rfl (i_in (x := a4) rfl h.1) ?_
    replace h := h.2
    replace h := h _ rfl
    refine g_ld rfl rfl rfl ?_
    refine g_get rfl rfl ?_
    change Go _ _ _ _ _ _ [.ref 226] _ _
    refine g_ld rfl rfl rfl ?_
    refine g_ld rfl rfl rfl ?_
    refine g_get rfl rfl ?_
    change Go _ _ _ _ _ _ [.int ((sa s6 224 a4.toInt.toNat x8).1 28), .int a4, .ref 226] _ _
    refine g_ias rfl rfl (i_in (x := a4) rfl h.1) ?_
    replace h := h.2
    replace h := h _ rfl
    refine g_fg 5 ?_
    exact k_177_157  h
def w_177_93 (T : Nat → List Value → yS → (Option Value → yS → Prop) → Prop)  (a1 : Int32) (a2 : Int32) (a3 : Int32) (t1 : Int32) (s : yS) (P : Option Value → yS → Prop) : Prop :=
  T 171 [.ref 213, .int t1] s (fun v2 s1 => ∃ x3, v2 = some (.int x3) ∧ ((0 ≤ x3.toInt ∧ x3.toInt < 12006) ∧ (∀ s4, s4 = sa s1 227 x3.toInt.toNat a1 → (0 ≤ a1.toInt ∧ a1.toInt < 12006) ∧ (∀ s5, s5 = sa s4 228 a1.toInt.toNat x3 → (0 ≤ x3.toInt ∧ x3.toInt < 12006) ∧ (∀ s6, s6 = sa s5 223 x3.toInt.toNat a2 → (-2147483648 ≤ (s6.1 7).toInt + 1 ∧ (s6.1 7).toInt + 1 ≤ 2147483647) ∧ (∀ x7 : Int32, x7.toInt = (s6.1 7).toInt + 1 → ∀ s8, s8 = sf s6 7 x7 → (a3.toInt = 0 → w_177_160 T  a1 a2 a3 x3  s8 P) ∧ (¬ (a3.toInt = 0) → T 164 [.ref 213, .int 91] s8 (fun v10 s9 => ∃ x11, v10 = some (.int x11) ∧ ((x11.toInt = 0 → w_177_136 T  a1 a2 a3 x3  s9 P) ∧ (¬ (x11.toInt = 0) → T 174 [.ref 213] s9 (fun v13 s12 => ∃ x14, v13 = some (.int x14) ∧ ((0 ≤ x3.toInt ∧ x3.toInt < 12006) ∧ (∀ s15, s15 = sa s12 229 x3.toInt.toNat x14 → (0 ≤ x3.toInt ∧ x3.toInt < 12006) ∧ (∀ s16, s16 = sa s15 230 x3.toInt.toNat (s15.1 28) → w_177_136 T  a1 a2 a3 x3  s16 P))))))))))))))
set_option maxRecDepth 20000 in
theorem k_177_93 {d : Nat}  {a1 : Int32} {a2 : Int32} {a3 : Int32} {t1 : Int32} {s : yS} {P : Option Value → yS → Prop}  (h : w_177_93 (Tot d)  a1 a2 a3 t1 s P) : Go d 6 (some .int) xE_177 (xE_177.drop 93) [.ref 213, .int a1, .int a2, .int a3, .null, .null, .null, .null] [.int t1, .ref 213] s P := by
  unfold w_177_93 at h
  refine g_call [.ref 213, .int t1] [] rfl rfl rfl (Tot.imp h (fun v2 s1 h => ?_))
  obtain ⟨x3, rfl, h⟩ := h
  change Go _ _ _ _ _ _ [.int x3] _ _
  refine g_st [.ref 213, .int a1, .int a2, .int a3, .int x3, .null, .null, .null] rfl rfl rfl ?_
  refine g_ld rfl rfl rfl ?_
  refine g_get rfl rfl ?_
  change Go _ _ _ _ _ _ [.ref 227] _ _
  refine g_ld rfl rfl rfl ?_
  refine g_ld rfl rfl rfl ?_
  refine g_ias rfl rfl (i_in (x := x3) rfl h.1) ?_
  replace h := h.2
  replace h := h _ rfl
  refine g_ld rfl rfl rfl ?_
  refine g_get rfl rfl ?_
  change Go _ _ _ _ _ _ [.ref 228] _ _
  refine g_ld rfl rfl rfl ?_
  refine g_ld rfl rfl rfl ?_
  refine g_ias rfl rfl (i_in (x := a1) rfl h.1) ?_
  replace h := h.2
  replace h := h _ rfl
  refine g_ld rfl rfl rfl ?_
  refine g_get rfl rfl ?_
  change Go _ _ _ _ _ _ [.ref 223] _ _
  refine g_ld rfl rfl rfl ?_
  refine g_ld rfl rfl rfl ?_
  refine g_ias rfl rfl (i_in (x := x3) rfl h.1) ?_
  replace h := h.2
  replace h := h _ rfl
  refine g_ld rfl rfl rfl ?_
  refine g_c [.ref 213, .ref 213] xo_dup rfl rfl ?_
  refine g_get rfl rfl ?_
  change Go _ _ _ _ _ _ [.int ((sa (sa (sa s1 227 x3.toInt.toNat a1) 228 a1.toInt.toNat x3) 223 x3.toInt.toNat a2).1 7), .ref 213] _ _
  refine g_c [.int 1, .int ((sa (sa (sa s1 227 x3.toInt.toNat a1) 228 a1.toInt.toNat x3) 223 x3.toInt.toNat a2).1 7), .ref 213] (xo_push (.int 1)) rfl rfl ?_
  have ex7 := i_add (x := (sa (sa (sa s1 227 x3.toInt.toNat a1) 228 a1.toInt.toNat x3) 223 x3.toInt.toNat a2).1 7) (y := 1) rfl (show (1 : Int32).toInt = 1 by decide) h.1
  replace h := h.2 _ ex7
  refine g_c [.int (((sa (sa (sa s1 227 x3.toInt.toNat a1) 228 a1.toInt.toNat x3) 223 x3.toInt.toNat a2).1 7) + 1), .ref 213] xo_iadd rfl rfl ?_
  refine g_put rfl rfl rfl ?_
  replace h := h _ rfl
  refine g_ld rfl rfl rfl ?_
  refine g_brP rfl rfl ⟨fun hc => ?_, fun hc => ?_⟩
  · replace h := h.1 ((i_eq (x := a3) (y := 0) rfl (show (0 : Int32).toInt = 0 by decide)).mp hc)
    exact k_177_160  h
  · replace h := h.2 (fun q => hc ((i_eq (x := a3) (y := 0) rfl (show (0 : Int32).toInt = 0 by decide)).mpr q))
    refine g_ld rfl rfl rfl ?_
    refine g_c [.int 91, .ref 213] (xo_push (.int 91)) rfl rfl ?_
    refine g_call [.ref 213, .int 91] [] rfl rfl rfl (Tot.imp h (fun v10 s9 h => ?_))
    obtain ⟨x11, rfl, h⟩ := h
    change Go _ _ _ _ _ _ [.int x11] _ _
    refine g_brP rfl rfl ⟨fun hc => ?_, fun hc => ?_⟩
    · replace h := h.1 ((i_eq (x := x11) (y := 0) rfl (show (0 : Int32).toInt = 0 by decide)).mp hc)
      exact k_177_136  h
    · replace h := h.2 (fun q => hc ((i_eq (x := x11) (y := 0) rfl (show (0 : Int32).toInt = 0 by decide)).mpr q))
      refine g_ld rfl rfl rfl ?_
      refine g_call [.ref 213] [] rfl rfl rfl (Tot.imp h (fun v13 s12 h => ?_))
      obtain ⟨x14, rfl, h⟩ := h
      change Go _ _ _ _ _ _ [.int x14] _ _
      refine g_st [.ref 213, .int a1, .int a2, .int a3, .int x3, .int x14, .null, .null] rfl rfl rfl ?_
      refine g_ld rfl rfl rfl ?_
      refine g_get rfl rfl ?_
      change Go _ _ _ _ _ _ [.ref 229] _ _
      refine g_ld rfl rfl rfl ?_
      refine g_ld rfl rfl rfl ?_
      refine g_ias rfl rfl (i_in (x := x3) rfl h.1) ?_
      replace h := h.2
      replace h := h _ rfl
      refine g_ld rfl rfl rfl ?_
      refine g_get rfl rfl ?_
      change Go _ _ _ _ _ _ [.ref 230] _ _
      refine g_ld rfl rfl rfl ?_
      refine g_ld rfl rfl rfl ?_
      refine g_get rfl rfl ?_
      change Go _ _ _ _ _ _ [.int ((sa s12 229 x3.toInt.toNat x14).1 28), .int x3, .ref 230] _ _
      refine g_ias rfl rfl (i_in (x := x3) rfl h.1) ?_
      replace h := h.2
      replace h := h _ rfl
      refine g_fg 5 ?_
      exact k_177_136  h
def w_177_86 (T : Nat → List Value → yS → (Option Value → yS → Prop) → Prop)  (a1 : Int32) (a2 : Int32) (t0 : Int32) (s : yS) (P : Option Value → yS → Prop) : Prop :=
  (t0.toInt = 0 → w_177_93 T  a1 a2 t0 3 s P) ∧ (¬ (t0.toInt = 0) → w_177_93 T  a1 a2 t0 4 s P)
set_option maxRecDepth 20000 in
theorem k_177_86 {d : Nat}  {a1 : Int32} {a2 : Int32} {t0 : Int32} {s : yS} {P : Option Value → yS → Prop}  (h : w_177_86 (Tot d)  a1 a2 t0 s P) : Go d 6 (some .int) xE_177 (xE_177.drop 86) [.ref 213, .int a1, .int a2, .null, .null, .null, .null, .null] [.int t0] s P := by
  unfold w_177_86 at h
  refine g_st [.ref 213, .int a1, .int a2, .int t0, .null, .null, .null, .null] rfl rfl rfl ?_
  refine g_ld rfl rfl rfl ?_
  refine g_ld rfl rfl rfl ?_
  refine g_brP rfl rfl ⟨fun hc => ?_, fun hc => ?_⟩
  · replace h := h.1 ((i_eq (x := t0) (y := 0) rfl (show (0 : Int32).toInt = 0 by decide)).mp hc)
    refine g_c [.int 3, .ref 213] (xo_push (.int 3)) rfl rfl ?_
    exact k_177_93  h
  · replace h := h.2 (fun q => hc ((i_eq (x := t0) (y := 0) rfl (show (0 : Int32).toInt = 0 by decide)).mpr q))
    refine g_c [.int 4, .ref 213] (xo_push (.int 4)) rfl rfl ?_
    refine g_go rfl ?_
    exact k_177_93  h
def w_177_85 (T : Nat → List Value → yS → (Option Value → yS → Prop) → Prop)  (a1 : Int32) (a2 : Int32) (s : yS) (P : Option Value → yS → Prop) : Prop :=
  w_177_86 T  a1 a2 0 s P
set_option maxRecDepth 20000 in
theorem k_177_85 {d : Nat}  {a1 : Int32} {a2 : Int32} {s : yS} {P : Option Value → yS → Prop}  (h : w_177_85 (Tot d)  a1 a2 s P) : Go d 6 (some .int) xE_177 (xE_177.drop 85) [.ref 213, .int a1, .int a2, .null, .null, .null, .null, .null] [] s P := by
  unfold w_177_85 at h
  refine g_c [.int 0] (xo_push (.int 0)) rfl rfl ?_
  exact k_177_86  h
def w_177_83 (T : Nat → List Value → yS → (Option Value → yS → Prop) → Prop)  (a1 : Int32) (a2 : Int32) (s : yS) (P : Option Value → yS → Prop) : Prop :=
  w_177_86 T  a1 a2 1 s P
set_option maxRecDepth 20000 in
theorem k_177_83 {d : Nat}  {a1 : Int32} {a2 : Int32} {s : yS} {P : Option Value → yS → Prop}  (h : w_177_83 (Tot d)  a1 a2 s P) : Go d 6 (some .int) xE_177 (xE_177.drop 83) [.ref 213, .int a1, .int a2, .null, .null, .null, .null, .null] [] s P := by
  unfold w_177_83 at h
  refine g_c [.int 1] (xo_push (.int 1)) rfl rfl ?_
  refine g_go rfl ?_
  exact k_177_86  h
def w_177_53 (T : Nat → List Value → yS → (Option Value → yS → Prop) → Prop)  (a1 : Int32) (a2 : Int32) (s : yS) (P : Option Value → yS → Prop) : Prop :=
  (¬ ((s.1 8).toInt = 0) → w_177_85 T  a1 a2  s P) ∧ ((s.1 8).toInt = 0 → (-2147483648 ≤ (s.1 7).toInt + 1 ∧ (s.1 7).toInt + 1 ≤ 2147483647) ∧ (∀ x1 : Int32, x1.toInt = (s.1 7).toInt + 1 → (0 ≤ x1.toInt ∧ x1.toInt < 12006) ∧ ((¬ ((s.2.1 215 x1.toInt.toNat).toInt = 3) → w_177_85 T  a1 a2  s P) ∧ ((s.2.1 215 x1.toInt.toNat).toInt = 3 → (-2147483648 ≤ (s.1 7).toInt + 1 ∧ (s.1 7).toInt + 1 ≤ 2147483647) ∧ (∀ x2 : Int32, x2.toInt = (s.1 7).toInt + 1 → (0 ≤ x2.toInt ∧ x2.toInt < 12006) ∧ (((s.2.1 217 x2.toInt.toNat).toInt = 40 → w_177_83 T  a1 a2  s P) ∧ (¬ ((s.2.1 217 x2.toInt.toNat).toInt = 40) → (-2147483648 ≤ (s.1 7).toInt + 1 ∧ (s.1 7).toInt + 1 ≤ 2147483647) ∧ (∀ x3 : Int32, x3.toInt = (s.1 7).toInt + 1 → (0 ≤ x3.toInt ∧ x3.toInt < 12006) ∧ ((¬ ((s.2.1 217 x3.toInt.toNat).toInt = 91) → w_177_85 T  a1 a2  s P) ∧ ((s.2.1 217 x3.toInt.toNat).toInt = 91 → w_177_83 T  a1 a2  s P))))))))))
set_option maxRecDepth 20000 in
theorem k_177_53 {d : Nat}  {a1 : Int32} {a2 : Int32} {s : yS} {P : Option Value → yS → Prop}  (h : w_177_53 (Tot d)  a1 a2 s P) : Go d 6 (some .int) xE_177 (xE_177.drop 53) [.ref 213, .int a1, .int a2, .null, .null, .null, .null, .null] [] s P := by
  unfold w_177_53 at h
  refine g_ld rfl rfl rfl ?_
  refine g_get rfl rfl ?_
  change Go _ _ _ _ _ _ [.int (s.1 8)] _ _
  refine g_brN rfl rfl ⟨fun hc => ?_, fun hc => ?_⟩
  · replace h := h.1 (fun q => hc ((i_eq (x := s.1 8) (y := 0) rfl (show (0 : Int32).toInt = 0 by decide)).mpr q))
    exact k_177_85  h
  · replace h := h.2 ((i_eq (x := s.1 8) (y := 0) rfl (show (0 : Int32).toInt = 0 by decide)).mp hc)
    refine g_ld rfl rfl rfl ?_
    refine g_get rfl rfl ?_
    change Go _ _ _ _ _ _ [.ref 215] _ _
    refine g_ld rfl rfl rfl ?_
    refine g_get rfl rfl ?_
    change Go _ _ _ _ _ _ [.int (s.1 7), .ref 215] _ _
    refine g_c [.int 1, .int (s.1 7), .ref 215] (xo_push (.int 1)) rfl rfl ?_
    have ex1 := i_add (x := s.1 7) (y := 1) rfl (show (1 : Int32).toInt = 1 by decide) h.1
    replace h := h.2 _ ex1
    refine g_c [.int ((s.1 7) + 1), .ref 215] xo_iadd rfl rfl ?_
    refine g_ial rfl rfl (i_in (x := ((s.1 7) + 1)) rfl h.1) ?_
    change Go _ _ _ _ _ _ [.int (s.2.1 215 ((s.1 7) + 1).toInt.toNat)] _ _
    replace h := h.2
    refine g_c [.int 3, .int (s.2.1 215 ((s.1 7) + 1).toInt.toNat)] (xo_push (.int 3)) rfl rfl ?_
    refine g_brN rfl rfl ⟨fun hc => ?_, fun hc => ?_⟩
    · replace h := h.1 (fun q => hc ((i_eq (x := s.2.1 215 ((s.1 7) + 1).toInt.toNat) (y := 3) rfl (show (3 : Int32).toInt = 3 by decide)).mpr q))
      exact k_177_85  h
    · replace h := h.2 ((i_eq (x := s.2.1 215 ((s.1 7) + 1).toInt.toNat) (y := 3) rfl (show (3 : Int32).toInt = 3 by decide)).mp hc)
      refine g_ld rfl rfl rfl ?_
      refine g_get rfl rfl ?_
      change Go _ _ _ _ _ _ [.ref 217] _ _
      refine g_ld rfl rfl rfl ?_
      refine g_get rfl rfl ?_
      change Go _ _ _ _ _ _ [.int (s.1 7), .ref 217] _ _
      refine g_c [.int 1, .int (s.1 7), .ref 217] (xo_push (.int 1)) rfl rfl ?_
      have ex2 := i_add (x := s.1 7) (y := 1) rfl (show (1 : Int32).toInt = 1 by decide) h.1
      replace h := h.2 _ ex2
      refine g_c [.int ((s.1 7) + 1), .ref 217] xo_iadd rfl rfl ?_
      refine g_ial rfl rfl (i_in (x := ((s.1 7) + 1)) rfl h.1) ?_
      change Go _ _ _ _ _ _ [.int (s.2.1 217 ((s.1 7) + 1).toInt.toNat)] _ _
      replace h := h.2
      refine g_c [.int 40, .int (s.2.1 217 ((s.1 7) + 1).toInt.toNat)] (xo_push (.int 40)) rfl rfl ?_
      refine g_brP rfl rfl ⟨fun hc => ?_, fun hc => ?_⟩
      · replace h := h.1 ((i_eq (x := s.2.1 217 ((s.1 7) + 1).toInt.toNat) (y := 40) rfl (show (40 : Int32).toInt = 40 by decide)).mp hc)
        exact k_177_83  h
      · replace h := h.2 (fun q => hc ((i_eq (x := s.2.1 217 ((s.1 7) + 1).toInt.toNat) (y := 40) rfl (show (40 : Int32).toInt = 40 by decide)).mpr q))
        refine g_ld rfl rfl rfl ?_
        refine g_get rfl rfl ?_
        change Go _ _ _ _ _ _ [.ref 217] _ _
        refine g_ld rfl rfl rfl ?_
        refine g_get rfl rfl ?_
        change Go _ _ _ _ _ _ [.int (s.1 7), .ref 217] _ _
        refine g_c [.int 1, .int (s.1 7), .ref 217] (xo_push (.int 1)) rfl rfl ?_
        have ex3 := i_add (x := s.1 7) (y := 1) rfl (show (1 : Int32).toInt = 1 by decide) h.1
        replace h := h.2 _ ex3
        refine g_c [.int ((s.1 7) + 1), .ref 217] xo_iadd rfl rfl ?_
        refine g_ial rfl rfl (i_in (x := ((s.1 7) + 1)) rfl h.1) ?_
        change Go _ _ _ _ _ _ [.int (s.2.1 217 ((s.1 7) + 1).toInt.toNat)] _ _
        replace h := h.2
        refine g_c [.int 91, .int (s.2.1 217 ((s.1 7) + 1).toInt.toNat)] (xo_push (.int 91)) rfl rfl ?_
        refine g_brN rfl rfl ⟨fun hc => ?_, fun hc => ?_⟩
        · replace h := h.1 (fun q => hc ((i_eq (x := s.2.1 217 ((s.1 7) + 1).toInt.toNat) (y := 91) rfl (show (91 : Int32).toInt = 91 by decide)).mpr q))
          exact k_177_85  h
        · replace h := h.2 ((i_eq (x := s.2.1 217 ((s.1 7) + 1).toInt.toNat) (y := 91) rfl (show (91 : Int32).toInt = 91 by decide)).mp hc)
          exact k_177_83  h
def w_177_0 (T : Nat → List Value → yS → (Option Value → yS → Prop) → Prop)  (a1 : Int32) (s : yS) (P : Option Value → yS → Prop) : Prop :=
  (-2147483648 ≤ (s.1 7).toInt + 1 ∧ (s.1 7).toInt + 1 ≤ 2147483647) ∧ (∀ x1 : Int32, x1.toInt = (s.1 7).toInt + 1 → ∀ s2, s2 = sf s 7 x1 → T 168 [.ref 213, .int 40] s2 (fun v4 s3 => ∃ x5, v4 = some (.int x5) ∧ ((x5.toInt = 0 → T 166 [.ref 213] s3 (fun v7 s6 => ∃ x8, v7 = some (.int x8) ∧ ((¬ (x8.toInt = 0) → w_177_53 T  a1 (s.1 7)  s6 P) ∧ (x8.toInt = 0 → T 163 [.ref 213, .int 1, .int (s6.1 7)] s6 (fun v10 s9 => v10 = none ∧ (w_177_53 T  a1 (s.1 7)  s9 P)))))) ∧ (¬ (x5.toInt = 0) → T 171 [.ref 213, .int 5] s3 (fun v12 s11 => ∃ x13, v12 = some (.int x13) ∧ ((0 ≤ x13.toInt ∧ x13.toInt < 12006) ∧ (∀ s14, s14 = sa s11 227 x13.toInt.toNat a1 → (0 ≤ a1.toInt ∧ a1.toInt < 12006) ∧ (∀ s15, s15 = sa s14 228 a1.toInt.toNat x13 → (0 ≤ x13.toInt ∧ x13.toInt < 12006) ∧ (∀ s16, s16 = sa s15 223 x13.toInt.toNat (s.1 7) → T 173 [.ref 213] s16 (fun v18 s17 => ∃ x19, v18 = some (.int x19) ∧ ((0 ≤ x13.toInt ∧ x13.toInt < 12006) ∧ (∀ s20, s20 = sa s17 229 x13.toInt.toNat x19 → T 167 [.ref 213, .int 41] s20 (fun v22 s21 => v22 = none ∧ (P (some (.int x13)) s21))))))))))))))
set_option maxRecDepth 20000 in
theorem k_177_0 {d : Nat}  {a1 : Int32} {s : yS} {P : Option Value → yS → Prop}  (h : w_177_0 (Tot d)  a1 s P) : Go d 6 (some .int) xE_177 (xE_177.drop 0) [.ref 213, .int a1, .null, .null, .null, .null, .null, .null] [] s P := by
  unfold w_177_0 at h
  refine g_ld rfl rfl rfl ?_
  refine g_get rfl rfl ?_
  change Go _ _ _ _ _ _ [.int (s.1 7)] _ _
  refine g_st [.ref 213, .int a1, .int (s.1 7), .null, .null, .null, .null, .null] rfl rfl rfl ?_
  refine g_ld rfl rfl rfl ?_
  refine g_c [.ref 213, .ref 213] xo_dup rfl rfl ?_
  refine g_get rfl rfl ?_
  change Go _ _ _ _ _ _ [.int (s.1 7), .ref 213] _ _
  refine g_c [.int 1, .int (s.1 7), .ref 213] (xo_push (.int 1)) rfl rfl ?_
  have ex1 := i_add (x := s.1 7) (y := 1) rfl (show (1 : Int32).toInt = 1 by decide) h.1
  replace h := h.2 _ ex1
  refine g_c [.int ((s.1 7) + 1), .ref 213] xo_iadd rfl rfl ?_
  refine g_put rfl rfl rfl ?_
  replace h := h _ rfl
  refine g_ld rfl rfl rfl ?_
  refine g_c [.int 40, .ref 213] (xo_push (.int 40)) rfl rfl ?_
  refine g_call [.ref 213, .int 40] [] rfl rfl rfl (Tot.imp h (fun v4 s3 h => ?_))
  obtain ⟨x5, rfl, h⟩ := h
  change Go _ _ _ _ _ _ [.int x5] _ _
  refine g_brP rfl rfl ⟨fun hc => ?_, fun hc => ?_⟩
  · replace h := h.1 ((i_eq (x := x5) (y := 0) rfl (show (0 : Int32).toInt = 0 by decide)).mp hc)
    refine g_ld rfl rfl rfl ?_
    refine g_call [.ref 213] [] rfl rfl rfl (Tot.imp h (fun v7 s6 h => ?_))
    obtain ⟨x8, rfl, h⟩ := h
    change Go _ _ _ _ _ _ [.int x8] _ _
    refine g_brN rfl rfl ⟨fun hc => ?_, fun hc => ?_⟩
    · replace h := h.1 (fun q => hc ((i_eq (x := x8) (y := 0) rfl (show (0 : Int32).toInt = 0 by decide)).mpr q))
      exact k_177_53  h
    · replace h := h.2 ((i_eq (x := x8) (y := 0) rfl (show (0 : Int32).toInt = 0 by decide)).mp hc)
      refine g_ld rfl rfl rfl ?_
      refine g_c [.int 1, .ref 213] (xo_push (.int 1)) rfl rfl ?_
      refine g_ld rfl rfl rfl ?_
      refine g_get rfl rfl ?_
      change Go _ _ _ _ _ _ [.int (s6.1 7), .int 1, .ref 213] _ _
      refine g_call [.ref 213, .int 1, .int (s6.1 7)] [] rfl rfl rfl (Tot.imp h (fun v10 s9 h => ?_))
      obtain ⟨rfl, h⟩ := h
      change Go _ _ _ _ _ _ [] _ _
      exact k_177_53  h
  · replace h := h.2 (fun q => hc ((i_eq (x := x5) (y := 0) rfl (show (0 : Int32).toInt = 0 by decide)).mpr q))
    refine g_ld rfl rfl rfl ?_
    refine g_c [.int 5, .ref 213] (xo_push (.int 5)) rfl rfl ?_
    refine g_call [.ref 213, .int 5] [] rfl rfl rfl (Tot.imp h (fun v12 s11 h => ?_))
    obtain ⟨x13, rfl, h⟩ := h
    change Go _ _ _ _ _ _ [.int x13] _ _
    refine g_st [.ref 213, .int a1, .int (s.1 7), .int x13, .null, .null, .null, .null] rfl rfl rfl ?_
    refine g_ld rfl rfl rfl ?_
    refine g_get rfl rfl ?_
    change Go _ _ _ _ _ _ [.ref 227] _ _
    refine g_ld rfl rfl rfl ?_
    refine g_ld rfl rfl rfl ?_
    refine g_ias rfl rfl (i_in (x := x13) rfl h.1) ?_
    replace h := h.2
    replace h := h _ rfl
    refine g_ld rfl rfl rfl ?_
    refine g_get rfl rfl ?_
    change Go _ _ _ _ _ _ [.ref 228] _ _
    refine g_ld rfl rfl rfl ?_
    refine g_ld rfl rfl rfl ?_
    refine g_ias rfl rfl (i_in (x := a1) rfl h.1) ?_
    replace h := h.2
    replace h := h _ rfl
    refine g_ld rfl rfl rfl ?_
    refine g_get rfl rfl ?_
    change Go _ _ _ _ _ _ [.ref 223] _ _
    refine g_ld rfl rfl rfl ?_
    refine g_ld rfl rfl rfl ?_
    refine g_ias rfl rfl (i_in (x := x13) rfl h.1) ?_
    replace h := h.2
    replace h := h _ rfl
    refine g_ld rfl rfl rfl ?_
    refine g_call [.ref 213] [] rfl rfl rfl (Tot.imp h (fun v18 s17 h => ?_))
    obtain ⟨x19, rfl, h⟩ := h
    change Go _ _ _ _ _ _ [.int x19] _ _
    refine g_st [.ref 213, .int a1, .int (s.1 7), .int x13, .int x19, .null, .null, .null] rfl rfl rfl ?_
    refine g_ld rfl rfl rfl ?_
    refine g_get rfl rfl ?_
    change Go _ _ _ _ _ _ [.ref 229] _ _
    refine g_ld rfl rfl rfl ?_
    refine g_ld rfl rfl rfl ?_
    refine g_ias rfl rfl (i_in (x := x13) rfl h.1) ?_
    replace h := h.2
    replace h := h _ rfl
    refine g_ld rfl rfl rfl ?_
    refine g_c [.int 41, .ref 213] (xo_push (.int 41)) rfl rfl ?_
    refine g_call [.ref 213, .int 41] [] rfl rfl rfl (Tot.imp h (fun v22 s21 h => ?_))
    obtain ⟨rfl, h⟩ := h
    change Go _ _ _ _ _ _ [] _ _
    refine g_ld rfl rfl rfl ?_
    exact g_retI rfl h
theorem t_177 {d : Nat} {a1 : Int32} {s : yS} {P : Option Value → yS → Prop} (h : w_177_0 (Tot d) a1 s P) : Tot (d + 1) 177 [.ref 213, .int a1] s P := tot_of (E := xE_177) (ml := 6) (ret := some .int) rfl rfl rfl (k_177_0 h)
/-! firstOf -/
def w_178_31 (T : Nat → List Value → yS → (Option Value → yS → Prop) → Prop)  (a1 : Int32) (a2 : Int32) (t0 : Int32) (s : yS) (P : Option Value → yS → Prop) : Prop :=
  P (some (.int t0)) s
set_option maxRecDepth 20000 in
theorem k_178_31 {d : Nat}  {a1 : Int32} {a2 : Int32} {t0 : Int32} {s : yS} {P : Option Value → yS → Prop}  (h : w_178_31 (Tot d)  a1 a2 t0 s P) : Go d 3 (some .int) xE_178 (xE_178.drop 31) [.ref 213, .int a1, .int a2, .null, .null] [.int t0] s P := by
  unfold w_178_31 at h
  exact g_retI rfl h
def w_178_2 (T : Nat → List Value → yS → (Option Value → yS → Prop) → Prop) (R2 : Int32 → Int32 → yS → Prop) (a1 : Int32) (a2 : Int32) (s : yS) (P : Option Value → yS → Prop) : Prop :=
  (0 ≤ a2.toInt ∧ a2.toInt < 12006) ∧ (((s.2.1 227 a2.toInt.toNat).toInt < 0 → (0 ≤ a2.toInt ∧ a2.toInt < 12006) ∧ ((¬ ((s.2.1 221 a2.toInt.toNat).toInt = 2) → (0 ≤ a2.toInt ∧ a2.toInt < 12006) ∧ (w_178_31 T  a1 a2 (s.2.1 222 a2.toInt.toNat) s P)) ∧ ((s.2.1 221 a2.toInt.toNat).toInt = 2 → (0 ≤ a2.toInt ∧ a2.toInt < 12006) ∧ ((0 ≤ (s.2.1 229 a2.toInt.toNat).toInt ∧ (s.2.1 229 a2.toInt.toNat).toInt < 12006) ∧ (w_178_31 T  a1 a2 (s.2.1 222 (s.2.1 229 a2.toInt.toNat).toInt.toNat) s P))))) ∧ (¬ ((s.2.1 227 a2.toInt.toNat).toInt < 0) → (0 ≤ a2.toInt ∧ a2.toInt < 12006) ∧ (R2 a1 (s.2.1 227 a2.toInt.toNat)  s)))
set_option maxRecDepth 20000 in
theorem k_178_2 {d : Nat} {R2 : Int32 → Int32 → yS → Prop} {a1 : Int32} {a2 : Int32} {s : yS} {P : Option Value → yS → Prop} (r2 : ∀ a1 a2 s, R2 a1 a2 s → Go d 3 (some .int) xE_178 (xE_178.drop 2) [.ref 213, .int a1, .int a2, .null, .null] [] s P) (h : w_178_2 (Tot d) R2 a1 a2 s P) : Go d 3 (some .int) xE_178 (xE_178.drop 2) [.ref 213, .int a1, .int a2, .null, .null] [] s P := by
  unfold w_178_2 at h
  refine g_ld rfl rfl rfl ?_
  refine g_get rfl rfl ?_
  change Go _ _ _ _ _ _ [.ref 227] _ _
  refine g_ld rfl rfl rfl ?_
  refine g_ial rfl rfl (i_in (x := a2) rfl h.1) ?_
  change Go _ _ _ _ _ _ [.int (s.2.1 227 a2.toInt.toNat)] _ _
  replace h := h.2
  refine g_brP rfl rfl ⟨fun hc => ?_, fun hc => ?_⟩
  · replace h := h.1 ((i_lt (x := s.2.1 227 a2.toInt.toNat) (y := 0) rfl (show (0 : Int32).toInt = 0 by decide)).mp hc)
    refine g_ld rfl rfl rfl ?_
    refine g_get rfl rfl ?_
    change Go _ _ _ _ _ _ [.ref 221] _ _
    refine g_ld rfl rfl rfl ?_
    refine g_ial rfl rfl (i_in (x := a2) rfl h.1) ?_
    change Go _ _ _ _ _ _ [.int (s.2.1 221 a2.toInt.toNat)] _ _
    replace h := h.2
    refine g_c [.int 2, .int (s.2.1 221 a2.toInt.toNat)] (xo_push (.int 2)) rfl rfl ?_
    refine g_brN rfl rfl ⟨fun hc => ?_, fun hc => ?_⟩
    · replace h := h.1 (fun q => hc ((i_eq (x := s.2.1 221 a2.toInt.toNat) (y := 2) rfl (show (2 : Int32).toInt = 2 by decide)).mpr q))
      refine g_ld rfl rfl rfl ?_
      refine g_get rfl rfl ?_
      change Go _ _ _ _ _ _ [.ref 222] _ _
      refine g_ld rfl rfl rfl ?_
      refine g_ial rfl rfl (i_in (x := a2) rfl h.1) ?_
      change Go _ _ _ _ _ _ [.int (s.2.1 222 a2.toInt.toNat)] _ _
      replace h := h.2
      exact k_178_31  h
    · replace h := h.2 ((i_eq (x := s.2.1 221 a2.toInt.toNat) (y := 2) rfl (show (2 : Int32).toInt = 2 by decide)).mp hc)
      refine g_ld rfl rfl rfl ?_
      refine g_get rfl rfl ?_
      change Go _ _ _ _ _ _ [.ref 222] _ _
      refine g_ld rfl rfl rfl ?_
      refine g_get rfl rfl ?_
      change Go _ _ _ _ _ _ [.ref 229, .ref 222] _ _
      refine g_ld rfl rfl rfl ?_
      refine g_ial rfl rfl (i_in (x := a2) rfl h.1) ?_
      change Go _ _ _ _ _ _ [.int (s.2.1 229 a2.toInt.toNat), .ref 222] _ _
      replace h := h.2
      refine g_ial rfl rfl (i_in (x := s.2.1 229 a2.toInt.toNat) rfl h.1) ?_
      change Go _ _ _ _ _ _ [.int (s.2.1 222 (s.2.1 229 a2.toInt.toNat).toInt.toNat)] _ _
      replace h := h.2
      refine g_go rfl ?_
      exact k_178_31  h
  · replace h := h.2 (fun q => hc ((i_lt (x := s.2.1 227 a2.toInt.toNat) (y := 0) rfl (show (0 : Int32).toInt = 0 by decide)).mpr q))
    refine g_ld rfl rfl rfl ?_
    refine g_get rfl rfl ?_
    change Go _ _ _ _ _ _ [.ref 227] _ _
    refine g_ld rfl rfl rfl ?_
    refine g_ial rfl rfl (i_in (x := a2) rfl h.1) ?_
    change Go _ _ _ _ _ _ [.int (s.2.1 227 a2.toInt.toNat)] _ _
    replace h := h.2
    refine g_st [.ref 213, .int a1, .int (s.2.1 227 a2.toInt.toNat), .null, .null] rfl rfl rfl ?_
    refine g_go rfl ?_
    exact r2 a1 (s.2.1 227 a2.toInt.toNat)  s h
def wl_178_2 (T : Nat → List Value → yS → (Option Value → yS → Prop) → Prop)  (a1 : Int32) (a2 : Int32) (s : yS) (P : Option Value → yS → Prop) : Prop :=
  ∃ (I : Int32 → Int32 → yS → Prop) (μ : Int32 → Int32 → yS → Nat), I a1 a2 s ∧ ∀ (a1 : Int32) (a2 : Int32) (s : yS), I a1 a2 s → w_178_2 T (fun a1' a2' s' => I a1' a2' s' ∧ μ a1' a2' s' < μ a1 a2 s) a1 a2 s P
theorem kl_178_2 {d : Nat}  {a1 : Int32} {a2 : Int32} {s : yS} {P : Option Value → yS → Prop}  (h : wl_178_2 (Tot d)  a1 a2 s P) : Go d 3 (some .int) xE_178 (xE_178.drop 2) [.ref 213, .int a1, .int a2, .null, .null] [] s P := by
  obtain ⟨I, μ, h0, h1⟩ := h
  have key : ∀ (n : Nat) (a1 : Int32) (a2 : Int32) (s : yS), μ a1 a2 s = n → I a1 a2 s → Go d 3 (some .int) xE_178 (xE_178.drop 2) [.ref 213, .int a1, .int a2, .null, .null] [] s P := by
    intro n
    induction n using Nat.strongRecOn with
    | ind n ih =>
      intro a1 a2 s e hI
      exact k_178_2 (fun a1' a2' s' q => ih _ (by rw [← e]; exact q.2) _ _ _ rfl q.1) (h1 a1 a2 s hI)
  exact key _ a1 a2 s rfl h0
def w_178_0 (T : Nat → List Value → yS → (Option Value → yS → Prop) → Prop)  (a1 : Int32) (s : yS) (P : Option Value → yS → Prop) : Prop :=
  wl_178_2 T  a1 a1  s P
set_option maxRecDepth 20000 in
theorem k_178_0 {d : Nat}  {a1 : Int32} {s : yS} {P : Option Value → yS → Prop}  (h : w_178_0 (Tot d)  a1 s P) : Go d 3 (some .int) xE_178 (xE_178.drop 0) [.ref 213, .int a1, .null, .null, .null] [] s P := by
  unfold w_178_0 at h
  refine g_ld rfl rfl rfl ?_
  refine g_st [.ref 213, .int a1, .int a1, .null, .null] rfl rfl rfl ?_
  exact kl_178_2  h
theorem t_178 {d : Nat} {a1 : Int32} {s : yS} {P : Option Value → yS → Prop} (h : w_178_0 (Tot d) a1 s P) : Tot (d + 1) 178 [.ref 213, .int a1] s P := tot_of (E := xE_178) (ml := 3) (ret := some .int) rfl rfl rfl (k_178_0 h)
/-! readAll -/
def w_179_62 (T : Nat → List Value → yS → (Option Value → yS → Prop) → Prop)   (s : yS) (P : Option Value → yS → Prop) : Prop :=
  P none s
set_option maxRecDepth 20000 in
theorem k_179_62 {d : Nat}   {s : yS} {P : Option Value → yS → Prop}  (h : w_179_62 (Tot d)   s P) : Go d 1 (none) xE_179 (xE_179.drop 62) [.ref 213, .null] [] s P := by
  unfold w_179_62 at h
  exact g_ret0 rfl h
def w_179_44 (T : Nat → List Value → yS → (Option Value → yS → Prop) → Prop)  (t1 : Int32) (t2 : Int32) (s : yS) (P : Option Value → yS → Prop) : Prop :=
  (0 ≤ t1.toInt ∧ t1.toInt < 2) ∧ (∀ s1, s1 = sa s 259 t1.toInt.toNat t2 → T 167 [.ref 213, .int 59] s1 (fun v3 s2 => v3 = none ∧ ((¬ ((s2.1 8).toInt = 0) → w_179_62 T    s2 P) ∧ ((s2.1 8).toInt = 0 → (0 ≤ (s2.1 7).toInt ∧ (s2.1 7).toInt < 12006) ∧ (((s2.2.1 215 (s2.1 7).toInt.toNat).toInt = 0 → w_179_62 T    s2 P) ∧ (¬ ((s2.2.1 215 (s2.1 7).toInt.toNat).toInt = 0) → T 163 [.ref 213, .int 1, .int (s2.1 7)] s2 (fun v5 s4 => v5 = none ∧ (w_179_62 T    s4 P))))))))
set_option maxRecDepth 20000 in
theorem k_179_44 {d : Nat}  {t1 : Int32} {t2 : Int32} {s : yS} {P : Option Value → yS → Prop}  (h : w_179_44 (Tot d)  t1 t2 s P) : Go d 1 (none) xE_179 (xE_179.drop 44) [.ref 213, .null] [.int t2, .int t1, .ref 259] s P := by
  unfold w_179_44 at h
  refine g_ias rfl rfl (i_in (x := t1) rfl h.1) ?_
  replace h := h.2
  replace h := h _ rfl
  refine g_ld rfl rfl rfl ?_
  refine g_c [.int 59, .ref 213] (xo_push (.int 59)) rfl rfl ?_
  refine g_call [.ref 213, .int 59] [] rfl rfl rfl (Tot.imp h (fun v3 s2 h => ?_))
  obtain ⟨rfl, h⟩ := h
  change Go _ _ _ _ _ _ [] _ _
  refine g_ld rfl rfl rfl ?_
  refine g_get rfl rfl ?_
  change Go _ _ _ _ _ _ [.int (s2.1 8)] _ _
  refine g_brN rfl rfl ⟨fun hc => ?_, fun hc => ?_⟩
  · replace h := h.1 (fun q => hc ((i_eq (x := s2.1 8) (y := 0) rfl (show (0 : Int32).toInt = 0 by decide)).mpr q))
    exact k_179_62  h
  · replace h := h.2 ((i_eq (x := s2.1 8) (y := 0) rfl (show (0 : Int32).toInt = 0 by decide)).mp hc)
    refine g_ld rfl rfl rfl ?_
    refine g_get rfl rfl ?_
    change Go _ _ _ _ _ _ [.ref 215] _ _
    refine g_ld rfl rfl rfl ?_
    refine g_get rfl rfl ?_
    change Go _ _ _ _ _ _ [.int (s2.1 7), .ref 215] _ _
    refine g_ial rfl rfl (i_in (x := s2.1 7) rfl h.1) ?_
    change Go _ _ _ _ _ _ [.int (s2.2.1 215 (s2.1 7).toInt.toNat)] _ _
    replace h := h.2
    refine g_brP rfl rfl ⟨fun hc => ?_, fun hc => ?_⟩
    · replace h := h.1 ((i_eq (x := s2.2.1 215 (s2.1 7).toInt.toNat) (y := 0) rfl (show (0 : Int32).toInt = 0 by decide)).mp hc)
      exact k_179_62  h
    · replace h := h.2 (fun q => hc ((i_eq (x := s2.2.1 215 (s2.1 7).toInt.toNat) (y := 0) rfl (show (0 : Int32).toInt = 0 by decide)).mpr q))
      refine g_ld rfl rfl rfl ?_
      refine g_c [.int 1, .ref 213] (xo_push (.int 1)) rfl rfl ?_
      refine g_ld rfl rfl rfl ?_
      refine g_get rfl rfl ?_
      change Go _ _ _ _ _ _ [.int (s2.1 7), .int 1, .ref 213] _ _
      refine g_call [.ref 213, .int 1, .int (s2.1 7)] [] rfl rfl rfl (Tot.imp h (fun v5 s4 h => ?_))
      obtain ⟨rfl, h⟩ := h
      change Go _ _ _ _ _ _ [] _ _
      exact k_179_62  h
def w_179_27 (T : Nat → List Value → yS → (Option Value → yS → Prop) → Prop)   (s : yS) (P : Option Value → yS → Prop) : Prop :=
  T 169 [.ref 213, .int 5] s (fun v2 s1 => v2 = none ∧ (∀ s3, s3 = sf s1 27 0 → (¬ ((s3.1 8).toInt = 0) → w_179_44 T   (s3.1 30) (-1) s3 P) ∧ ((s3.1 8).toInt = 0 → T 175 [.ref 213] s3 (fun v5 s4 => ∃ x6, v5 = some (.int x6) ∧ (w_179_44 T   (s3.1 30) x6 s4 P)))))
set_option maxRecDepth 20000 in
theorem k_179_27 {d : Nat}   {s : yS} {P : Option Value → yS → Prop}  (h : w_179_27 (Tot d)   s P) : Go d 1 (none) xE_179 (xE_179.drop 27) [.ref 213, .null] [] s P := by
  unfold w_179_27 at h
  refine g_ld rfl rfl rfl ?_
  refine g_c [.int 5, .ref 213] (xo_push (.int 5)) rfl rfl ?_
  refine g_call [.ref 213, .int 5] [] rfl rfl rfl (Tot.imp h (fun v2 s1 h => ?_))
  obtain ⟨rfl, h⟩ := h
  change Go _ _ _ _ _ _ [] _ _
  refine g_ld rfl rfl rfl ?_
  refine g_c [.int 0, .ref 213] (xo_push (.int 0)) rfl rfl ?_
  refine g_put rfl rfl rfl ?_
  replace h := h _ rfl
  refine g_ld rfl rfl rfl ?_
  refine g_get rfl rfl ?_
  change Go _ _ _ _ _ _ [.ref 259] _ _
  refine g_ld rfl rfl rfl ?_
  refine g_get rfl rfl ?_
  change Go _ _ _ _ _ _ [.int ((sf s1 27 0).1 30), .ref 259] _ _
  refine g_ld rfl rfl rfl ?_
  refine g_get rfl rfl ?_
  change Go _ _ _ _ _ _ [.int ((sf s1 27 0).1 8), .int ((sf s1 27 0).1 30), .ref 259] _ _
  refine g_brN rfl rfl ⟨fun hc => ?_, fun hc => ?_⟩
  · replace h := h.1 (fun q => hc ((i_eq (x := (sf s1 27 0).1 8) (y := 0) rfl (show (0 : Int32).toInt = 0 by decide)).mpr q))
    refine g_c [.int (-1), .int ((sf s1 27 0).1 30), .ref 259] (xo_push (.int (-1))) rfl rfl ?_
    exact k_179_44  h
  · replace h := h.2 ((i_eq (x := (sf s1 27 0).1 8) (y := 0) rfl (show (0 : Int32).toInt = 0 by decide)).mp hc)
    refine g_ld rfl rfl rfl ?_
    refine g_call [.ref 213] [.int ((sf s1 27 0).1 30), .ref 259] rfl rfl rfl (Tot.imp h (fun v5 s4 h => ?_))
    obtain ⟨x6, rfl, h⟩ := h
    change Go _ _ _ _ _ _ [.int x6, .int ((sf s1 27 0).1 30), .ref 259] _ _
    refine g_go rfl ?_
    exact k_179_44  h
def w_179_0 (T : Nat → List Value → yS → (Option Value → yS → Prop) → Prop) (R0 : yS → Prop)  (s : yS) (P : Option Value → yS → Prop) : Prop :=
  (¬ ((s.1 8).toInt = 0) → w_179_27 T    s P) ∧ ((s.1 8).toInt = 0 → T 165 [.ref 213, .int 5] s (fun v2 s1 => ∃ x3, v2 = some (.int x3) ∧ ((¬ (x3.toInt = 0) → w_179_27 T    s1 P) ∧ (x3.toInt = 0 → T 165 [.ref 213, .int 0] s1 (fun v5 s4 => ∃ x6, v5 = some (.int x6) ∧ ((x6.toInt = 0 → T 165 [.ref 213, .int 3] s4 (fun v8 s7 => ∃ x9, v8 = some (.int x9) ∧ ((x9.toInt = 0 → T 163 [.ref 213, .int 1, .int (s7.1 7)] s7 (fun v11 s10 => v11 = none ∧ (R0   s10))) ∧ (¬ (x9.toInt = 0) → T 184 [.ref 213] s7 (fun v13 s12 => v13 = none ∧ (R0   s12)))))) ∧ (¬ (x6.toInt = 0) → T 180 [.ref 213] s4 (fun v15 s14 => v15 = none ∧ (R0   s14)))))))))
set_option maxRecDepth 20000 in
theorem k_179_0 {d : Nat} {R0 : yS → Prop}  {s : yS} {P : Option Value → yS → Prop} (r0 : ∀  s, R0  s → Go d 1 (none) xE_179 (xE_179.drop 0) [.ref 213, .null] [] s P) (h : w_179_0 (Tot d) R0  s P) : Go d 1 (none) xE_179 (xE_179.drop 0) [.ref 213, .null] [] s P := by
  unfold w_179_0 at h
  refine g_ld rfl rfl rfl ?_
  refine g_get rfl rfl ?_
  change Go _ _ _ _ _ _ [.int (s.1 8)] _ _
  refine g_brN rfl rfl ⟨fun hc => ?_, fun hc => ?_⟩
  · replace h := h.1 (fun q => hc ((i_eq (x := s.1 8) (y := 0) rfl (show (0 : Int32).toInt = 0 by decide)).mpr q))
    exact k_179_27  h
  · replace h := h.2 ((i_eq (x := s.1 8) (y := 0) rfl (show (0 : Int32).toInt = 0 by decide)).mp hc)
    refine g_ld rfl rfl rfl ?_
    refine g_c [.int 5, .ref 213] (xo_push (.int 5)) rfl rfl ?_
    refine g_call [.ref 213, .int 5] [] rfl rfl rfl (Tot.imp h (fun v2 s1 h => ?_))
    obtain ⟨x3, rfl, h⟩ := h
    change Go _ _ _ _ _ _ [.int x3] _ _
    refine g_brN rfl rfl ⟨fun hc => ?_, fun hc => ?_⟩
    · replace h := h.1 (fun q => hc ((i_eq (x := x3) (y := 0) rfl (show (0 : Int32).toInt = 0 by decide)).mpr q))
      exact k_179_27  h
    · replace h := h.2 ((i_eq (x := x3) (y := 0) rfl (show (0 : Int32).toInt = 0 by decide)).mp hc)
      refine g_ld rfl rfl rfl ?_
      refine g_c [.int 0, .ref 213] (xo_push (.int 0)) rfl rfl ?_
      refine g_call [.ref 213, .int 0] [] rfl rfl rfl (Tot.imp h (fun v5 s4 h => ?_))
      obtain ⟨x6, rfl, h⟩ := h
      change Go _ _ _ _ _ _ [.int x6] _ _
      refine g_brP rfl rfl ⟨fun hc => ?_, fun hc => ?_⟩
      · replace h := h.1 ((i_eq (x := x6) (y := 0) rfl (show (0 : Int32).toInt = 0 by decide)).mp hc)
        refine g_ld rfl rfl rfl ?_
        refine g_c [.int 3, .ref 213] (xo_push (.int 3)) rfl rfl ?_
        refine g_call [.ref 213, .int 3] [] rfl rfl rfl (Tot.imp h (fun v8 s7 h => ?_))
        obtain ⟨x9, rfl, h⟩ := h
        change Go _ _ _ _ _ _ [.int x9] _ _
        refine g_brP rfl rfl ⟨fun hc => ?_, fun hc => ?_⟩
        · replace h := h.1 ((i_eq (x := x9) (y := 0) rfl (show (0 : Int32).toInt = 0 by decide)).mp hc)
          refine g_ld rfl rfl rfl ?_
          refine g_c [.int 1, .ref 213] (xo_push (.int 1)) rfl rfl ?_
          refine g_ld rfl rfl rfl ?_
          refine g_get rfl rfl ?_
          change Go _ _ _ _ _ _ [.int (s7.1 7), .int 1, .ref 213] _ _
          refine g_call [.ref 213, .int 1, .int (s7.1 7)] [] rfl rfl rfl (Tot.imp h (fun v11 s10 h => ?_))
          obtain ⟨rfl, h⟩ := h
          change Go _ _ _ _ _ _ [] _ _
          refine g_go rfl ?_
          exact r0   s10 h
        · replace h := h.2 (fun q => hc ((i_eq (x := x9) (y := 0) rfl (show (0 : Int32).toInt = 0 by decide)).mpr q))
          refine g_ld rfl rfl rfl ?_
          refine g_call [.ref 213] [] rfl rfl rfl (Tot.imp h (fun v13 s12 h => ?_))
          obtain ⟨rfl, h⟩ := h
          change Go _ _ _ _ _ _ [] _ _
          refine g_go rfl ?_
          exact r0   s12 h
      · replace h := h.2 (fun q => hc ((i_eq (x := x6) (y := 0) rfl (show (0 : Int32).toInt = 0 by decide)).mpr q))
        refine g_ld rfl rfl rfl ?_
        refine g_call [.ref 213] [] rfl rfl rfl (Tot.imp h (fun v15 s14 h => ?_))
        obtain ⟨rfl, h⟩ := h
        change Go _ _ _ _ _ _ [] _ _
        refine g_go rfl ?_
        exact r0   s14 h
def wl_179_0 (T : Nat → List Value → yS → (Option Value → yS → Prop) → Prop)   (s : yS) (P : Option Value → yS → Prop) : Prop :=
  ∃ (I : yS → Prop) (μ : yS → Nat), I  s ∧ ∀  (s : yS), I  s → w_179_0 T (fun  s' => I  s' ∧ μ  s' < μ  s)  s P
theorem kl_179_0 {d : Nat}   {s : yS} {P : Option Value → yS → Prop}  (h : wl_179_0 (Tot d)   s P) : Go d 1 (none) xE_179 (xE_179.drop 0) [.ref 213, .null] [] s P := by
  obtain ⟨I, μ, h0, h1⟩ := h
  have key : ∀ (n : Nat)  (s : yS), μ  s = n → I  s → Go d 1 (none) xE_179 (xE_179.drop 0) [.ref 213, .null] [] s P := by
    intro n
    induction n using Nat.strongRecOn with
    | ind n ih =>
      intro  s e hI
      exact k_179_0 (fun s' q => ih _ (by rw [← e]; exact q.2) _ rfl q.1) (h1  s hI)
  exact key _  s rfl h0
theorem t_179 {d : Nat}  {s : yS} {P : Option Value → yS → Prop} (h : wl_179_0 (Tot d)  s P) : Tot (d + 1) 179 [.ref 213] s P := tot_of (E := xE_179) (ml := 1) (ret := none) rfl rfl rfl (kl_179_0 h)
/-! readType -/
def w_180_145 (T : Nat → List Value → yS → (Option Value → yS → Prop) → Prop)  (a1 : Int32) (s : yS) (P : Option Value → yS → Prop) : Prop :=
  T 167 [.ref 213, .int 125] s (fun v2 s1 => v2 = none ∧ ((-2147483648 ≤ 84 * (s1.1 30).toInt ∧ 84 * (s1.1 30).toInt ≤ 2147483647) ∧ (∀ x3 : Int32, x3.toInt = 84 * (s1.1 30).toInt → (0 ≤ (s1.1 30).toInt ∧ (s1.1 30).toInt < 2) ∧ ((-2147483648 ≤ x3.toInt + (s1.2.1 263 (s1.1 30).toInt.toNat).toInt ∧ x3.toInt + (s1.2.1 263 (s1.1 30).toInt.toNat).toInt ≤ 2147483647) ∧ (∀ x4 : Int32, x4.toInt = x3.toInt + (s1.2.1 263 (s1.1 30).toInt.toNat).toInt → (0 ≤ (s1.1 30).toInt ∧ (s1.1 30).toInt < 2) ∧ ((0 ≤ x4.toInt ∧ x4.toInt < 168) ∧ (∀ s5, s5 = sa s1 262 x4.toInt.toNat (s1.2.1 233 (s1.1 30).toInt.toNat) → (0 ≤ (s5.1 30).toInt ∧ (s5.1 30).toInt < 2) ∧ ((-2147483648 ≤ (s5.2.1 263 (s5.1 30).toInt.toNat).toInt + 1 ∧ (s5.2.1 263 (s5.1 30).toInt.toNat).toInt + 1 ≤ 2147483647) ∧ (∀ x6 : Int32, x6.toInt = (s5.2.1 263 (s5.1 30).toInt.toNat).toInt + 1 → (0 ≤ (s5.1 30).toInt ∧ (s5.1 30).toInt < 2) ∧ (∀ s7, s7 = sa s5 263 (s5.1 30).toInt.toNat x6 → (0 ≤ (s7.1 30).toInt ∧ (s7.1 30).toInt < 2) ∧ ((-2147483648 ≤ (s7.2.1 233 (s7.1 30).toInt.toNat).toInt + 1 ∧ (s7.2.1 233 (s7.1 30).toInt.toNat).toInt + 1 ≤ 2147483647) ∧ (∀ x8 : Int32, x8.toInt = (s7.2.1 233 (s7.1 30).toInt.toNat).toInt + 1 → (0 ≤ (s7.1 30).toInt ∧ (s7.1 30).toInt < 2) ∧ (∀ s9, s9 = sa s7 233 (s7.1 30).toInt.toNat x8 → P none s9)))))))))))))
set_option maxRecDepth 20000 in
theorem k_180_145 {d : Nat}  {a1 : Int32} {s : yS} {P : Option Value → yS → Prop}  (h : w_180_145 (Tot d)  a1 s P) : Go d 2 (none) xE_180 (xE_180.drop 145) [.ref 213, .int a1, .null] [] s P := by
  unfold w_180_145 at h
  refine g_ld rfl rfl rfl ?_
  refine g_c [.int 125, .ref 213] (xo_push (.int 125)) rfl rfl ?_
  refine g_call [.ref 213, .int 125] [] rfl rfl rfl (Tot.imp h (fun v2 s1 h => ?_))
  obtain ⟨rfl, h⟩ := h
  change Go _ _ _ _ _ _ [] _ _
  refine g_ld rfl rfl rfl ?_
  refine g_get rfl rfl ?_
  change Go _ _ _ _ _ _ [.ref 262] _ _
  refine g_c [.int 84, .ref 262] (xo_push (.int 84)) rfl rfl ?_
  refine g_ld rfl rfl rfl ?_
  refine g_get rfl rfl ?_
  change Go _ _ _ _ _ _ [.int (s1.1 30), .int 84, .ref 262] _ _
  have ex3 := i_mul (x := 84) (y := s1.1 30) (show (84 : Int32).toInt = 84 by decide) rfl h.1
  replace h := h.2 _ ex3
  refine g_c [.int (84 * (s1.1 30)), .ref 262] xo_imul rfl rfl ?_
  refine g_ld rfl rfl rfl ?_
  refine g_get rfl rfl ?_
  change Go _ _ _ _ _ _ [.ref 263, .int (84 * (s1.1 30)), .ref 262] _ _
  refine g_ld rfl rfl rfl ?_
  refine g_get rfl rfl ?_
  change Go _ _ _ _ _ _ [.int (s1.1 30), .ref 263, .int (84 * (s1.1 30)), .ref 262] _ _
  refine g_ial rfl rfl (i_in (x := s1.1 30) rfl h.1) ?_
  change Go _ _ _ _ _ _ [.int (s1.2.1 263 (s1.1 30).toInt.toNat), .int (84 * (s1.1 30)), .ref 262] _ _
  replace h := h.2
  have ex4 := i_add (x := (84 * (s1.1 30))) (y := s1.2.1 263 (s1.1 30).toInt.toNat) rfl rfl h.1
  replace h := h.2 _ ex4
  refine g_c [.int ((84 * (s1.1 30)) + (s1.2.1 263 (s1.1 30).toInt.toNat)), .ref 262] xo_iadd rfl rfl ?_
  refine g_ld rfl rfl rfl ?_
  refine g_get rfl rfl ?_
  change Go _ _ _ _ _ _ [.ref 233, .int ((84 * (s1.1 30)) + (s1.2.1 263 (s1.1 30).toInt.toNat)), .ref 262] _ _
  refine g_ld rfl rfl rfl ?_
  refine g_get rfl rfl ?_
  change Go _ _ _ _ _ _ [.int (s1.1 30), .ref 233, .int ((84 * (s1.1 30)) + (s1.2.1 263 (s1.1 30).toInt.toNat)), .ref 262] _ _
  refine g_ial rfl rfl (i_in (x := s1.1 30) rfl h.1) ?_
  change Go _ _ _ _ _ _ [.int (s1.2.1 233 (s1.1 30).toInt.toNat), .int ((84 * (s1.1 30)) + (s1.2.1 263 (s1.1 30).toInt.toNat)), .ref 262] _ _
  replace h := h.2
  refine g_ias rfl rfl (i_in (x := ((84 * (s1.1 30)) + (s1.2.1 263 (s1.1 30).toInt.toNat))) rfl h.1) ?_
  replace h := h.2
  replace h := h _ rfl
  refine g_ld rfl rfl rfl ?_
  refine g_get rfl rfl ?_
  change Go _ _ _ _ _ _ [.ref 263] _ _
  refine g_ld rfl rfl rfl ?_
  refine g_get rfl rfl ?_
  change Go _ _ _ _ _ _ [.int ((sa s1 262 ((84 * (s1.1 30)) + (s1.2.1 263 (s1.1 30).toInt.toNat)).toInt.toNat (s1.2.1 233 (s1.1 30).toInt.toNat)).1 30), .ref 263] _ _
  refine g_c [.int ((sa s1 262 ((84 * (s1.1 30)) + (s1.2.1 263 (s1.1 30).toInt.toNat)).toInt.toNat (s1.2.1 233 (s1.1 30).toInt.toNat)).1 30), .ref 263, .int ((sa s1 262 ((84 * (s1.1 30)) + (s1.2.1 263 (s1.1 30).toInt.toNat)).toInt.toNat (s1.2.1 233 (s1.1 30).toInt.toNat)).1 30), .ref 263] xo_dup2 rfl rfl ?_
  refine g_ial rfl rfl (i_in (x := (sa s1 262 ((84 * (s1.1 30)) + (s1.2.1 263 (s1.1 30).toInt.toNat)).toInt.toNat (s1.2.1 233 (s1.1 30).toInt.toNat)).1 30) rfl h.1) ?_
  change Go _ _ _ _ _ _ [.int ((sa s1 262 ((84 * (s1.1 30)) + (s1.2.1 263 (s1.1 30).toInt.toNat)).toInt.toNat (s1.2.1 233 (s1.1 30).toInt.toNat)).2.1 263 ((sa s1 262 ((84 * (s1.1 30)) + (s1.2.1 263 (s1.1 30).toInt.toNat)).toInt.toNat (s1.2.1 233 (s1.1 30).toInt.toNat)).1 30).toInt.toNat), .int ((sa s1 262 ((84 * (s1.1 30)) + (s1.2.1 263 (s1.1 30).toInt.toNat)).toInt.toNat (s1.2.1 233 (s1.1 30).toInt.toNat)).1 30), .ref 263] _ _
  replace h := h.2
  refine g_c [.int 1, .int ((sa s1 262 ((84 * (s1.1 30)) + (s1.2.1 263 (s1.1 30).toInt.toNat)).toInt.toNat (s1.2.1 233 (s1.1 30).toInt.toNat)).2.1 263 ((sa s1 262 ((84 * (s1.1 30)) + (s1.2.1 263 (s1.1 30).toInt.toNat)).toInt.toNat (s1.2.1 233 (s1.1 30).toInt.toNat)).1 30).toInt.toNat), .int ((sa s1 262 ((84 * (s1.1 30)) + (s1.2.1 263 (s1.1 30).toInt.toNat)).toInt.toNat (s1.2.1 233 (s1.1 30).toInt.toNat)).1 30), .ref 263] (xo_push (.int 1)) rfl rfl ?_
  have ex6 := i_add (x := (sa s1 262 ((84 * (s1.1 30)) + (s1.2.1 263 (s1.1 30).toInt.toNat)).toInt.toNat (s1.2.1 233 (s1.1 30).toInt.toNat)).2.1 263 ((sa s1 262 ((84 * (s1.1 30)) + (s1.2.1 263 (s1.1 30).toInt.toNat)).toInt.toNat (s1.2.1 233 (s1.1 30).toInt.toNat)).1 30).toInt.toNat) (y := 1) rfl (show (1 : Int32).toInt = 1 by decide) h.1
  replace h := h.2 _ ex6
  refine g_c [.int (((sa s1 262 ((84 * (s1.1 30)) + (s1.2.1 263 (s1.1 30).toInt.toNat)).toInt.toNat (s1.2.1 233 (s1.1 30).toInt.toNat)).2.1 263 ((sa s1 262 ((84 * (s1.1 30)) + (s1.2.1 263 (s1.1 30).toInt.toNat)).toInt.toNat (s1.2.1 233 (s1.1 30).toInt.toNat)).1 30).toInt.toNat) + 1), .int ((sa s1 262 ((84 * (s1.1 30)) + (s1.2.1 263 (s1.1 30).toInt.toNat)).toInt.toNat (s1.2.1 233 (s1.1 30).toInt.toNat)).1 30), .ref 263] xo_iadd rfl rfl ?_
  refine g_ias rfl rfl (i_in (x := (sa s1 262 ((84 * (s1.1 30)) + (s1.2.1 263 (s1.1 30).toInt.toNat)).toInt.toNat (s1.2.1 233 (s1.1 30).toInt.toNat)).1 30) rfl h.1) ?_
  replace h := h.2
  replace h := h _ rfl
  refine g_ld rfl rfl rfl ?_
  refine g_get rfl rfl ?_
  change Go _ _ _ _ _ _ [.ref 233] _ _
  refine g_ld rfl rfl rfl ?_
  refine g_get rfl rfl ?_
  change Go _ _ _ _ _ _ [.int ((sa (sa s1 262 ((84 * (s1.1 30)) + (s1.2.1 263 (s1.1 30).toInt.toNat)).toInt.toNat (s1.2.1 233 (s1.1 30).toInt.toNat)) 263 ((sa s1 262 ((84 * (s1.1 30)) + (s1.2.1 263 (s1.1 30).toInt.toNat)).toInt.toNat (s1.2.1 233 (s1.1 30).toInt.toNat)).1 30).toInt.toNat (((sa s1 262 ((84 * (s1.1 30)) + (s1.2.1 263 (s1.1 30).toInt.toNat)).toInt.toNat (s1.2.1 233 (s1.1 30).toInt.toNat)).2.1 263 ((sa s1 262 ((84 * (s1.1 30)) + (s1.2.1 263 (s1.1 30).toInt.toNat)).toInt.toNat (s1.2.1 233 (s1.1 30).toInt.toNat)).1 30).toInt.toNat) + 1)).1 30), .ref 233] _ _
  refine g_c [.int ((sa (sa s1 262 ((84 * (s1.1 30)) + (s1.2.1 263 (s1.1 30).toInt.toNat)).toInt.toNat (s1.2.1 233 (s1.1 30).toInt.toNat)) 263 ((sa s1 262 ((84 * (s1.1 30)) + (s1.2.1 263 (s1.1 30).toInt.toNat)).toInt.toNat (s1.2.1 233 (s1.1 30).toInt.toNat)).1 30).toInt.toNat (((sa s1 262 ((84 * (s1.1 30)) + (s1.2.1 263 (s1.1 30).toInt.toNat)).toInt.toNat (s1.2.1 233 (s1.1 30).toInt.toNat)).2.1 263 ((sa s1 262 ((84 * (s1.1 30)) + (s1.2.1 263 (s1.1 30).toInt.toNat)).toInt.toNat (s1.2.1 233 (s1.1 30).toInt.toNat)).1 30).toInt.toNat) + 1)).1 30), .ref 233, .int ((sa (sa s1 262 ((84 * (s1.1 30)) + (s1.2.1 263 (s1.1 30).toInt.toNat)).toInt.toNat (s1.2.1 233 (s1.1 30).toInt.toNat)) 263 ((sa s1 262 ((84 * (s1.1 30)) + (s1.2.1 263 (s1.1 30).toInt.toNat)).toInt.toNat (s1.2.1 233 (s1.1 30).toInt.toNat)).1 30).toInt.toNat (((sa s1 262 ((84 * (s1.1 30)) + (s1.2.1 263 (s1.1 30).toInt.toNat)).toInt.toNat (s1.2.1 233 (s1.1 30).toInt.toNat)).2.1 263 ((sa s1 262 ((84 * (s1.1 30)) + (s1.2.1 263 (s1.1 30).toInt.toNat)).toInt.toNat (s1.2.1 233 (s1.1 30).toInt.toNat)).1 30).toInt.toNat) + 1)).1 30), .ref 233] xo_dup2 rfl rfl ?_
  refine g_ial rfl rfl (i_in (x := (sa (sa s1 262 ((84 * (s1.1 30)) + (s1.2.1 263 (s1.1 30).toInt.toNat)).toInt.toNat (s1.2.1 233 (s1.1 30).toInt.toNat)) 263 ((sa s1 262 ((84 * (s1.1 30)) + (s1.2.1 263 (s1.1 30).toInt.toNat)).toInt.toNat (s1.2.1 233 (s1.1 30).toInt.toNat)).1 30).toInt.toNat (((sa s1 262 ((84 * (s1.1 30)) + (s1.2.1 263 (s1.1 30).toInt.toNat)).toInt.toNat (s1.2.1 233 (s1.1 30).toInt.toNat)).2.1 263 ((sa s1 262 ((84 * (s1.1 30)) + (s1.2.1 263 (s1.1 30).toInt.toNat)).toInt.toNat (s1.2.1 233 (s1.1 30).toInt.toNat)).1 30).toInt.toNat) + 1)).1 30) rfl h.1) ?_
  change Go _ _ _ _ _ _ [.int ((sa (sa s1 262 ((84 * (s1.1 30)) + (s1.2.1 263 (s1.1 30).toInt.toNat)).toInt.toNat (s1.2.1 233 (s1.1 30).toInt.toNat)) 263 ((sa s1 262 ((84 * (s1.1 30)) + (s1.2.1 263 (s1.1 30).toInt.toNat)).toInt.toNat (s1.2.1 233 (s1.1 30).toInt.toNat)).1 30).toInt.toNat (((sa s1 262 ((84 * (s1.1 30)) + (s1.2.1 263 (s1.1 30).toInt.toNat)).toInt.toNat (s1.2.1 233 (s1.1 30).toInt.toNat)).2.1 263 ((sa s1 262 ((84 * (s1.1 30)) + (s1.2.1 263 (s1.1 30).toInt.toNat)).toInt.toNat (s1.2.1 233 (s1.1 30).toInt.toNat)).1 30).toInt.toNat) + 1)).2.1 233 ((sa (sa s1 262 ((84 * (s1.1 30)) + (s1.2.1 263 (s1.1 30).toInt.toNat)).toInt.toNat (s1.2.1 233 (s1.1 30).toInt.toNat)) 263 ((sa s1 262 ((84 * (s1.1 30)) + (s1.2.1 263 (s1.1 30).toInt.toNat)).toInt.toNat (s1.2.1 233 (s1.1 30).toInt.toNat)).1 30).toInt.toNat (((sa s1 262 ((84 * (s1.1 30)) + (s1.2.1 263 (s1.1 30).toInt.toNat)).toInt.toNat (s1.2.1 233 (s1.1 30).toInt.toNat)).2.1 263 ((sa s1 262 ((84 * (s1.1 30)) + (s1.2.1 263 (s1.1 30).toInt.toNat)).toInt.toNat (s1.2.1 233 (s1.1 30).toInt.toNat)).1 30).toInt.toNat) + 1)).1 30).toInt.toNat), .int ((sa (sa s1 262 ((84 * (s1.1 30)) + (s1.2.1 263 (s1.1 30).toInt.toNat)).toInt.toNat (s1.2.1 233 (s1.1 30).toInt.toNat)) 263 ((sa s1 262 ((84 * (s1.1 30)) + (s1.2.1 263 (s1.1 30).toInt.toNat)).toInt.toNat (s1.2.1 233 (s1.1 30).toInt.toNat)).1 30).toInt.toNat (((sa s1 262 ((84 * (s1.1 30)) + (s1.2.1 263 (s1.1 30).toInt.toNat)).toInt.toNat (s1.2.1 233 (s1.1 30).toInt.toNat)).2.1 263 ((sa s1 262 ((84 * (s1.1 30)) + (s1.2.1 263 (s1.1 30).toInt.toNat)).toInt.toNat (s1.2.1 233 (s1.1 30).toInt.toNat)).1 30).toInt.toNat) + 1)).1 30), .ref 233] _ _
  replace h := h.2
  refine g_c [.int 1, .int ((sa (sa s1 262 ((84 * (s1.1 30)) + (s1.2.1 263 (s1.1 30).toInt.toNat)).toInt.toNat (s1.2.1 233 (s1.1 30).toInt.toNat)) 263 ((sa s1 262 ((84 * (s1.1 30)) + (s1.2.1 263 (s1.1 30).toInt.toNat)).toInt.toNat (s1.2.1 233 (s1.1 30).toInt.toNat)).1 30).toInt.toNat (((sa s1 262 ((84 * (s1.1 30)) + (s1.2.1 263 (s1.1 30).toInt.toNat)).toInt.toNat (s1.2.1 233 (s1.1 30).toInt.toNat)).2.1 263 ((sa s1 262 ((84 * (s1.1 30)) + (s1.2.1 263 (s1.1 30).toInt.toNat)).toInt.toNat (s1.2.1 233 (s1.1 30).toInt.toNat)).1 30).toInt.toNat) + 1)).2.1 233 ((sa (sa s1 262 ((84 * (s1.1 30)) + (s1.2.1 263 (s1.1 30).toInt.toNat)).toInt.toNat (s1.2.1 233 (s1.1 30).toInt.toNat)) 263 ((sa s1 262 ((84 * (s1.1 30)) + (s1.2.1 263 (s1.1 30).toInt.toNat)).toInt.toNat (s1.2.1 233 (s1.1 30).toInt.toNat)).1 30).toInt.toNat (((sa s1 262 ((84 * (s1.1 30)) + (s1.2.1 263 (s1.1 30).toInt.toNat)).toInt.toNat (s1.2.1 233 (s1.1 30).toInt.toNat)).2.1 263 ((sa s1 262 ((84 * (s1.1 30)) + (s1.2.1 263 (s1.1 30).toInt.toNat)).toInt.toNat (s1.2.1 233 (s1.1 30).toInt.toNat)).1 30).toInt.toNat) + 1)).1 30).toInt.toNat), .int ((sa (sa s1 262 ((84 * (s1.1 30)) + (s1.2.1 263 (s1.1 30).toInt.toNat)).toInt.toNat (s1.2.1 233 (s1.1 30).toInt.toNat)) 263 ((sa s1 262 ((84 * (s1.1 30)) + (s1.2.1 263 (s1.1 30).toInt.toNat)).toInt.toNat (s1.2.1 233 (s1.1 30).toInt.toNat)).1 30).toInt.toNat (((sa s1 262 ((84 * (s1.1 30)) + (s1.2.1 263 (s1.1 30).toInt.toNat)).toInt.toNat (s1.2.1 233 (s1.1 30).toInt.toNat)).2.1 263 ((sa s1 262 ((84 * (s1.1 30)) + (s1.2.1 263 (s1.1 30).toInt.toNat)).toInt.toNat (s1.2.1 233 (s1.1 30).toInt.toNat)).1 30).toInt.toNat) + 1)).1 30), .ref 233] (xo_push (.int 1)) rfl rfl ?_
  have ex8 := i_add (x := (sa (sa s1 262 ((84 * (s1.1 30)) + (s1.2.1 263 (s1.1 30).toInt.toNat)).toInt.toNat (s1.2.1 233 (s1.1 30).toInt.toNat)) 263 ((sa s1 262 ((84 * (s1.1 30)) + (s1.2.1 263 (s1.1 30).toInt.toNat)).toInt.toNat (s1.2.1 233 (s1.1 30).toInt.toNat)).1 30).toInt.toNat (((sa s1 262 ((84 * (s1.1 30)) + (s1.2.1 263 (s1.1 30).toInt.toNat)).toInt.toNat (s1.2.1 233 (s1.1 30).toInt.toNat)).2.1 263 ((sa s1 262 ((84 * (s1.1 30)) + (s1.2.1 263 (s1.1 30).toInt.toNat)).toInt.toNat (s1.2.1 233 (s1.1 30).toInt.toNat)).1 30).toInt.toNat) + 1)).2.1 233 ((sa (sa s1 262 ((84 * (s1.1 30)) + (s1.2.1 263 (s1.1 30).toInt.toNat)).toInt.toNat (s1.2.1 233 (s1.1 30).toInt.toNat)) 263 ((sa s1 262 ((84 * (s1.1 30)) + (s1.2.1 263 (s1.1 30).toInt.toNat)).toInt.toNat (s1.2.1 233 (s1.1 30).toInt.toNat)).1 30).toInt.toNat (((sa s1 262 ((84 * (s1.1 30)) + (s1.2.1 263 (s1.1 30).toInt.toNat)).toInt.toNat (s1.2.1 233 (s1.1 30).toInt.toNat)).2.1 263 ((sa s1 262 ((84 * (s1.1 30)) + (s1.2.1 263 (s1.1 30).toInt.toNat)).toInt.toNat (s1.2.1 233 (s1.1 30).toInt.toNat)).1 30).toInt.toNat) + 1)).1 30).toInt.toNat) (y := 1) rfl (show (1 : Int32).toInt = 1 by decide) h.1
  replace h := h.2 _ ex8
  refine g_c [.int (((sa (sa s1 262 ((84 * (s1.1 30)) + (s1.2.1 263 (s1.1 30).toInt.toNat)).toInt.toNat (s1.2.1 233 (s1.1 30).toInt.toNat)) 263 ((sa s1 262 ((84 * (s1.1 30)) + (s1.2.1 263 (s1.1 30).toInt.toNat)).toInt.toNat (s1.2.1 233 (s1.1 30).toInt.toNat)).1 30).toInt.toNat (((sa s1 262 ((84 * (s1.1 30)) + (s1.2.1 263 (s1.1 30).toInt.toNat)).toInt.toNat (s1.2.1 233 (s1.1 30).toInt.toNat)).2.1 263 ((sa s1 262 ((84 * (s1.1 30)) + (s1.2.1 263 (s1.1 30).toInt.toNat)).toInt.toNat (s1.2.1 233 (s1.1 30).toInt.toNat)).1 30).toInt.toNat) + 1)).2.1 233 ((sa (sa s1 262 ((84 * (s1.1 30)) + (s1.2.1 263 (s1.1 30).toInt.toNat)).toInt.toNat (s1.2.1 233 (s1.1 30).toInt.toNat)) 263 ((sa s1 262 ((84 * (s1.1 30)) + (s1.2.1 263 (s1.1 30).toInt.toNat)).toInt.toNat (s1.2.1 233 (s1.1 30).toInt.toNat)).1 30).toInt.toNat (((sa s1 262 ((84 * (s1.1 30)) + (s1.2.1 263 (s1.1 30).toInt.toNat)).toInt.toNat (s1.2.1 233 (s1.1 30).toInt.toNat)).2.1 263 ((sa s1 262 ((84 * (s1.1 30)) + (s1.2.1 263 (s1.1 30).toInt.toNat)).toInt.toNat (s1.2.1 233 (s1.1 30).toInt.toNat)).1 30).toInt.toNat) + 1)).1 30).toInt.toNat) + 1), .int ((sa (sa s1 262 ((84 * (s1.1 30)) + (s1.2.1 263 (s1.1 30).toInt.toNat)).toInt.toNat (s1.2.1 233 (s1.1 30).toInt.toNat)) 263 ((sa s1 262 ((84 * (s1.1 30)) + (s1.2.1 263 (s1.1 30).toInt.toNat)).toInt.toNat (s1.2.1 233 (s1.1 30).toInt.toNat)).1 30).toInt.toNat (((sa s1 262 ((84 * (s1.1 30)) + (s1.2.1 263 (s1.1 30).toInt.toNat)).toInt.toNat (s1.2.1 233 (s1.1 30).toInt.toNat)).2.1 263 ((sa s1 262 ((84 * (s1.1 30)) + (s1.2.1 263 (s1.1 30).toInt.toNat)).toInt.toNat (s1.2.1 233 (s1.1 30).toInt.toNat)).1 30).toInt.toNat) + 1)).1 30), .ref 233] xo_iadd rfl rfl ?_
  refine g_ias rfl rfl (i_in (x := (sa (sa s1 262 ((84 * (s1.1 30)) + (s1.2.1 263 (s1.1 30).toInt.toNat)).toInt.toNat (s1.2.1 233 (s1.1 30).toInt.toNat)) 263 ((sa s1 262 ((84 * (s1.1 30)) + (s1.2.1 263 (s1.1 30).toInt.toNat)).toInt.toNat (s1.2.1 233 (s1.1 30).toInt.toNat)).1 30).toInt.toNat (((sa s1 262 ((84 * (s1.1 30)) + (s1.2.1 263 (s1.1 30).toInt.toNat)).toInt.toNat (s1.2.1 233 (s1.1 30).toInt.toNat)).2.1 263 ((sa s1 262 ((84 * (s1.1 30)) + (s1.2.1 263 (s1.1 30).toInt.toNat)).toInt.toNat (s1.2.1 233 (s1.1 30).toInt.toNat)).1 30).toInt.toNat) + 1)).1 30) rfl h.1) ?_
  replace h := h.2
  replace h := h _ rfl
  exact g_ret0 rfl h
def w_180_131 (T : Nat → List Value → yS → (Option Value → yS → Prop) → Prop) (R99 : Int32 → yS → Prop) (a1 : Int32) (s : yS) (P : Option Value → yS → Prop) : Prop :=
  T 183 [.ref 213] s (fun v2 s1 => v2 = none ∧ (T 167 [.ref 213, .int 59] s1 (fun v4 s3 => v4 = none ∧ ((0 ≤ a1.toInt ∧ a1.toInt < 48) ∧ ((-2147483648 ≤ (s3.2.1 243 a1.toInt.toNat).toInt + 1 ∧ (s3.2.1 243 a1.toInt.toNat).toInt + 1 ≤ 2147483647) ∧ (∀ x5 : Int32, x5.toInt = (s3.2.1 243 a1.toInt.toNat).toInt + 1 → (0 ≤ a1.toInt ∧ a1.toInt < 48) ∧ (∀ s6, s6 = sa s3 243 a1.toInt.toNat x5 → R99 a1  s6)))))))
set_option maxRecDepth 20000 in
theorem k_180_131 {d : Nat} {R99 : Int32 → yS → Prop} {a1 : Int32} {s : yS} {P : Option Value → yS → Prop} (r99 : ∀ a1 s, R99 a1 s → Go d 2 (none) xE_180 (xE_180.drop 99) [.ref 213, .int a1, .null] [] s P) (h : w_180_131 (Tot d) R99 a1 s P) : Go d 2 (none) xE_180 (xE_180.drop 131) [.ref 213, .int a1, .null] [] s P := by
  unfold w_180_131 at h
  refine g_ld rfl rfl rfl ?_
  refine g_call [.ref 213] [] rfl rfl rfl (Tot.imp h (fun v2 s1 h => ?_))
  obtain ⟨rfl, h⟩ := h
  change Go _ _ _ _ _ _ [] _ _
  refine g_ld rfl rfl rfl ?_
  refine g_c [.int 59, .ref 213] (xo_push (.int 59)) rfl rfl ?_
  refine g_call [.ref 213, .int 59] [] rfl rfl rfl (Tot.imp h (fun v4 s3 h => ?_))
  obtain ⟨rfl, h⟩ := h
  change Go _ _ _ _ _ _ [] _ _
  refine g_ld rfl rfl rfl ?_
  refine g_get rfl rfl ?_
  change Go _ _ _ _ _ _ [.ref 243] _ _
  refine g_ld rfl rfl rfl ?_
  refine g_c [.int a1, .ref 243, .int a1, .ref 243] xo_dup2 rfl rfl ?_
  refine g_ial rfl rfl (i_in (x := a1) rfl h.1) ?_
  change Go _ _ _ _ _ _ [.int (s3.2.1 243 a1.toInt.toNat), .int a1, .ref 243] _ _
  replace h := h.2
  refine g_c [.int 1, .int (s3.2.1 243 a1.toInt.toNat), .int a1, .ref 243] (xo_push (.int 1)) rfl rfl ?_
  have ex5 := i_add (x := s3.2.1 243 a1.toInt.toNat) (y := 1) rfl (show (1 : Int32).toInt = 1 by decide) h.1
  replace h := h.2 _ ex5
  refine g_c [.int ((s3.2.1 243 a1.toInt.toNat) + 1), .int a1, .ref 243] xo_iadd rfl rfl ?_
  refine g_ias rfl rfl (i_in (x := a1) rfl h.1) ?_
  replace h := h.2
  replace h := h _ rfl
  refine g_go rfl ?_
  exact r99 a1  (sa s3 243 a1.toInt.toNat ((s3.2.1 243 a1.toInt.toNat) + 1)) h
def w_180_128 (T : Nat → List Value → yS → (Option Value → yS → Prop) → Prop) (R99 : Int32 → yS → Prop) (a1 : Int32) (t1 : Int32) (s : yS) (P : Option Value → yS → Prop) : Prop :=
  T 163 [.ref 213, .int t1, .int (s.1 7)] s (fun v2 s1 => v2 = none ∧ (w_180_131 T R99 a1  s1 P))
set_option maxRecDepth 20000 in
theorem k_180_128 {d : Nat} {R99 : Int32 → yS → Prop} {a1 : Int32} {t1 : Int32} {s : yS} {P : Option Value → yS → Prop} (r99 : ∀ a1 s, R99 a1 s → Go d 2 (none) xE_180 (xE_180.drop 99) [.ref 213, .int a1, .null] [] s P) (h : w_180_128 (Tot d) R99 a1 t1 s P) : Go d 2 (none) xE_180 (xE_180.drop 128) [.ref 213, .int a1, .null] [.int t1, .ref 213] s P := by
  unfold w_180_128 at h
  refine g_ld rfl rfl rfl ?_
  refine g_get rfl rfl ?_
  change Go _ _ _ _ _ _ [.int (s.1 7), .int t1, .ref 213] _ _
  refine g_call [.ref 213, .int t1, .int (s.1 7)] [] rfl rfl rfl (Tot.imp h (fun v2 s1 h => ?_))
  obtain ⟨rfl, h⟩ := h
  change Go _ _ _ _ _ _ [] _ _
  exact k_180_131 r99 h
def w_180_99 (T : Nat → List Value → yS → (Option Value → yS → Prop) → Prop) (R99 : Int32 → yS → Prop) (a1 : Int32) (s : yS) (P : Option Value → yS → Prop) : Prop :=
  (¬ ((s.1 8).toInt = 0) → w_180_145 T  a1  s P) ∧ ((s.1 8).toInt = 0 → T 164 [.ref 213, .int 125] s (fun v2 s1 => ∃ x3, v2 = some (.int x3) ∧ ((¬ (x3.toInt = 0) → w_180_145 T  a1  s1 P) ∧ (x3.toInt = 0 → (0 ≤ a1.toInt ∧ a1.toInt < 48) ∧ (((s1.2.1 235 a1.toInt.toNat).toInt = 0 → (0 ≤ a1.toInt ∧ a1.toInt < 48) ∧ ((¬ ((s1.2.1 243 a1.toInt.toNat).toInt = 6) → w_180_131 T R99 a1  s1 P) ∧ ((s1.2.1 243 a1.toInt.toNat).toInt = 6 → T 166 [.ref 213] s1 (fun v5 s4 => ∃ x6, v5 = some (.int x6) ∧ ((x6.toInt = 0 → w_180_128 T R99 a1 1 s4 P) ∧ (¬ (x6.toInt = 0) → w_180_128 T R99 a1 5 s4 P)))))) ∧ (¬ ((s1.2.1 235 a1.toInt.toNat).toInt = 0) → T 182 [.ref 213, .int a1] s1 (fun v8 s7 => v8 = none ∧ (R99 a1  s7))))))))
set_option maxRecDepth 20000 in
theorem k_180_99 {d : Nat} {R99 : Int32 → yS → Prop} {a1 : Int32} {s : yS} {P : Option Value → yS → Prop} (r99 : ∀ a1 s, R99 a1 s → Go d 2 (none) xE_180 (xE_180.drop 99) [.ref 213, .int a1, .null] [] s P) (h : w_180_99 (Tot d) R99 a1 s P) : Go d 2 (none) xE_180 (xE_180.drop 99) [.ref 213, .int a1, .null] [] s P := by
  unfold w_180_99 at h
  refine g_ld rfl rfl rfl ?_
  refine g_get rfl rfl ?_
  change Go _ _ _ _ _ _ [.int (s.1 8)] _ _
  refine g_brN rfl rfl ⟨fun hc => ?_, fun hc => ?_⟩
  · replace h := h.1 (fun q => hc ((i_eq (x := s.1 8) (y := 0) rfl (show (0 : Int32).toInt = 0 by decide)).mpr q))
    exact k_180_145  h
  · replace h := h.2 ((i_eq (x := s.1 8) (y := 0) rfl (show (0 : Int32).toInt = 0 by decide)).mp hc)
    refine g_ld rfl rfl rfl ?_
    refine g_c [.int 125, .ref 213] (xo_push (.int 125)) rfl rfl ?_
    refine g_call [.ref 213, .int 125] [] rfl rfl rfl (Tot.imp h (fun v2 s1 h => ?_))
    obtain ⟨x3, rfl, h⟩ := h
    change Go _ _ _ _ _ _ [.int x3] _ _
    refine g_brN rfl rfl ⟨fun hc => ?_, fun hc => ?_⟩
    · replace h := h.1 (fun q => hc ((i_eq (x := x3) (y := 0) rfl (show (0 : Int32).toInt = 0 by decide)).mpr q))
      exact k_180_145  h
    · replace h := h.2 ((i_eq (x := x3) (y := 0) rfl (show (0 : Int32).toInt = 0 by decide)).mp hc)
      refine g_ld rfl rfl rfl ?_
      refine g_get rfl rfl ?_
      change Go _ _ _ _ _ _ [.ref 235] _ _
      refine g_ld rfl rfl rfl ?_
      refine g_zal rfl rfl (i_in (x := a1) rfl h.1) ?_
      change Go _ _ _ _ _ _ [.int (s1.2.1 235 a1.toInt.toNat)] _ _
      replace h := h.2
      refine g_brP rfl rfl ⟨fun hc => ?_, fun hc => ?_⟩
      · replace h := h.1 ((i_eq (x := s1.2.1 235 a1.toInt.toNat) (y := 0) rfl (show (0 : Int32).toInt = 0 by decide)).mp hc)
        refine g_ld rfl rfl rfl ?_
        refine g_get rfl rfl ?_
        change Go _ _ _ _ _ _ [.ref 243] _ _
        refine g_ld rfl rfl rfl ?_
        refine g_ial rfl rfl (i_in (x := a1) rfl h.1) ?_
        change Go _ _ _ _ _ _ [.int (s1.2.1 243 a1.toInt.toNat)] _ _
        replace h := h.2
        refine g_c [.int 6, .int (s1.2.1 243 a1.toInt.toNat)] (xo_push (.int 6)) rfl rfl ?_
        refine g_brN rfl rfl ⟨fun hc => ?_, fun hc => ?_⟩
        · replace h := h.1 (fun q => hc ((i_eq (x := s1.2.1 243 a1.toInt.toNat) (y := 6) rfl (show (6 : Int32).toInt = 6 by decide)).mpr q))
          exact k_180_131 r99 h
        · replace h := h.2 ((i_eq (x := s1.2.1 243 a1.toInt.toNat) (y := 6) rfl (show (6 : Int32).toInt = 6 by decide)).mp hc)
          refine g_ld rfl rfl rfl ?_
          refine g_ld rfl rfl rfl ?_
          refine g_call [.ref 213] [.ref 213] rfl rfl rfl (Tot.imp h (fun v5 s4 h => ?_))
          obtain ⟨x6, rfl, h⟩ := h
          change Go _ _ _ _ _ _ [.int x6, .ref 213] _ _
          refine g_brP rfl rfl ⟨fun hc => ?_, fun hc => ?_⟩
          · replace h := h.1 ((i_eq (x := x6) (y := 0) rfl (show (0 : Int32).toInt = 0 by decide)).mp hc)
            refine g_c [.int 1, .ref 213] (xo_push (.int 1)) rfl rfl ?_
            exact k_180_128 r99 h
          · replace h := h.2 (fun q => hc ((i_eq (x := x6) (y := 0) rfl (show (0 : Int32).toInt = 0 by decide)).mpr q))
            refine g_c [.int 5, .ref 213] (xo_push (.int 5)) rfl rfl ?_
            refine g_go rfl ?_
            exact k_180_128 r99 h
      · replace h := h.2 (fun q => hc ((i_eq (x := s1.2.1 235 a1.toInt.toNat) (y := 0) rfl (show (0 : Int32).toInt = 0 by decide)).mpr q))
        refine g_ld rfl rfl rfl ?_
        refine g_ld rfl rfl rfl ?_
        refine g_call [.ref 213, .int a1] [] rfl rfl rfl (Tot.imp h (fun v8 s7 h => ?_))
        obtain ⟨rfl, h⟩ := h
        change Go _ _ _ _ _ _ [] _ _
        refine g_go rfl ?_
        exact r99 a1  s7 h
def wl_180_99 (T : Nat → List Value → yS → (Option Value → yS → Prop) → Prop)  (a1 : Int32) (s : yS) (P : Option Value → yS → Prop) : Prop :=
  ∃ (I : Int32 → yS → Prop) (μ : Int32 → yS → Nat), I a1 s ∧ ∀ (a1 : Int32) (s : yS), I a1 s → w_180_99 T (fun a1' s' => I a1' s' ∧ μ a1' s' < μ a1 s) a1 s P
theorem kl_180_99 {d : Nat}  {a1 : Int32} {s : yS} {P : Option Value → yS → Prop}  (h : wl_180_99 (Tot d)  a1 s P) : Go d 2 (none) xE_180 (xE_180.drop 99) [.ref 213, .int a1, .null] [] s P := by
  obtain ⟨I, μ, h0, h1⟩ := h
  have key : ∀ (n : Nat) (a1 : Int32) (s : yS), μ a1 s = n → I a1 s → Go d 2 (none) xE_180 (xE_180.drop 99) [.ref 213, .int a1, .null] [] s P := by
    intro n
    induction n using Nat.strongRecOn with
    | ind n ih =>
      intro a1 s e hI
      exact k_180_99 (fun a1' s' q => ih _ (by rw [← e]; exact q.2) _ _  rfl q.1) (h1 a1 s hI)
  exact key _ a1 s rfl h0
def w_180_96 (T : Nat → List Value → yS → (Option Value → yS → Prop) → Prop)  (a1 : Int32) (s : yS) (P : Option Value → yS → Prop) : Prop :=
  T 167 [.ref 213, .int 123] s (fun v2 s1 => v2 = none ∧ (wl_180_99 T  a1  s1 P))
set_option maxRecDepth 20000 in
theorem k_180_96 {d : Nat}  {a1 : Int32} {s : yS} {P : Option Value → yS → Prop}  (h : w_180_96 (Tot d)  a1 s P) : Go d 2 (none) xE_180 (xE_180.drop 96) [.ref 213, .int a1, .null] [] s P := by
  unfold w_180_96 at h
  refine g_ld rfl rfl rfl ?_
  refine g_c [.int 123, .ref 213] (xo_push (.int 123)) rfl rfl ?_
  refine g_call [.ref 213, .int 123] [] rfl rfl rfl (Tot.imp h (fun v2 s1 h => ?_))
  obtain ⟨rfl, h⟩ := h
  change Go _ _ _ _ _ _ [] _ _
  exact kl_180_99  h
def w_180_74 (T : Nat → List Value → yS → (Option Value → yS → Prop) → Prop)  (a1 : Int32) (s : yS) (P : Option Value → yS → Prop) : Prop :=
  T 165 [.ref 213, .int 1] s (fun v2 s1 => ∃ x3, v2 = some (.int x3) ∧ (((0 ≤ a1.toInt ∧ a1.toInt < 48) ∧ (x3.toInt = 0 ∨ x3.toInt = 1)) ∧ (∀ s4, s4 = sa s1 235 a1.toInt.toNat x3 → (0 ≤ a1.toInt ∧ a1.toInt < 48) ∧ (((s4.2.1 235 a1.toInt.toNat).toInt = 0 → T 169 [.ref 213, .int 2] s4 (fun v6 s5 => v6 = none ∧ (w_180_96 T  a1  s5 P))) ∧ (¬ ((s4.2.1 235 a1.toInt.toNat).toInt = 0) → (-2147483648 ≤ (s4.1 7).toInt + 1 ∧ (s4.1 7).toInt + 1 ≤ 2147483647) ∧ (∀ x7 : Int32, x7.toInt = (s4.1 7).toInt + 1 → ∀ s8, s8 = sf s4 7 x7 → w_180_96 T  a1  s8 P))))))
set_option maxRecDepth 20000 in
theorem k_180_74 {d : Nat}  {a1 : Int32} {s : yS} {P : Option Value → yS → Prop}  (h : w_180_74 (Tot d)  a1 s P) : Go d 2 (none) xE_180 (xE_180.drop 74) [.ref 213, .int a1, .null] [] s P := by
  unfold w_180_74 at h
  refine g_ld rfl rfl rfl ?_
  refine g_get rfl rfl ?_
  change Go _ _ _ _ _ _ [.ref 235] _ _
  refine g_ld rfl rfl rfl ?_
  refine g_ld rfl rfl rfl ?_
  refine g_c [.int 1, .ref 213, .int a1, .ref 235] (xo_push (.int 1)) rfl rfl ?_
  refine g_call [.ref 213, .int 1] [.int a1, .ref 235] rfl rfl rfl (Tot.imp h (fun v2 s1 h => ?_))
  obtain ⟨x3, rfl, h⟩ := h
  change Go _ _ _ _ _ _ [.int x3, .int a1, .ref 235] _ _
  refine g_zas rfl rfl (i_inz (x := a1) (z := x3) rfl h.1.1 rfl h.1.2) ?_
  replace h := h.2
  replace h := h _ rfl
  refine g_ld rfl rfl rfl ?_
  refine g_get rfl rfl ?_
  change Go _ _ _ _ _ _ [.ref 235] _ _
  refine g_ld rfl rfl rfl ?_
  refine g_zal rfl rfl (i_in (x := a1) rfl h.1) ?_
  change Go _ _ _ _ _ _ [.int ((sa s1 235 a1.toInt.toNat x3).2.1 235 a1.toInt.toNat)] _ _
  replace h := h.2
  refine g_brP rfl rfl ⟨fun hc => ?_, fun hc => ?_⟩
  · replace h := h.1 ((i_eq (x := (sa s1 235 a1.toInt.toNat x3).2.1 235 a1.toInt.toNat) (y := 0) rfl (show (0 : Int32).toInt = 0 by decide)).mp hc)
    refine g_ld rfl rfl rfl ?_
    refine g_c [.int 2, .ref 213] (xo_push (.int 2)) rfl rfl ?_
    refine g_call [.ref 213, .int 2] [] rfl rfl rfl (Tot.imp h (fun v6 s5 h => ?_))
    obtain ⟨rfl, h⟩ := h
    change Go _ _ _ _ _ _ [] _ _
    exact k_180_96  h
  · replace h := h.2 (fun q => hc ((i_eq (x := (sa s1 235 a1.toInt.toNat x3).2.1 235 a1.toInt.toNat) (y := 0) rfl (show (0 : Int32).toInt = 0 by decide)).mpr q))
    refine g_ld rfl rfl rfl ?_
    refine g_c [.ref 213, .ref 213] xo_dup rfl rfl ?_
    refine g_get rfl rfl ?_
    change Go _ _ _ _ _ _ [.int ((sa s1 235 a1.toInt.toNat x3).1 7), .ref 213] _ _
    refine g_c [.int 1, .int ((sa s1 235 a1.toInt.toNat x3).1 7), .ref 213] (xo_push (.int 1)) rfl rfl ?_
    have ex7 := i_add (x := (sa s1 235 a1.toInt.toNat x3).1 7) (y := 1) rfl (show (1 : Int32).toInt = 1 by decide) h.1
    replace h := h.2 _ ex7
    refine g_c [.int (((sa s1 235 a1.toInt.toNat x3).1 7) + 1), .ref 213] xo_iadd rfl rfl ?_
    refine g_put rfl rfl rfl ?_
    replace h := h _ rfl
    refine g_go rfl ?_
    exact k_180_96  h
def w_180_0 (T : Nat → List Value → yS → (Option Value → yS → Prop) → Prop)   (s : yS) (P : Option Value → yS → Prop) : Prop :=
  (-2147483648 ≤ 24 * (s.1 30).toInt ∧ 24 * (s.1 30).toInt ≤ 2147483647) ∧ (∀ x1 : Int32, x1.toInt = 24 * (s.1 30).toInt → (0 ≤ (s.1 30).toInt ∧ (s.1 30).toInt < 2) ∧ ((-2147483648 ≤ x1.toInt + (s.2.1 233 (s.1 30).toInt.toNat).toInt ∧ x1.toInt + (s.2.1 233 (s.1 30).toInt.toNat).toInt ≤ 2147483647) ∧ (∀ x2 : Int32, x2.toInt = x1.toInt + (s.2.1 233 (s.1 30).toInt.toNat).toInt → (0 ≤ (s.1 30).toInt ∧ (s.1 30).toInt < 2) ∧ ((¬ ((s.2.1 233 (s.1 30).toInt.toNat).toInt = 24) → (-2147483648 ≤ (s.1 7).toInt + 1 ∧ (s.1 7).toInt + 1 ≤ 2147483647) ∧ (∀ x3 : Int32, x3.toInt = (s.1 7).toInt + 1 → ∀ s4, s4 = sf s 7 x3 → T 170 [.ref 213] s4 (fun v6 s5 => ∃ x7, v6 = some (.int x7) ∧ ((0 ≤ x2.toInt ∧ x2.toInt < 48) ∧ (∀ s8, s8 = sa s5 234 x2.toInt.toNat x7 → (0 ≤ x2.toInt ∧ x2.toInt < 48) ∧ (∀ s9, s9 = sa s8 236 x2.toInt.toNat 0 → (0 ≤ x2.toInt ∧ x2.toInt < 48) ∧ (∀ s10, s10 = sa s9 239 x2.toInt.toNat 0 → (0 ≤ x2.toInt ∧ x2.toInt < 48) ∧ (∀ s11, s11 = sa s10 242 x2.toInt.toNat (s10.1 42) → (0 ≤ x2.toInt ∧ x2.toInt < 48) ∧ (∀ s12, s12 = sa s11 243 x2.toInt.toNat 0 → T 164 [.ref 213, .int 91] s12 (fun v14 s13 => ∃ x15, v14 = some (.int x15) ∧ ((x15.toInt = 0 → w_180_74 T  x2  s13 P) ∧ (¬ (x15.toInt = 0) → (-2147483648 ≤ 6 * x2.toInt ∧ 6 * x2.toInt ≤ 2147483647) ∧ (∀ x16 : Int32, x16.toInt = 6 * x2.toInt → T 181 [.ref 213, .ref 237, .ref 238, .int x16] s13 (fun v18 s17 => ∃ x19, v18 = some (.int x19) ∧ ((0 ≤ x2.toInt ∧ x2.toInt < 48) ∧ (∀ s20, s20 = sa s17 236 x2.toInt.toNat x19 → w_180_74 T  x2  s20 P)))))))))))))))) ∧ ((s.2.1 233 (s.1 30).toInt.toNat).toInt = 24 → T 163 [.ref 213, .int 5, .int (s.1 7)] s (fun v22 s21 => v22 = none ∧ (P none s21)))))))
set_option maxRecDepth 20000 in
theorem k_180_0 {d : Nat}   {s : yS} {P : Option Value → yS → Prop}  (h : w_180_0 (Tot d)   s P) : Go d 2 (none) xE_180 (xE_180.drop 0) [.ref 213, .null, .null] [] s P := by
  unfold w_180_0 at h
  refine g_c [.int 24] (xo_push (.int 24)) rfl rfl ?_
  refine g_ld rfl rfl rfl ?_
  refine g_get rfl rfl ?_
  change Go _ _ _ _ _ _ [.int (s.1 30), .int 24] _ _
  have ex1 := i_mul (x := 24) (y := s.1 30) (show (24 : Int32).toInt = 24 by decide) rfl h.1
  replace h := h.2 _ ex1
  refine g_c [.int (24 * (s.1 30))] xo_imul rfl rfl ?_
  refine g_ld rfl rfl rfl ?_
  refine g_get rfl rfl ?_
  change Go _ _ _ _ _ _ [.ref 233, .int (24 * (s.1 30))] _ _
  refine g_ld rfl rfl rfl ?_
  refine g_get rfl rfl ?_
  change Go _ _ _ _ _ _ [.int (s.1 30), .ref 233, .int (24 * (s.1 30))] _ _
  refine g_ial rfl rfl (i_in (x := s.1 30) rfl h.1) ?_
  change Go _ _ _ _ _ _ [.int (s.2.1 233 (s.1 30).toInt.toNat), .int (24 * (s.1 30))] _ _
  replace h := h.2
  have ex2 := i_add (x := (24 * (s.1 30))) (y := s.2.1 233 (s.1 30).toInt.toNat) rfl rfl h.1
  replace h := h.2 _ ex2
  refine g_c [.int ((24 * (s.1 30)) + (s.2.1 233 (s.1 30).toInt.toNat))] xo_iadd rfl rfl ?_
  refine g_st [.ref 213, .int ((24 * (s.1 30)) + (s.2.1 233 (s.1 30).toInt.toNat)), .null] rfl rfl rfl ?_
  refine g_ld rfl rfl rfl ?_
  refine g_get rfl rfl ?_
  change Go _ _ _ _ _ _ [.ref 233] _ _
  refine g_ld rfl rfl rfl ?_
  refine g_get rfl rfl ?_
  change Go _ _ _ _ _ _ [.int (s.1 30), .ref 233] _ _
  refine g_ial rfl rfl (i_in (x := s.1 30) rfl h.1) ?_
  change Go _ _ _ _ _ _ [.int (s.2.1 233 (s.1 30).toInt.toNat)] _ _
  replace h := h.2
  refine g_c [.int 24, .int (s.2.1 233 (s.1 30).toInt.toNat)] (xo_push (.int 24)) rfl rfl ?_
  refine g_brN rfl rfl ⟨fun hc => ?_, fun hc => ?_⟩
  · replace h := h.1 (fun q => hc ((i_eq (x := s.2.1 233 (s.1 30).toInt.toNat) (y := 24) rfl (show (24 : Int32).toInt = 24 by decide)).mpr q))
    refine g_ld rfl rfl rfl ?_
    refine g_c [.ref 213, .ref 213] xo_dup rfl rfl ?_
    refine g_get rfl rfl ?_
    change Go _ _ _ _ _ _ [.int (s.1 7), .ref 213] _ _
    refine g_c [.int 1, .int (s.1 7), .ref 213] (xo_push (.int 1)) rfl rfl ?_
    have ex3 := i_add (x := s.1 7) (y := 1) rfl (show (1 : Int32).toInt = 1 by decide) h.1
    replace h := h.2 _ ex3
    refine g_c [.int ((s.1 7) + 1), .ref 213] xo_iadd rfl rfl ?_
    refine g_put rfl rfl rfl ?_
    replace h := h _ rfl
    refine g_ld rfl rfl rfl ?_
    refine g_get rfl rfl ?_
    change Go _ _ _ _ _ _ [.ref 234] _ _
    refine g_ld rfl rfl rfl ?_
    refine g_ld rfl rfl rfl ?_
    refine g_call [.ref 213] [.int ((24 * (s.1 30)) + (s.2.1 233 (s.1 30).toInt.toNat)), .ref 234] rfl rfl rfl (Tot.imp h (fun v6 s5 h => ?_))
    obtain ⟨x7, rfl, h⟩ := h
    change Go _ _ _ _ _ _ [.int x7, .int ((24 * (s.1 30)) + (s.2.1 233 (s.1 30).toInt.toNat)), .ref 234] _ _
    refine g_ias rfl rfl (i_in (x := ((24 * (s.1 30)) + (s.2.1 233 (s.1 30).toInt.toNat))) rfl h.1) ?_
    replace h := h.2
    replace h := h _ rfl
    refine g_ld rfl rfl rfl ?_
    refine g_get rfl rfl ?_
    change Go _ _ _ _ _ _ [.ref 236] _ _
    refine g_ld rfl rfl rfl ?_
    refine g_c [.int 0, .int ((24 * (s.1 30)) + (s.2.1 233 (s.1 30).toInt.toNat)), .ref 236] (xo_push (.int 0)) rfl rfl ?_
    refine g_ias rfl rfl (i_in (x := ((24 * (s.1 30)) + (s.2.1 233 (s.1 30).toInt.toNat))) rfl h.1) ?_
    replace h := h.2
    replace h := h _ rfl
    refine g_ld rfl rfl rfl ?_
    refine g_get rfl rfl ?_
    change Go _ _ _ _ _ _ [.ref 239] _ _
    refine g_ld rfl rfl rfl ?_
    refine g_c [.int 0, .int ((24 * (s.1 30)) + (s.2.1 233 (s.1 30).toInt.toNat)), .ref 239] (xo_push (.int 0)) rfl rfl ?_
    refine g_ias rfl rfl (i_in (x := ((24 * (s.1 30)) + (s.2.1 233 (s.1 30).toInt.toNat))) rfl h.1) ?_
    replace h := h.2
    replace h := h _ rfl
    refine g_ld rfl rfl rfl ?_
    refine g_get rfl rfl ?_
    change Go _ _ _ _ _ _ [.ref 242] _ _
    refine g_ld rfl rfl rfl ?_
    refine g_ld rfl rfl rfl ?_
    refine g_get rfl rfl ?_
    change Go _ _ _ _ _ _ [.int ((sa (sa (sa s5 234 ((24 * (s.1 30)) + (s.2.1 233 (s.1 30).toInt.toNat)).toInt.toNat x7) 236 ((24 * (s.1 30)) + (s.2.1 233 (s.1 30).toInt.toNat)).toInt.toNat 0) 239 ((24 * (s.1 30)) + (s.2.1 233 (s.1 30).toInt.toNat)).toInt.toNat 0).1 42), .int ((24 * (s.1 30)) + (s.2.1 233 (s.1 30).toInt.toNat)), .ref 242] _ _
    refine g_ias rfl rfl (i_in (x := ((24 * (s.1 30)) + (s.2.1 233 (s.1 30).toInt.toNat))) rfl h.1) ?_
    replace h := h.2
    replace h := h _ rfl
    refine g_ld rfl rfl rfl ?_
    refine g_get rfl rfl ?_
    change Go _ _ _ _ _ _ [.ref 243] _ _
    refine g_ld rfl rfl rfl ?_
    refine g_c [.int 0, .int ((24 * (s.1 30)) + (s.2.1 233 (s.1 30).toInt.toNat)), .ref 243] (xo_push (.int 0)) rfl rfl ?_
    refine g_ias rfl rfl (i_in (x := ((24 * (s.1 30)) + (s.2.1 233 (s.1 30).toInt.toNat))) rfl h.1) ?_
    replace h := h.2
    replace h := h _ rfl
    refine g_ld rfl rfl rfl ?_
    refine g_c [.int 91, .ref 213] (xo_push (.int 91)) rfl rfl ?_
    refine g_call [.ref 213, .int 91] [] rfl rfl rfl (Tot.imp h (fun v14 s13 h => ?_))
    obtain ⟨x15, rfl, h⟩ := h
    change Go _ _ _ _ _ _ [.int x15] _ _
    refine g_brP rfl rfl ⟨fun hc => ?_, fun hc => ?_⟩
    · replace h := h.1 ((i_eq (x := x15) (y := 0) rfl (show (0 : Int32).toInt = 0 by decide)).mp hc)
      exact k_180_74  h
    · replace h := h.2 (fun q => hc ((i_eq (x := x15) (y := 0) rfl (show (0 : Int32).toInt = 0 by decide)).mpr q))
      refine g_ld rfl rfl rfl ?_
      refine g_get rfl rfl ?_
      change Go _ _ _ _ _ _ [.ref 236] _ _
      refine g_ld rfl rfl rfl ?_
      refine g_ld rfl rfl rfl ?_
      refine g_ld rfl rfl rfl ?_
      refine g_get rfl rfl ?_
      change Go _ _ _ _ _ _ [.ref 237, .ref 213, .int ((24 * (s.1 30)) + (s.2.1 233 (s.1 30).toInt.toNat)), .ref 236] _ _
      refine g_ld rfl rfl rfl ?_
      refine g_get rfl rfl ?_
      change Go _ _ _ _ _ _ [.ref 238, .ref 237, .ref 213, .int ((24 * (s.1 30)) + (s.2.1 233 (s.1 30).toInt.toNat)), .ref 236] _ _
      refine g_c [.int 6, .ref 238, .ref 237, .ref 213, .int ((24 * (s.1 30)) + (s.2.1 233 (s.1 30).toInt.toNat)), .ref 236] (xo_push (.int 6)) rfl rfl ?_
      refine g_ld rfl rfl rfl ?_
      have ex16 := i_mul (x := 6) (y := ((24 * (s.1 30)) + (s.2.1 233 (s.1 30).toInt.toNat))) (show (6 : Int32).toInt = 6 by decide) rfl h.1
      replace h := h.2 _ ex16
      refine g_c [.int (6 * ((24 * (s.1 30)) + (s.2.1 233 (s.1 30).toInt.toNat))), .ref 238, .ref 237, .ref 213, .int ((24 * (s.1 30)) + (s.2.1 233 (s.1 30).toInt.toNat)), .ref 236] xo_imul rfl rfl ?_
      refine g_call [.ref 213, .ref 237, .ref 238, .int (6 * ((24 * (s.1 30)) + (s.2.1 233 (s.1 30).toInt.toNat)))] [.int ((24 * (s.1 30)) + (s.2.1 233 (s.1 30).toInt.toNat)), .ref 236] rfl rfl rfl (Tot.imp h (fun v18 s17 h => ?_))
      obtain ⟨x19, rfl, h⟩ := h
      change Go _ _ _ _ _ _ [.int x19, .int ((24 * (s.1 30)) + (s.2.1 233 (s.1 30).toInt.toNat)), .ref 236] _ _
      refine g_ias rfl rfl (i_in (x := ((24 * (s.1 30)) + (s.2.1 233 (s.1 30).toInt.toNat))) rfl h.1) ?_
      replace h := h.2
      replace h := h _ rfl
      exact k_180_74  h
  · replace h := h.2 ((i_eq (x := s.2.1 233 (s.1 30).toInt.toNat) (y := 24) rfl (show (24 : Int32).toInt = 24 by decide)).mp hc)
    refine g_ld rfl rfl rfl ?_
    refine g_c [.int 5, .ref 213] (xo_push (.int 5)) rfl rfl ?_
    refine g_ld rfl rfl rfl ?_
    refine g_get rfl rfl ?_
    change Go _ _ _ _ _ _ [.int (s.1 7), .int 5, .ref 213] _ _
    refine g_call [.ref 213, .int 5, .int (s.1 7)] [] rfl rfl rfl (Tot.imp h (fun v22 s21 h => ?_))
    obtain ⟨rfl, h⟩ := h
    change Go _ _ _ _ _ _ [] _ _
    exact g_ret0 rfl h
theorem t_180 {d : Nat}  {s : yS} {P : Option Value → yS → Prop} (h : w_180_0 (Tot d)  s P) : Tot (d + 1) 180 [.ref 213] s P := tot_of (E := xE_180) (ml := 2) (ret := none) rfl rfl rfl (k_180_0 h)
