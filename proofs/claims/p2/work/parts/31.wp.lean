/-! feed -/
def w_154_0 (T : Nat → List Value → yS → (Option Value → yS → Prop) → Prop)  (a1 : Int64) (a3 : Int64) (a5 : Int64) (s : yS) (P : Option Value → yS → Prop) : Prop :=
  ∀ s1, s1 = sf s 0 0 → T 155 [.ref 213, .long a1] s1 (fun v3 s2 => v3 = none ∧ (T 155 [.ref 213, .long a3] s2 (fun v5 s4 => v5 = none ∧ (T 155 [.ref 213, .long a5] s4 (fun v7 s6 => v7 = none ∧ (P (some (.int (s6.1 2))) s6))))))
set_option maxRecDepth 20000 in
theorem k_154_0 {d : Nat}  {a1 : Int64} {a3 : Int64} {a5 : Int64} {s : yS} {P : Option Value → yS → Prop}  (h : w_154_0 (Tot d)  a1 a3 a5 s P) : Go d 7 (some .int) xE_154 (xE_154.drop 0) [.ref 213, .long a1, .null, .long a3, .null, .long a5, .null, .null, .null, .null, .null, .null, .null, .null] [] s P := by
  unfold w_154_0 at h
  refine g_ld rfl rfl rfl ?_
  refine g_c [.int 0, .ref 213] (xo_push (.int 0)) rfl rfl ?_
  refine g_put rfl rfl rfl ?_
  replace h := h _ rfl
  refine g_ld rfl rfl rfl ?_
  refine g_ld rfl rfl rfl ?_
  refine g_call [.ref 213, .long a1] [] rfl rfl rfl (Tot.imp h (fun v3 s2 h => ?_))
  obtain ⟨rfl, h⟩ := h
  change Go _ _ _ _ _ _ [] _ _
  refine g_ld rfl rfl rfl ?_
  refine g_ld rfl rfl rfl ?_
  refine g_call [.ref 213, .long a3] [] rfl rfl rfl (Tot.imp h (fun v5 s4 h => ?_))
  obtain ⟨rfl, h⟩ := h
  change Go _ _ _ _ _ _ [] _ _
  refine g_ld rfl rfl rfl ?_
  refine g_ld rfl rfl rfl ?_
  refine g_call [.ref 213, .long a5] [] rfl rfl rfl (Tot.imp h (fun v7 s6 h => ?_))
  obtain ⟨rfl, h⟩ := h
  change Go _ _ _ _ _ _ [] _ _
  refine g_ld rfl rfl rfl ?_
  refine g_get rfl rfl ?_
  change Go _ _ _ _ _ _ [.int (s6.1 2)] _ _
  exact g_retI rfl h
theorem t_154 {d : Nat} {a1 : Int64} {a3 : Int64} {a5 : Int64} {s : yS} {P : Option Value → yS → Prop} (h : w_154_0 (Tot d) a1 a3 a5 s P) : Tot (d + 1) 154 [.ref 213, .long a1, .long a3, .long a5] s P := tot_of (E := xE_154) (ml := 7) (ret := some .int) rfl rfl rfl (k_154_0 h)
/-! lay -/
def w_155_36 (T : Nat → List Value → yS → (Option Value → yS → Prop) → Prop) (R2 : Int64 → Int32 → yS → Prop) (a1 : Int64) (a3 : Int32) (a4 : Int32) (s : yS) (P : Option Value → yS → Prop) : Prop :=
  R2 a1 (a3 + (-8))  s
set_option maxRecDepth 20000 in
theorem k_155_36 {d : Nat} {R2 : Int64 → Int32 → yS → Prop} {a1 : Int64} {a3 : Int32} {a4 : Int32} {s : yS} {P : Option Value → yS → Prop} (r2 : ∀ a1 a3 s, R2 a1 a3 s → Go d 5 (none) xE_155 (xE_155.drop 2) [.ref 213, .long a1, .null, .int a3, .null, .null, .null, .null] [] s P) (h : w_155_36 (Tot d) R2 a1 a3 a4 s P) : Go d 5 (none) xE_155 (xE_155.drop 36) [.ref 213, .long a1, .null, .int a3, .int a4, .null, .null, .null] [] s P := by
  unfold w_155_36 at h
  refine g_inc [.ref 213, .long a1, .null, .int (a3 + (-8)), .int a4, .null, .null, .null] rfl rfl rfl rfl ?_
  refine g_go rfl ?_
  refine g_fg 4 ?_
  exact r2 a1 (a3 + (-8))  s h
def w_155_20 (T : Nat → List Value → yS → (Option Value → yS → Prop) → Prop) (R2 : Int64 → Int32 → yS → Prop) (a1 : Int64) (a3 : Int32) (a4 : Int32) (s : yS) (P : Option Value → yS → Prop) : Prop :=
  (4000 ≤ (s.1 2) → w_155_36 T R2 a1 a3 a4  s P) ∧ (¬ (4000 ≤ (s.1 2)) → xIn (s.1 2) 4000 = true ∧ (∀ s1, s1 = sa s 214 (Int32.toNatClampNeg (s.1 2)) a4 → ∀ s2, s2 = sf s1 2 ((s1.1 2) + 1) → w_155_36 T R2 a1 a3 a4  s2 P))
set_option maxRecDepth 20000 in
theorem k_155_20 {d : Nat} {R2 : Int64 → Int32 → yS → Prop} {a1 : Int64} {a3 : Int32} {a4 : Int32} {s : yS} {P : Option Value → yS → Prop} (r2 : ∀ a1 a3 s, R2 a1 a3 s → Go d 5 (none) xE_155 (xE_155.drop 2) [.ref 213, .long a1, .null, .int a3, .null, .null, .null, .null] [] s P) (h : w_155_20 (Tot d) R2 a1 a3 a4 s P) : Go d 5 (none) xE_155 (xE_155.drop 20) [.ref 213, .long a1, .null, .int a3, .int a4, .null, .null, .null] [] s P := by
  unfold w_155_20 at h
  refine g_ld rfl rfl rfl ?_
  refine g_get rfl rfl ?_
  change Go _ _ _ _ _ _ [.int (s.1 2)] _ _
  refine g_c [.int 4000, .int (s.1 2)] (xo_push (.int 4000)) rfl rfl ?_
  refine g_brP rfl rfl ⟨fun hc => ?_, fun hc => ?_⟩
  · replace h := h.1 hc
    exact k_155_36 r2 h
  · replace h := h.2 hc
    refine g_ld rfl rfl rfl ?_
    refine g_get rfl rfl ?_
    change Go _ _ _ _ _ _ [.ref 214] _ _
    refine g_ld rfl rfl rfl ?_
    refine g_get rfl rfl ?_
    change Go _ _ _ _ _ _ [.int (s.1 2), .ref 214] _ _
    refine g_ld rfl rfl rfl ?_
    refine g_ias rfl rfl h.1 ?_
    replace h := h.2
    replace h := h _ rfl
    refine g_ld rfl rfl rfl ?_
    refine g_c [.ref 213, .ref 213] xo_dup rfl rfl ?_
    refine g_get rfl rfl ?_
    change Go _ _ _ _ _ _ [.int ((sa s 214 (Int32.toNatClampNeg (s.1 2)) a4).1 2), .ref 213] _ _
    refine g_c [.int 1, .int ((sa s 214 (Int32.toNatClampNeg (s.1 2)) a4).1 2), .ref 213] (xo_push (.int 1)) rfl rfl ?_
    refine g_c [.int (((sa s 214 (Int32.toNatClampNeg (s.1 2)) a4).1 2) + 1), .ref 213] xo_iadd rfl rfl ?_
    refine g_put rfl rfl rfl ?_
    replace h := h _ rfl
    exact k_155_36 r2 h
def w_155_2 (T : Nat → List Value → yS → (Option Value → yS → Prop) → Prop) (R2 : Int64 → Int32 → yS → Prop) (a1 : Int64) (a3 : Int32) (s : yS) (P : Option Value → yS → Prop) : Prop :=
  (a3 < 0 → P none s) ∧ (¬ (a3 < 0) → (((Int64.toInt32 (a1 >>> ((a3 : Int32).toInt64 &&& 63))) &&& 255) = 10 → w_155_20 T R2 a1 a3 ((Int64.toInt32 (a1 >>> ((a3 : Int32).toInt64 &&& 63))) &&& 255)  s P) ∧ (¬ (((Int64.toInt32 (a1 >>> ((a3 : Int32).toInt64 &&& 63))) &&& 255) = 10) → (((Int64.toInt32 (a1 >>> ((a3 : Int32).toInt64 &&& 63))) &&& 255) < 32 → w_155_36 T R2 a1 a3 ((Int64.toInt32 (a1 >>> ((a3 : Int32).toInt64 &&& 63))) &&& 255)  s P) ∧ (¬ (((Int64.toInt32 (a1 >>> ((a3 : Int32).toInt64 &&& 63))) &&& 255) < 32) → (126 < ((Int64.toInt32 (a1 >>> ((a3 : Int32).toInt64 &&& 63))) &&& 255) → w_155_36 T R2 a1 a3 ((Int64.toInt32 (a1 >>> ((a3 : Int32).toInt64 &&& 63))) &&& 255)  s P) ∧ (¬ (126 < ((Int64.toInt32 (a1 >>> ((a3 : Int32).toInt64 &&& 63))) &&& 255)) → w_155_20 T R2 a1 a3 ((Int64.toInt32 (a1 >>> ((a3 : Int32).toInt64 &&& 63))) &&& 255)  s P))))
set_option maxRecDepth 20000 in
theorem k_155_2 {d : Nat} {R2 : Int64 → Int32 → yS → Prop} {a1 : Int64} {a3 : Int32} {s : yS} {P : Option Value → yS → Prop} (r2 : ∀ a1 a3 s, R2 a1 a3 s → Go d 5 (none) xE_155 (xE_155.drop 2) [.ref 213, .long a1, .null, .int a3, .null, .null, .null, .null] [] s P) (h : w_155_2 (Tot d) R2 a1 a3 s P) : Go d 5 (none) xE_155 (xE_155.drop 2) [.ref 213, .long a1, .null, .int a3, .null, .null, .null, .null] [] s P := by
  unfold w_155_2 at h
  refine g_ld rfl rfl rfl ?_
  refine g_brP rfl rfl ⟨fun hc => ?_, fun hc => ?_⟩
  · replace h := h.1 hc
    exact g_ret0 rfl h
  · replace h := h.2 hc
    refine g_ld rfl rfl rfl ?_
    refine g_ld rfl rfl rfl ?_
    refine g_c [.long (a1 >>> ((a3 : Int32).toInt64 &&& 63))] xo_lshr rfl rfl ?_
    refine g_c [.int (Int64.toInt32 (a1 >>> ((a3 : Int32).toInt64 &&& 63)))] xo_l2i rfl rfl ?_
    refine g_c [.int 255, .int (Int64.toInt32 (a1 >>> ((a3 : Int32).toInt64 &&& 63)))] (xo_push (.int 255)) rfl rfl ?_
    refine g_c [.int ((Int64.toInt32 (a1 >>> ((a3 : Int32).toInt64 &&& 63))) &&& 255)] xo_iand rfl rfl ?_
    refine g_st [.ref 213, .long a1, .null, .int a3, .int ((Int64.toInt32 (a1 >>> ((a3 : Int32).toInt64 &&& 63))) &&& 255), .null, .null, .null] rfl rfl rfl ?_
    refine g_ld rfl rfl rfl ?_
    refine g_c [.int 10, .int ((Int64.toInt32 (a1 >>> ((a3 : Int32).toInt64 &&& 63))) &&& 255)] (xo_push (.int 10)) rfl rfl ?_
    refine g_brP rfl rfl ⟨fun hc => ?_, fun hc => ?_⟩
    · replace h := h.1 hc
      exact k_155_20 r2 h
    · replace h := h.2 hc
      refine g_ld rfl rfl rfl ?_
      refine g_c [.int 32, .int ((Int64.toInt32 (a1 >>> ((a3 : Int32).toInt64 &&& 63))) &&& 255)] (xo_push (.int 32)) rfl rfl ?_
      refine g_brP rfl rfl ⟨fun hc => ?_, fun hc => ?_⟩
      · replace h := h.1 hc
        exact k_155_36 r2 h
      · replace h := h.2 hc
        refine g_ld rfl rfl rfl ?_
        refine g_c [.int 126, .int ((Int64.toInt32 (a1 >>> ((a3 : Int32).toInt64 &&& 63))) &&& 255)] (xo_push (.int 126)) rfl rfl ?_
        refine g_brP rfl rfl ⟨fun hc => ?_, fun hc => ?_⟩
        · replace h := h.1 hc
          exact k_155_36 r2 h
        · replace h := h.2 hc
          exact k_155_20 r2 h
def wl_155_2 (T : Nat → List Value → yS → (Option Value → yS → Prop) → Prop)  (a1 : Int64) (a3 : Int32) (s : yS) (P : Option Value → yS → Prop) : Prop :=
  ∃ (I : Int64 → Int32 → yS → Prop) (μ : Int64 → Int32 → yS → Nat), I a1 a3 s ∧ ∀ (a1 : Int64) (a3 : Int32) (s : yS), I a1 a3 s → w_155_2 T (fun a1' a3' s' => I a1' a3' s' ∧ μ a1' a3' s' < μ a1 a3 s) a1 a3 s P
theorem kl_155_2 {d : Nat}  {a1 : Int64} {a3 : Int32} {s : yS} {P : Option Value → yS → Prop}  (h : wl_155_2 (Tot d)  a1 a3 s P) : Go d 5 (none) xE_155 (xE_155.drop 2) [.ref 213, .long a1, .null, .int a3, .null, .null, .null, .null] [] s P := by
  obtain ⟨I, μ, h0, h1⟩ := h
  have key : ∀ (n : Nat) (a1 : Int64) (a3 : Int32) (s : yS), μ a1 a3 s = n → I a1 a3 s → Go d 5 (none) xE_155 (xE_155.drop 2) [.ref 213, .long a1, .null, .int a3, .null, .null, .null, .null] [] s P := by
    intro n
    induction n using Nat.strongRecOn with
    | ind n ih =>
      intro a1 a3 s e hI
      exact k_155_2 (fun a1' a3' s' q => ih _ (by rw [← e]; exact q.2) _ _ _ rfl q.1) (h1 a1 a3 s hI)
  exact key _ a1 a3 s rfl h0
def w_155_0 (T : Nat → List Value → yS → (Option Value → yS → Prop) → Prop)  (a1 : Int64) (s : yS) (P : Option Value → yS → Prop) : Prop :=
  wl_155_2 T  a1 56  s P
set_option maxRecDepth 20000 in
theorem k_155_0 {d : Nat}  {a1 : Int64} {s : yS} {P : Option Value → yS → Prop}  (h : w_155_0 (Tot d)  a1 s P) : Go d 5 (none) xE_155 (xE_155.drop 0) [.ref 213, .long a1, .null, .null, .null, .null, .null, .null] [] s P := by
  unfold w_155_0 at h
  refine g_c [.int 56] (xo_push (.int 56)) rfl rfl ?_
  refine g_st [.ref 213, .long a1, .null, .int 56, .null, .null, .null, .null] rfl rfl rfl ?_
  exact kl_155_2  h
theorem t_155 {d : Nat} {a1 : Int64} {s : yS} {P : Option Value → yS → Prop} (h : w_155_0 (Tot d) a1 s P) : Tot (d + 1) 155 [.ref 213, .long a1] s P := tot_of (E := xE_155) (ml := 5) (ret := none) rfl rfl rfl (k_155_0 h)
/-! isLetter -/
def w_156_15 (T : Nat → List Value → yS → (Option Value → yS → Prop) → Prop)  (a0 : Int32) (t0 : Int32) (s : yS) (P : Option Value → yS → Prop) : Prop :=
  (t0 == 0 || t0 == 1) = true ∧ P (some (.int t0)) s
set_option maxRecDepth 20000 in
theorem k_156_15 {d : Nat}  {a0 : Int32} {t0 : Int32} {s : yS} {P : Option Value → yS → Prop}  (h : w_156_15 (Tot d)  a0 t0 s P) : Go d 1 (some .boolean) xE_156 (xE_156.drop 15) [.int a0, .null] [.int t0] s P := by
  unfold w_156_15 at h
  exact g_retZ rfl h.1 h.2
def w_156_14 (T : Nat → List Value → yS → (Option Value → yS → Prop) → Prop)  (a0 : Int32) (s : yS) (P : Option Value → yS → Prop) : Prop :=
  w_156_15 T  a0 0 s P
set_option maxRecDepth 20000 in
theorem k_156_14 {d : Nat}  {a0 : Int32} {s : yS} {P : Option Value → yS → Prop}  (h : w_156_14 (Tot d)  a0 s P) : Go d 1 (some .boolean) xE_156 (xE_156.drop 14) [.int a0, .null] [] s P := by
  unfold w_156_14 at h
  refine g_c [.int 0] (xo_push (.int 0)) rfl rfl ?_
  exact k_156_15  h
def w_156_12 (T : Nat → List Value → yS → (Option Value → yS → Prop) → Prop)  (a0 : Int32) (s : yS) (P : Option Value → yS → Prop) : Prop :=
  w_156_15 T  a0 1 s P
set_option maxRecDepth 20000 in
theorem k_156_12 {d : Nat}  {a0 : Int32} {s : yS} {P : Option Value → yS → Prop}  (h : w_156_12 (Tot d)  a0 s P) : Go d 1 (some .boolean) xE_156 (xE_156.drop 12) [.int a0, .null] [] s P := by
  unfold w_156_12 at h
  refine g_c [.int 1] (xo_push (.int 1)) rfl rfl ?_
  refine g_go rfl ?_
  exact k_156_15  h
def w_156_6 (T : Nat → List Value → yS → (Option Value → yS → Prop) → Prop)  (a0 : Int32) (s : yS) (P : Option Value → yS → Prop) : Prop :=
  (a0 < 65 → w_156_14 T  a0  s P) ∧ (¬ (a0 < 65) → (90 < a0 → w_156_14 T  a0  s P) ∧ (¬ (90 < a0) → w_156_12 T  a0  s P))
set_option maxRecDepth 20000 in
theorem k_156_6 {d : Nat}  {a0 : Int32} {s : yS} {P : Option Value → yS → Prop}  (h : w_156_6 (Tot d)  a0 s P) : Go d 1 (some .boolean) xE_156 (xE_156.drop 6) [.int a0, .null] [] s P := by
  unfold w_156_6 at h
  refine g_ld rfl rfl rfl ?_
  refine g_c [.int 65, .int a0] (xo_push (.int 65)) rfl rfl ?_
  refine g_brP rfl rfl ⟨fun hc => ?_, fun hc => ?_⟩
  · replace h := h.1 hc
    exact k_156_14  h
  · replace h := h.2 hc
    refine g_ld rfl rfl rfl ?_
    refine g_c [.int 90, .int a0] (xo_push (.int 90)) rfl rfl ?_
    refine g_brP rfl rfl ⟨fun hc => ?_, fun hc => ?_⟩
    · replace h := h.1 hc
      exact k_156_14  h
    · replace h := h.2 hc
      exact k_156_12  h
def w_156_0 (T : Nat → List Value → yS → (Option Value → yS → Prop) → Prop)  (a0 : Int32) (s : yS) (P : Option Value → yS → Prop) : Prop :=
  (a0 < 97 → w_156_6 T  a0  s P) ∧ (¬ (a0 < 97) → (a0 ≤ 122 → w_156_12 T  a0  s P) ∧ (¬ (a0 ≤ 122) → w_156_6 T  a0  s P))
set_option maxRecDepth 20000 in
theorem k_156_0 {d : Nat}  {a0 : Int32} {s : yS} {P : Option Value → yS → Prop}  (h : w_156_0 (Tot d)  a0 s P) : Go d 1 (some .boolean) xE_156 (xE_156.drop 0) [.int a0, .null] [] s P := by
  unfold w_156_0 at h
  refine g_ld rfl rfl rfl ?_
  refine g_c [.int 97, .int a0] (xo_push (.int 97)) rfl rfl ?_
  refine g_brP rfl rfl ⟨fun hc => ?_, fun hc => ?_⟩
  · replace h := h.1 hc
    exact k_156_6  h
  · replace h := h.2 hc
    refine g_ld rfl rfl rfl ?_
    refine g_c [.int 122, .int a0] (xo_push (.int 122)) rfl rfl ?_
    refine g_brP rfl rfl ⟨fun hc => ?_, fun hc => ?_⟩
    · replace h := h.1 hc
      exact k_156_12  h
    · replace h := h.2 hc
      exact k_156_6  h
theorem t_156 {d : Nat} {a0 : Int32} {s : yS} {P : Option Value → yS → Prop} (h : w_156_0 (Tot d) a0 s P) : Tot (d + 1) 156 [.int a0] s P := tot_of (E := xE_156) (ml := 1) (ret := some .boolean) rfl rfl rfl (k_156_0 h)
/-! isDigit -/
def w_157_9 (T : Nat → List Value → yS → (Option Value → yS → Prop) → Prop)  (a0 : Int32) (t0 : Int32) (s : yS) (P : Option Value → yS → Prop) : Prop :=
  (t0 == 0 || t0 == 1) = true ∧ P (some (.int t0)) s
set_option maxRecDepth 20000 in
theorem k_157_9 {d : Nat}  {a0 : Int32} {t0 : Int32} {s : yS} {P : Option Value → yS → Prop}  (h : w_157_9 (Tot d)  a0 t0 s P) : Go d 1 (some .boolean) xE_157 (xE_157.drop 9) [.int a0, .null] [.int t0] s P := by
  unfold w_157_9 at h
  exact g_retZ rfl h.1 h.2
def w_157_8 (T : Nat → List Value → yS → (Option Value → yS → Prop) → Prop)  (a0 : Int32) (s : yS) (P : Option Value → yS → Prop) : Prop :=
  w_157_9 T  a0 0 s P
set_option maxRecDepth 20000 in
theorem k_157_8 {d : Nat}  {a0 : Int32} {s : yS} {P : Option Value → yS → Prop}  (h : w_157_8 (Tot d)  a0 s P) : Go d 1 (some .boolean) xE_157 (xE_157.drop 8) [.int a0, .null] [] s P := by
  unfold w_157_8 at h
  refine g_c [.int 0] (xo_push (.int 0)) rfl rfl ?_
  exact k_157_9  h
def w_157_0 (T : Nat → List Value → yS → (Option Value → yS → Prop) → Prop)  (a0 : Int32) (s : yS) (P : Option Value → yS → Prop) : Prop :=
  (a0 < 48 → w_157_8 T  a0  s P) ∧ (¬ (a0 < 48) → (57 < a0 → w_157_8 T  a0  s P) ∧ (¬ (57 < a0) → w_157_9 T  a0 1 s P))
set_option maxRecDepth 20000 in
theorem k_157_0 {d : Nat}  {a0 : Int32} {s : yS} {P : Option Value → yS → Prop}  (h : w_157_0 (Tot d)  a0 s P) : Go d 1 (some .boolean) xE_157 (xE_157.drop 0) [.int a0, .null] [] s P := by
  unfold w_157_0 at h
  refine g_ld rfl rfl rfl ?_
  refine g_c [.int 48, .int a0] (xo_push (.int 48)) rfl rfl ?_
  refine g_brP rfl rfl ⟨fun hc => ?_, fun hc => ?_⟩
  · replace h := h.1 hc
    exact k_157_8  h
  · replace h := h.2 hc
    refine g_ld rfl rfl rfl ?_
    refine g_c [.int 57, .int a0] (xo_push (.int 57)) rfl rfl ?_
    refine g_brP rfl rfl ⟨fun hc => ?_, fun hc => ?_⟩
    · replace h := h.1 hc
      exact k_157_8  h
    · replace h := h.2 hc
      refine g_c [.int 1] (xo_push (.int 1)) rfl rfl ?_
      refine g_go rfl ?_
      exact k_157_9  h
theorem t_157 {d : Nat} {a0 : Int32} {s : yS} {P : Option Value → yS → Prop} (h : w_157_0 (Tot d) a0 s P) : Tot (d + 1) 157 [.int a0] s P := tot_of (E := xE_157) (ml := 1) (ret := some .boolean) rfl rfl rfl (k_157_0 h)
/-! rank -/
def w_158_23 (T : Nat → List Value → yS → (Option Value → yS → Prop) → Prop)  (a0 : Int32) (t0 : Int32) (s : yS) (P : Option Value → yS → Prop) : Prop :=
  P (some (.int t0)) s
set_option maxRecDepth 20000 in
theorem k_158_23 {d : Nat}  {a0 : Int32} {t0 : Int32} {s : yS} {P : Option Value → yS → Prop}  (h : w_158_23 (Tot d)  a0 t0 s P) : Go d 1 (some .int) xE_158 (xE_158.drop 23) [.int a0, .null] [.int t0] s P := by
  unfold w_158_23 at h
  exact g_retI rfl h
def w_158_0 (T : Nat → List Value → yS → (Option Value → yS → Prop) → Prop)  (a0 : Int32) (s : yS) (P : Option Value → yS → Prop) : Prop :=
  (a0 < 97 → (a0 < 65 → w_158_23 T  a0 ((a0 - 48) + 53) s P) ∧ (¬ (a0 < 65) → w_158_23 T  a0 ((a0 - 65) + 27) s P)) ∧ (¬ (a0 < 97) → w_158_23 T  a0 ((a0 - 97) + 1) s P)
set_option maxRecDepth 20000 in
theorem k_158_0 {d : Nat}  {a0 : Int32} {s : yS} {P : Option Value → yS → Prop}  (h : w_158_0 (Tot d)  a0 s P) : Go d 1 (some .int) xE_158 (xE_158.drop 0) [.int a0, .null] [] s P := by
  unfold w_158_0 at h
  refine g_ld rfl rfl rfl ?_
  refine g_c [.int 97, .int a0] (xo_push (.int 97)) rfl rfl ?_
  refine g_brP rfl rfl ⟨fun hc => ?_, fun hc => ?_⟩
  · replace h := h.1 hc
    refine g_ld rfl rfl rfl ?_
    refine g_c [.int 65, .int a0] (xo_push (.int 65)) rfl rfl ?_
    refine g_brP rfl rfl ⟨fun hc => ?_, fun hc => ?_⟩
    · replace h := h.1 hc
      refine g_ld rfl rfl rfl ?_
      refine g_c [.int 48, .int a0] (xo_push (.int 48)) rfl rfl ?_
      refine g_c [.int (a0 - 48)] xo_isub rfl rfl ?_
      refine g_c [.int 53, .int (a0 - 48)] (xo_push (.int 53)) rfl rfl ?_
      refine g_c [.int ((a0 - 48) + 53)] xo_iadd rfl rfl ?_
      exact k_158_23  h
    · replace h := h.2 hc
      refine g_ld rfl rfl rfl ?_
      refine g_c [.int 65, .int a0] (xo_push (.int 65)) rfl rfl ?_
      refine g_c [.int (a0 - 65)] xo_isub rfl rfl ?_
      refine g_c [.int 27, .int (a0 - 65)] (xo_push (.int 27)) rfl rfl ?_
      refine g_c [.int ((a0 - 65) + 27)] xo_iadd rfl rfl ?_
      refine g_go rfl ?_
      exact k_158_23  h
  · replace h := h.2 hc
    refine g_ld rfl rfl rfl ?_
    refine g_c [.int 97, .int a0] (xo_push (.int 97)) rfl rfl ?_
    refine g_c [.int (a0 - 97)] xo_isub rfl rfl ?_
    refine g_c [.int 1, .int (a0 - 97)] (xo_push (.int 1)) rfl rfl ?_
    refine g_c [.int ((a0 - 97) + 1)] xo_iadd rfl rfl ?_
    refine g_go rfl ?_
    exact k_158_23  h
theorem t_158 {d : Nat} {a0 : Int32} {s : yS} {P : Option Value → yS → Prop} (h : w_158_0 (Tot d) a0 s P) : Tot (d + 1) 158 [.int a0] s P := tot_of (E := xE_158) (ml := 1) (ret := some .int) rfl rfl rfl (k_158_0 h)
/-! isSignOf -/
def w_159_30 (T : Nat → List Value → yS → (Option Value → yS → Prop) → Prop)  (a0 : Int32) (t0 : Int32) (s : yS) (P : Option Value → yS → Prop) : Prop :=
  (t0 == 0 || t0 == 1) = true ∧ P (some (.int t0)) s
set_option maxRecDepth 20000 in
theorem k_159_30 {d : Nat}  {a0 : Int32} {t0 : Int32} {s : yS} {P : Option Value → yS → Prop}  (h : w_159_30 (Tot d)  a0 t0 s P) : Go d 1 (some .boolean) xE_159 (xE_159.drop 30) [.int a0, .null] [.int t0] s P := by
  unfold w_159_30 at h
  exact g_retZ rfl h.1 h.2
def w_159_27 (T : Nat → List Value → yS → (Option Value → yS → Prop) → Prop)  (a0 : Int32) (s : yS) (P : Option Value → yS → Prop) : Prop :=
  w_159_30 T  a0 1 s P
set_option maxRecDepth 20000 in
theorem k_159_27 {d : Nat}  {a0 : Int32} {s : yS} {P : Option Value → yS → Prop}  (h : w_159_27 (Tot d)  a0 s P) : Go d 1 (some .boolean) xE_159 (xE_159.drop 27) [.int a0, .null] [] s P := by
  unfold w_159_27 at h
  refine g_c [.int 1] (xo_push (.int 1)) rfl rfl ?_
  refine g_go rfl ?_
  exact k_159_30  h
def w_159_0 (T : Nat → List Value → yS → (Option Value → yS → Prop) → Prop)  (a0 : Int32) (s : yS) (P : Option Value → yS → Prop) : Prop :=
  (a0 = 123 → w_159_27 T  a0  s P) ∧ (¬ (a0 = 123) → (a0 = 125 → w_159_27 T  a0  s P) ∧ (¬ (a0 = 125) → (a0 = 40 → w_159_27 T  a0  s P) ∧ (¬ (a0 = 40) → (a0 = 41 → w_159_27 T  a0  s P) ∧ (¬ (a0 = 41) → (a0 = 91 → w_159_27 T  a0  s P) ∧ (¬ (a0 = 91) → (a0 = 93 → w_159_27 T  a0  s P) ∧ (¬ (a0 = 93) → (a0 = 44 → w_159_27 T  a0  s P) ∧ (¬ (a0 = 44) → (a0 = 59 → w_159_27 T  a0  s P) ∧ (¬ (a0 = 59) → (¬ (a0 = 46) → w_159_30 T  a0 0 s P) ∧ (a0 = 46 → w_159_27 T  a0  s P)))))))))
set_option maxRecDepth 20000 in
theorem k_159_0 {d : Nat}  {a0 : Int32} {s : yS} {P : Option Value → yS → Prop}  (h : w_159_0 (Tot d)  a0 s P) : Go d 1 (some .boolean) xE_159 (xE_159.drop 0) [.int a0, .null] [] s P := by
  unfold w_159_0 at h
  refine g_ld rfl rfl rfl ?_
  refine g_c [.int 123, .int a0] (xo_push (.int 123)) rfl rfl ?_
  refine g_brP rfl rfl ⟨fun hc => ?_, fun hc => ?_⟩
  · replace h := h.1 hc
    exact k_159_27  h
  · replace h := h.2 hc
    refine g_ld rfl rfl rfl ?_
    refine g_c [.int 125, .int a0] (xo_push (.int 125)) rfl rfl ?_
    refine g_brP rfl rfl ⟨fun hc => ?_, fun hc => ?_⟩
    · replace h := h.1 hc
      exact k_159_27  h
    · replace h := h.2 hc
      refine g_ld rfl rfl rfl ?_
      refine g_c [.int 40, .int a0] (xo_push (.int 40)) rfl rfl ?_
      refine g_brP rfl rfl ⟨fun hc => ?_, fun hc => ?_⟩
      · replace h := h.1 hc
        exact k_159_27  h
      · replace h := h.2 hc
        refine g_ld rfl rfl rfl ?_
        refine g_c [.int 41, .int a0] (xo_push (.int 41)) rfl rfl ?_
        refine g_brP rfl rfl ⟨fun hc => ?_, fun hc => ?_⟩
        · replace h := h.1 hc
          exact k_159_27  h
        · replace h := h.2 hc
          refine g_ld rfl rfl rfl ?_
          refine g_c [.int 91, .int a0] (xo_push (.int 91)) rfl rfl ?_
          refine g_brP rfl rfl ⟨fun hc => ?_, fun hc => ?_⟩
          · replace h := h.1 hc
            exact k_159_27  h
          · replace h := h.2 hc
            refine g_ld rfl rfl rfl ?_
            refine g_c [.int 93, .int a0] (xo_push (.int 93)) rfl rfl ?_
            refine g_brP rfl rfl ⟨fun hc => ?_, fun hc => ?_⟩
            · replace h := h.1 hc
              exact k_159_27  h
            · replace h := h.2 hc
              refine g_ld rfl rfl rfl ?_
              refine g_c [.int 44, .int a0] (xo_push (.int 44)) rfl rfl ?_
              refine g_brP rfl rfl ⟨fun hc => ?_, fun hc => ?_⟩
              · replace h := h.1 hc
                exact k_159_27  h
              · replace h := h.2 hc
                refine g_ld rfl rfl rfl ?_
                refine g_c [.int 59, .int a0] (xo_push (.int 59)) rfl rfl ?_
                refine g_brP rfl rfl ⟨fun hc => ?_, fun hc => ?_⟩
                · replace h := h.1 hc
                  exact k_159_27  h
                · replace h := h.2 hc
                  refine g_ld rfl rfl rfl ?_
                  refine g_c [.int 46, .int a0] (xo_push (.int 46)) rfl rfl ?_
                  refine g_brN rfl rfl ⟨fun hc => ?_, fun hc => ?_⟩
                  · replace h := h.1 hc
                    refine g_c [.int 0] (xo_push (.int 0)) rfl rfl ?_
                    exact k_159_30  h
                  · replace h := h.2 hc
                    exact k_159_27  h
theorem t_159 {d : Nat} {a0 : Int32} {s : yS} {P : Option Value → yS → Prop} (h : w_159_0 (Tot d) a0 s P) : Tot (d + 1) 159 [.int a0] s P := tot_of (E := xE_159) (ml := 1) (ret := some .boolean) rfl rfl rfl (k_159_0 h)
/-! wordOf -/
def w_160_34 (T : Nat → List Value → yS → (Option Value → yS → Prop) → Prop) (R7 : Int64 → Int64 → Int32 → Int32 → yS → Prop) (a1 : Int64) (a3 : Int64) (a5 : Int32) (a6 : Int32) (s : yS) (P : Option Value → yS → Prop) : Prop :=
  R7 a1 a3 a5 (a6 + 1)  s
set_option maxRecDepth 20000 in
theorem k_160_34 {d : Nat} {R7 : Int64 → Int64 → Int32 → Int32 → yS → Prop} {a1 : Int64} {a3 : Int64} {a5 : Int32} {a6 : Int32} {s : yS} {P : Option Value → yS → Prop} (r7 : ∀ a1 a3 a5 a6 s, R7 a1 a3 a5 a6 s → Go d 7 (some .int) xE_160 (xE_160.drop 7) [.ref 213, .long a1, .null, .long a3, .null, .int a5, .int a6, .null, .null, .null, .null, .null] [] s P) (h : w_160_34 (Tot d) R7 a1 a3 a5 a6 s P) : Go d 7 (some .int) xE_160 (xE_160.drop 34) [.ref 213, .long a1, .null, .long a3, .null, .int a5, .int a6, .null, .null, .null, .null, .null] [] s P := by
  unfold w_160_34 at h
  refine g_inc [.ref 213, .long a1, .null, .long a3, .null, .int a5, .int (a6 + 1), .null, .null, .null, .null, .null] rfl rfl rfl rfl ?_
  refine g_go rfl ?_
  exact r7 a1 a3 a5 (a6 + 1)  s h
def w_160_7 (T : Nat → List Value → yS → (Option Value → yS → Prop) → Prop) (R7 : Int64 → Int64 → Int32 → Int32 → yS → Prop) (a1 : Int64) (a3 : Int64) (a5 : Int32) (a6 : Int32) (s : yS) (P : Option Value → yS → Prop) : Prop :=
  xIn (s.1 9) 3 = true ∧ (((s.2.1 220 (Int32.toNatClampNeg (s.1 9))) ≤ a6 → xIn (s.1 9) 3 = true ∧ (xIn (a5 + (s.2.1 220 (Int32.toNatClampNeg (s.1 9)))) 6300 = true ∧ (∀ s1, s1 = sl s 218 (Int32.toNatClampNeg (a5 + (s.2.1 220 (Int32.toNatClampNeg (s.1 9))))) a1 → xIn (s1.1 9) 3 = true ∧ (xIn (a5 + (s1.2.1 220 (Int32.toNatClampNeg (s1.1 9)))) 6300 = true ∧ (∀ s2, s2 = sl s1 219 (Int32.toNatClampNeg (a5 + (s1.2.1 220 (Int32.toNatClampNeg (s1.1 9))))) a3 → xIn (s2.1 9) 3 = true ∧ (xIn (s2.1 9) 3 = true ∧ (∀ s3, s3 = sa s2 220 (Int32.toNatClampNeg (s2.1 9)) ((s2.2.1 220 (Int32.toNatClampNeg (s2.1 9))) + 1) → xIn (s3.1 9) 3 = true ∧ (P (some (.int ((s3.2.1 220 (Int32.toNatClampNeg (s3.1 9))) - 1))) s3)))))))) ∧ (¬ ((s.2.1 220 (Int32.toNatClampNeg (s.1 9))) ≤ a6) → xIn (a5 + a6) 6300 = true ∧ ((¬ ((lg_cmp (s.2.2 218 (Int32.toNatClampNeg (a5 + a6))) a1) = 0) → w_160_34 T R7 a1 a3 a5 a6  s P) ∧ ((lg_cmp (s.2.2 218 (Int32.toNatClampNeg (a5 + a6))) a1) = 0 → xIn (a5 + a6) 6300 = true ∧ ((¬ ((lg_cmp (s.2.2 219 (Int32.toNatClampNeg (a5 + a6))) a3) = 0) → w_160_34 T R7 a1 a3 a5 a6  s P) ∧ ((lg_cmp (s.2.2 219 (Int32.toNatClampNeg (a5 + a6))) a3) = 0 → P (some (.int a6)) s))))))
set_option maxRecDepth 20000 in
theorem k_160_7 {d : Nat} {R7 : Int64 → Int64 → Int32 → Int32 → yS → Prop} {a1 : Int64} {a3 : Int64} {a5 : Int32} {a6 : Int32} {s : yS} {P : Option Value → yS → Prop} (r7 : ∀ a1 a3 a5 a6 s, R7 a1 a3 a5 a6 s → Go d 7 (some .int) xE_160 (xE_160.drop 7) [.ref 213, .long a1, .null, .long a3, .null, .int a5, .int a6, .null, .null, .null, .null, .null] [] s P) (h : w_160_7 (Tot d) R7 a1 a3 a5 a6 s P) : Go d 7 (some .int) xE_160 (xE_160.drop 7) [.ref 213, .long a1, .null, .long a3, .null, .int a5, .int a6, .null, .null, .null, .null, .null] [] s P := by
  unfold w_160_7 at h
  refine g_ld rfl rfl rfl ?_
  refine g_ld rfl rfl rfl ?_
  refine g_get rfl rfl ?_
  change Go _ _ _ _ _ _ [.ref 220, .int a6] _ _
  refine g_ld rfl rfl rfl ?_
  refine g_get rfl rfl ?_
  change Go _ _ _ _ _ _ [.int (s.1 9), .ref 220, .int a6] _ _
  refine g_ial rfl rfl h.1 ?_
  replace h := h.2
  refine g_brP rfl rfl ⟨fun hc => ?_, fun hc => ?_⟩
  · replace h := h.1 hc
    refine g_ld rfl rfl rfl ?_
    refine g_get rfl rfl ?_
    change Go _ _ _ _ _ _ [.ref 218] _ _
    refine g_ld rfl rfl rfl ?_
    refine g_ld rfl rfl rfl ?_
    refine g_get rfl rfl ?_
    change Go _ _ _ _ _ _ [.ref 220, .int a5, .ref 218] _ _
    refine g_ld rfl rfl rfl ?_
    refine g_get rfl rfl ?_
    change Go _ _ _ _ _ _ [.int (s.1 9), .ref 220, .int a5, .ref 218] _ _
    refine g_ial rfl rfl h.1 ?_
    replace h := h.2
    refine g_c [.int (a5 + (s.2.1 220 (Int32.toNatClampNeg (s.1 9)))), .ref 218] xo_iadd rfl rfl ?_
    refine g_ld rfl rfl rfl ?_
    refine g_las rfl rfl h.1 ?_
    replace h := h.2
    replace h := h _ rfl
    refine g_ld rfl rfl rfl ?_
    refine g_get rfl rfl ?_
    change Go _ _ _ _ _ _ [.ref 219] _ _
    refine g_ld rfl rfl rfl ?_
    refine g_ld rfl rfl rfl ?_
    refine g_get rfl rfl ?_
    change Go _ _ _ _ _ _ [.ref 220, .int a5, .ref 219] _ _
    refine g_ld rfl rfl rfl ?_
    refine g_get rfl rfl ?_
    change Go _ _ _ _ _ _ [.int ((sl s 218 (Int32.toNatClampNeg (a5 + (s.2.1 220 (Int32.toNatClampNeg (s.1 9))))) a1).1 9), .ref 220, .int a5, .ref 219] _ _
    refine g_ial rfl rfl h.1 ?_
    replace h := h.2
    refine g_c [.int (a5 + ((sl s 218 (Int32.toNatClampNeg (a5 + (s.2.1 220 (Int32.toNatClampNeg (s.1 9))))) a1).2.1 220 (Int32.toNatClampNeg ((sl s 218 (Int32.toNatClampNeg (a5 + (s.2.1 220 (Int32.toNatClampNeg (s.1 9))))) a1).1 9)))), .ref 219] xo_iadd rfl rfl ?_
    refine g_ld rfl rfl rfl ?_
    refine g_las rfl rfl h.1 ?_
    replace h := h.2
    replace h := h _ rfl
    refine g_ld rfl rfl rfl ?_
    refine g_get rfl rfl ?_
    change Go _ _ _ _ _ _ [.ref 220] _ _
    refine g_ld rfl rfl rfl ?_
    refine g_get rfl rfl ?_
    change Go _ _ _ _ _ _ [.int ((sl (sl s 218 (Int32.toNatClampNeg (a5 + (s.2.1 220 (Int32.toNatClampNeg (s.1 9))))) a1) 219 (Int32.toNatClampNeg (a5 + ((sl s 218 (Int32.toNatClampNeg (a5 + (s.2.1 220 (Int32.toNatClampNeg (s.1 9))))) a1).2.1 220 (Int32.toNatClampNeg ((sl s 218 (Int32.toNatClampNeg (a5 + (s.2.1 220 (Int32.toNatClampNeg (s.1 9))))) a1).1 9))))) a3).1 9), .ref 220] _ _
    refine g_c [.int ((sl (sl s 218 (Int32.toNatClampNeg (a5 + (s.2.1 220 (Int32.toNatClampNeg (s.1 9))))) a1) 219 (Int32.toNatClampNeg (a5 + ((sl s 218 (Int32.toNatClampNeg (a5 + (s.2.1 220 (Int32.toNatClampNeg (s.1 9))))) a1).2.1 220 (Int32.toNatClampNeg ((sl s 218 (Int32.toNatClampNeg (a5 + (s.2.1 220 (Int32.toNatClampNeg (s.1 9))))) a1).1 9))))) a3).1 9), .ref 220, .int ((sl (sl s 218 (Int32.toNatClampNeg (a5 + (s.2.1 220 (Int32.toNatClampNeg (s.1 9))))) a1) 219 (Int32.toNatClampNeg (a5 + ((sl s 218 (Int32.toNatClampNeg (a5 + (s.2.1 220 (Int32.toNatClampNeg (s.1 9))))) a1).2.1 220 (Int32.toNatClampNeg ((sl s 218 (Int32.toNatClampNeg (a5 + (s.2.1 220 (Int32.toNatClampNeg (s.1 9))))) a1).1 9))))) a3).1 9), .ref 220] xo_dup2 rfl rfl ?_
    refine g_ial rfl rfl h.1 ?_
    replace h := h.2
    refine g_c [.int 1, .int ((sl (sl s 218 (Int32.toNatClampNeg (a5 + (s.2.1 220 (Int32.toNatClampNeg (s.1 9))))) a1) 219 (Int32.toNatClampNeg (a5 + ((sl s 218 (Int32.toNatClampNeg (a5 + (s.2.1 220 (Int32.toNatClampNeg (s.1 9))))) a1).2.1 220 (Int32.toNatClampNeg ((sl s 218 (Int32.toNatClampNeg (a5 + (s.2.1 220 (Int32.toNatClampNeg (s.1 9))))) a1).1 9))))) a3).2.1 220 (Int32.toNatClampNeg ((sl (sl s 218 (Int32.toNatClampNeg (a5 + (s.2.1 220 (Int32.toNatClampNeg (s.1 9))))) a1) 219 (Int32.toNatClampNeg (a5 + ((sl s 218 (Int32.toNatClampNeg (a5 + (s.2.1 220 (Int32.toNatClampNeg (s.1 9))))) a1).2.1 220 (Int32.toNatClampNeg ((sl s 218 (Int32.toNatClampNeg (a5 + (s.2.1 220 (Int32.toNatClampNeg (s.1 9))))) a1).1 9))))) a3).1 9))), .int ((sl (sl s 218 (Int32.toNatClampNeg (a5 + (s.2.1 220 (Int32.toNatClampNeg (s.1 9))))) a1) 219 (Int32.toNatClampNeg (a5 + ((sl s 218 (Int32.toNatClampNeg (a5 + (s.2.1 220 (Int32.toNatClampNeg (s.1 9))))) a1).2.1 220 (Int32.toNatClampNeg ((sl s 218 (Int32.toNatClampNeg (a5 + (s.2.1 220 (Int32.toNatClampNeg (s.1 9))))) a1).1 9))))) a3).1 9), .ref 220] (xo_push (.int 1)) rfl rfl ?_
    refine g_c [.int (((sl (sl s 218 (Int32.toNatClampNeg (a5 + (s.2.1 220 (Int32.toNatClampNeg (s.1 9))))) a1) 219 (Int32.toNatClampNeg (a5 + ((sl s 218 (Int32.toNatClampNeg (a5 + (s.2.1 220 (Int32.toNatClampNeg (s.1 9))))) a1).2.1 220 (Int32.toNatClampNeg ((sl s 218 (Int32.toNatClampNeg (a5 + (s.2.1 220 (Int32.toNatClampNeg (s.1 9))))) a1).1 9))))) a3).2.1 220 (Int32.toNatClampNeg ((sl (sl s 218 (Int32.toNatClampNeg (a5 + (s.2.1 220 (Int32.toNatClampNeg (s.1 9))))) a1) 219 (Int32.toNatClampNeg (a5 + ((sl s 218 (Int32.toNatClampNeg (a5 + (s.2.1 220 (Int32.toNatClampNeg (s.1 9))))) a1).2.1 220 (Int32.toNatClampNeg ((sl s 218 (Int32.toNatClampNeg (a5 + (s.2.1 220 (Int32.toNatClampNeg (s.1 9))))) a1).1 9))))) a3).1 9))) + 1), .int ((sl (sl s 218 (Int32.toNatClampNeg (a5 + (s.2.1 220 (Int32.toNatClampNeg (s.1 9))))) a1) 219 (Int32.toNatClampNeg (a5 + ((sl s 218 (Int32.toNatClampNeg (a5 + (s.2.1 220 (Int32.toNatClampNeg (s.1 9))))) a1).2.1 220 (Int32.toNatClampNeg ((sl s 218 (Int32.toNatClampNeg (a5 + (s.2.1 220 (Int32.toNatClampNeg (s.1 9))))) a1).1 9))))) a3).1 9), .ref 220] xo_iadd rfl rfl ?_
    refine g_ias rfl rfl h.1 ?_
    replace h := h.2
    replace h := h _ rfl
    refine g_ld rfl rfl rfl ?_
    refine g_get rfl rfl ?_
    change Go _ _ _ _ _ _ [.ref 220] _ _
    refine g_ld rfl rfl rfl ?_
    refine g_get rfl rfl ?_
    change Go _ _ _ _ _ _ [.int ((sa (sl (sl s 218 (Int32.toNatClampNeg (a5 + (s.2.1 220 (Int32.toNatClampNeg (s.1 9))))) a1) 219 (Int32.toNatClampNeg (a5 + ((sl s 218 (Int32.toNatClampNeg (a5 + (s.2.1 220 (Int32.toNatClampNeg (s.1 9))))) a1).2.1 220 (Int32.toNatClampNeg ((sl s 218 (Int32.toNatClampNeg (a5 + (s.2.1 220 (Int32.toNatClampNeg (s.1 9))))) a1).1 9))))) a3) 220 (Int32.toNatClampNeg ((sl (sl s 218 (Int32.toNatClampNeg (a5 + (s.2.1 220 (Int32.toNatClampNeg (s.1 9))))) a1) 219 (Int32.toNatClampNeg (a5 + ((sl s 218 (Int32.toNatClampNeg (a5 + (s.2.1 220 (Int32.toNatClampNeg (s.1 9))))) a1).2.1 220 (Int32.toNatClampNeg ((sl s 218 (Int32.toNatClampNeg (a5 + (s.2.1 220 (Int32.toNatClampNeg (s.1 9))))) a1).1 9))))) a3).1 9)) (((sl (sl s 218 (Int32.toNatClampNeg (a5 + (s.2.1 220 (Int32.toNatClampNeg (s.1 9))))) a1) 219 (Int32.toNatClampNeg (a5 + ((sl s 218 (Int32.toNatClampNeg (a5 + (s.2.1 220 (Int32.toNatClampNeg (s.1 9))))) a1).2.1 220 (Int32.toNatClampNeg ((sl s 218 (Int32.toNatClampNeg (a5 + (s.2.1 220 (Int32.toNatClampNeg (s.1 9))))) a1).1 9))))) a3).2.1 220 (Int32.toNatClampNeg ((sl (sl s 218 (Int32.toNatClampNeg (a5 + (s.2.1 220 (Int32.toNatClampNeg (s.1 9))))) a1) 219 (Int32.toNatClampNeg (a5 + ((sl s 218 (Int32.toNatClampNeg (a5 + (s.2.1 220 (Int32.toNatClampNeg (s.1 9))))) a1).2.1 220 (Int32.toNatClampNeg ((sl s 218 (Int32.toNatClampNeg (a5 + (s.2.1 220 (Int32.toNatClampNeg (s.1 9))))) a1).1 9))))) a3).1 9))) + 1)).1 9), .ref 220] _ _
    refine g_ial rfl rfl h.1 ?_
    replace h := h.2
    refine g_c [.int 1, .int ((sa (sl (sl s 218 (Int32.toNatClampNeg (a5 + (s.2.1 220 (Int32.toNatClampNeg (s.1 9))))) a1) 219 (Int32.toNatClampNeg (a5 + ((sl s 218 (Int32.toNatClampNeg (a5 + (s.2.1 220 (Int32.toNatClampNeg (s.1 9))))) a1).2.1 220 (Int32.toNatClampNeg ((sl s 218 (Int32.toNatClampNeg (a5 + (s.2.1 220 (Int32.toNatClampNeg (s.1 9))))) a1).1 9))))) a3) 220 (Int32.toNatClampNeg ((sl (sl s 218 (Int32.toNatClampNeg (a5 + (s.2.1 220 (Int32.toNatClampNeg (s.1 9))))) a1) 219 (Int32.toNatClampNeg (a5 + ((sl s 218 (Int32.toNatClampNeg (a5 + (s.2.1 220 (Int32.toNatClampNeg (s.1 9))))) a1).2.1 220 (Int32.toNatClampNeg ((sl s 218 (Int32.toNatClampNeg (a5 + (s.2.1 220 (Int32.toNatClampNeg (s.1 9))))) a1).1 9))))) a3).1 9)) (((sl (sl s 218 (Int32.toNatClampNeg (a5 + (s.2.1 220 (Int32.toNatClampNeg (s.1 9))))) a1) 219 (Int32.toNatClampNeg (a5 + ((sl s 218 (Int32.toNatClampNeg (a5 + (s.2.1 220 (Int32.toNatClampNeg (s.1 9))))) a1).2.1 220 (Int32.toNatClampNeg ((sl s 218 (Int32.toNatClampNeg (a5 + (s.2.1 220 (Int32.toNatClampNeg (s.1 9))))) a1).1 9))))) a3).2.1 220 (Int32.toNatClampNeg ((sl (sl s 218 (Int32.toNatClampNeg (a5 + (s.2.1 220 (Int32.toNatClampNeg (s.1 9))))) a1) 219 (Int32.toNatClampNeg (a5 + ((sl s 218 (Int32.toNatClampNeg (a5 + (s.2.1 220 (Int32.toNatClampNeg (s.1 9))))) a1).2.1 220 (Int32.toNatClampNeg ((sl s 218 (Int32.toNatClampNeg (a5 + (s.2.1 220 (Int32.toNatClampNeg (s.1 9))))) a1).1 9))))) a3).1 9))) + 1)).2.1 220 (Int32.toNatClampNeg ((sa (sl (sl s 218 (Int32.toNatClampNeg (a5 + (s.2.1 220 (Int32.toNatClampNeg (s.1 9))))) a1) 219 (Int32.toNatClampNeg (a5 + ((sl s 218 (Int32.toNatClampNeg (a5 + (s.2.1 220 (Int32.toNatClampNeg (s.1 9))))) a1).2.1 220 (Int32.toNatClampNeg ((sl s 218 (Int32.toNatClampNeg (a5 + (s.2.1 220 (Int32.toNatClampNeg (s.1 9))))) a1).1 9))))) a3) 220 (Int32.toNatClampNeg ((sl (sl s 218 (Int32.toNatClampNeg (a5 + (s.2.1 220 (Int32.toNatClampNeg (s.1 9))))) a1) 219 (Int32.toNatClampNeg (a5 + ((sl s 218 (Int32.toNatClampNeg (a5 + (s.2.1 220 (Int32.toNatClampNeg (s.1 9))))) a1).2.1 220 (Int32.toNatClampNeg ((sl s 218 (Int32.toNatClampNeg (a5 + (s.2.1 220 (Int32.toNatClampNeg (s.1 9))))) a1).1 9))))) a3).1 9)) (((sl (sl s 218 (Int32.toNatClampNeg (a5 + (s.2.1 220 (Int32.toNatClampNeg (s.1 9))))) a1) 219 (Int32.toNatClampNeg (a5 + ((sl s 218 (Int32.toNatClampNeg (a5 + (s.2.1 220 (Int32.toNatClampNeg (s.1 9))))) a1).2.1 220 (Int32.toNatClampNeg ((sl s 218 (Int32.toNatClampNeg (a5 + (s.2.1 220 (Int32.toNatClampNeg (s.1 9))))) a1).1 9))))) a3).2.1 220 (Int32.toNatClampNeg ((sl (sl s 218 (Int32.toNatClampNeg (a5 + (s.2.1 220 (Int32.toNatClampNeg (s.1 9))))) a1) 219 (Int32.toNatClampNeg (a5 + ((sl s 218 (Int32.toNatClampNeg (a5 + (s.2.1 220 (Int32.toNatClampNeg (s.1 9))))) a1).2.1 220 (Int32.toNatClampNeg ((sl s 218 (Int32.toNatClampNeg (a5 + (s.2.1 220 (Int32.toNatClampNeg (s.1 9))))) a1).1 9))))) a3).1 9))) + 1)).1 9)))] (xo_push (.int 1)) rfl rfl ?_
    refine g_c [.int (((sa (sl (sl s 218 (Int32.toNatClampNeg (a5 + (s.2.1 220 (Int32.toNatClampNeg (s.1 9))))) a1) 219 (Int32.toNatClampNeg (a5 + ((sl s 218 (Int32.toNatClampNeg (a5 + (s.2.1 220 (Int32.toNatClampNeg (s.1 9))))) a1).2.1 220 (Int32.toNatClampNeg ((sl s 218 (Int32.toNatClampNeg (a5 + (s.2.1 220 (Int32.toNatClampNeg (s.1 9))))) a1).1 9))))) a3) 220 (Int32.toNatClampNeg ((sl (sl s 218 (Int32.toNatClampNeg (a5 + (s.2.1 220 (Int32.toNatClampNeg (s.1 9))))) a1) 219 (Int32.toNatClampNeg (a5 + ((sl s 218 (Int32.toNatClampNeg (a5 + (s.2.1 220 (Int32.toNatClampNeg (s.1 9))))) a1).2.1 220 (Int32.toNatClampNeg ((sl s 218 (Int32.toNatClampNeg (a5 + (s.2.1 220 (Int32.toNatClampNeg (s.1 9))))) a1).1 9))))) a3).1 9)) (((sl (sl s 218 (Int32.toNatClampNeg (a5 + (s.2.1 220 (Int32.toNatClampNeg (s.1 9))))) a1) 219 (Int32.toNatClampNeg (a5 + ((sl s 218 (Int32.toNatClampNeg (a5 + (s.2.1 220 (Int32.toNatClampNeg (s.1 9))))) a1).2.1 220 (Int32.toNatClampNeg ((sl s 218 (Int32.toNatClampNeg (a5 + (s.2.1 220 (Int32.toNatClampNeg (s.1 9))))) a1).1 9))))) a3).2.1 220 (Int32.toNatClampNeg ((sl (sl s 218 (Int32.toNatClampNeg (a5 + (s.2.1 220 (Int32.toNatClampNeg (s.1 9))))) a1) 219 (Int32.toNatClampNeg (a5 + ((sl s 218 (Int32.toNatClampNeg (a5 + (s.2.1 220 (Int32.toNatClampNeg (s.1 9))))) a1).2.1 220 (Int32.toNatClampNeg ((sl s 218 (Int32.toNatClampNeg (a5 + (s.2.1 220 (Int32.toNatClampNeg (s.1 9))))) a1).1 9))))) a3).1 9))) + 1)).2.1 220 (Int32.toNatClampNeg ((sa (sl (sl s 218 (Int32.toNatClampNeg (a5 + (s.2.1 220 (Int32.toNatClampNeg (s.1 9))))) a1) 219 (Int32.toNatClampNeg (a5 + ((sl s 218 (Int32.toNatClampNeg (a5 + (s.2.1 220 (Int32.toNatClampNeg (s.1 9))))) a1).2.1 220 (Int32.toNatClampNeg ((sl s 218 (Int32.toNatClampNeg (a5 + (s.2.1 220 (Int32.toNatClampNeg (s.1 9))))) a1).1 9))))) a3) 220 (Int32.toNatClampNeg ((sl (sl s 218 (Int32.toNatClampNeg (a5 + (s.2.1 220 (Int32.toNatClampNeg (s.1 9))))) a1) 219 (Int32.toNatClampNeg (a5 + ((sl s 218 (Int32.toNatClampNeg (a5 + (s.2.1 220 (Int32.toNatClampNeg (s.1 9))))) a1).2.1 220 (Int32.toNatClampNeg ((sl s 218 (Int32.toNatClampNeg (a5 + (s.2.1 220 (Int32.toNatClampNeg (s.1 9))))) a1).1 9))))) a3).1 9)) (((sl (sl s 218 (Int32.toNatClampNeg (a5 + (s.2.1 220 (Int32.toNatClampNeg (s.1 9))))) a1) 219 (Int32.toNatClampNeg (a5 + ((sl s 218 (Int32.toNatClampNeg (a5 + (s.2.1 220 (Int32.toNatClampNeg (s.1 9))))) a1).2.1 220 (Int32.toNatClampNeg ((sl s 218 (Int32.toNatClampNeg (a5 + (s.2.1 220 (Int32.toNatClampNeg (s.1 9))))) a1).1 9))))) a3).2.1 220 (Int32.toNatClampNeg ((sl (sl s 218 (Int32.toNatClampNeg (a5 + (s.2.1 220 (Int32.toNatClampNeg (s.1 9))))) a1) 219 (Int32.toNatClampNeg (a5 + ((sl s 218 (Int32.toNatClampNeg (a5 + (s.2.1 220 (Int32.toNatClampNeg (s.1 9))))) a1).2.1 220 (Int32.toNatClampNeg ((sl s 218 (Int32.toNatClampNeg (a5 + (s.2.1 220 (Int32.toNatClampNeg (s.1 9))))) a1).1 9))))) a3).1 9))) + 1)).1 9))) - 1)] xo_isub rfl rfl ?_
    exact g_retI rfl h
  · replace h := h.2 hc
    refine g_ld rfl rfl rfl ?_
    refine g_get rfl rfl ?_
    change Go _ _ _ _ _ _ [.ref 218] _ _
    refine g_ld rfl rfl rfl ?_
    refine g_ld rfl rfl rfl ?_
    refine g_c [.int (a5 + a6), .ref 218] xo_iadd rfl rfl ?_
    refine g_lal rfl rfl h.1 ?_
    replace h := h.2
    refine g_ld rfl rfl rfl ?_
    refine g_c [.int (lg_cmp (s.2.2 218 (Int32.toNatClampNeg (a5 + a6))) a1)] xo_lcmp rfl rfl ?_
    refine g_brN rfl rfl ⟨fun hc => ?_, fun hc => ?_⟩
    · replace h := h.1 hc
      exact k_160_34 r7 h
    · replace h := h.2 hc
      refine g_ld rfl rfl rfl ?_
      refine g_get rfl rfl ?_
      change Go _ _ _ _ _ _ [.ref 219] _ _
      refine g_ld rfl rfl rfl ?_
      refine g_ld rfl rfl rfl ?_
      refine g_c [.int (a5 + a6), .ref 219] xo_iadd rfl rfl ?_
      refine g_lal rfl rfl h.1 ?_
      replace h := h.2
      refine g_ld rfl rfl rfl ?_
      refine g_c [.int (lg_cmp (s.2.2 219 (Int32.toNatClampNeg (a5 + a6))) a3)] xo_lcmp rfl rfl ?_
      refine g_brN rfl rfl ⟨fun hc => ?_, fun hc => ?_⟩
      · replace h := h.1 hc
        exact k_160_34 r7 h
      · replace h := h.2 hc
        refine g_ld rfl rfl rfl ?_
        exact g_retI rfl h
def wl_160_7 (T : Nat → List Value → yS → (Option Value → yS → Prop) → Prop)  (a1 : Int64) (a3 : Int64) (a5 : Int32) (a6 : Int32) (s : yS) (P : Option Value → yS → Prop) : Prop :=
  ∃ (I : Int64 → Int64 → Int32 → Int32 → yS → Prop) (μ : Int64 → Int64 → Int32 → Int32 → yS → Nat), I a1 a3 a5 a6 s ∧ ∀ (a1 : Int64) (a3 : Int64) (a5 : Int32) (a6 : Int32) (s : yS), I a1 a3 a5 a6 s → w_160_7 T (fun a1' a3' a5' a6' s' => I a1' a3' a5' a6' s' ∧ μ a1' a3' a5' a6' s' < μ a1 a3 a5 a6 s) a1 a3 a5 a6 s P
theorem kl_160_7 {d : Nat}  {a1 : Int64} {a3 : Int64} {a5 : Int32} {a6 : Int32} {s : yS} {P : Option Value → yS → Prop}  (h : wl_160_7 (Tot d)  a1 a3 a5 a6 s P) : Go d 7 (some .int) xE_160 (xE_160.drop 7) [.ref 213, .long a1, .null, .long a3, .null, .int a5, .int a6, .null, .null, .null, .null, .null] [] s P := by
  obtain ⟨I, μ, h0, h1⟩ := h
  have key : ∀ (n : Nat) (a1 : Int64) (a3 : Int64) (a5 : Int32) (a6 : Int32) (s : yS), μ a1 a3 a5 a6 s = n → I a1 a3 a5 a6 s → Go d 7 (some .int) xE_160 (xE_160.drop 7) [.ref 213, .long a1, .null, .long a3, .null, .int a5, .int a6, .null, .null, .null, .null, .null] [] s P := by
    intro n
    induction n using Nat.strongRecOn with
    | ind n ih =>
      intro a1 a3 a5 a6 s e hI
      exact k_160_7 (fun a1' a3' a5' a6' s' q => ih _ (by rw [← e]; exact q.2) _ _ _ _ _ rfl q.1) (h1 a1 a3 a5 a6 s hI)
  exact key _ a1 a3 a5 a6 s rfl h0
def w_160_0 (T : Nat → List Value → yS → (Option Value → yS → Prop) → Prop)  (a1 : Int64) (a3 : Int64) (s : yS) (P : Option Value → yS → Prop) : Prop :=
  wl_160_7 T  a1 a3 (2100 * (s.1 9)) 0  s P
set_option maxRecDepth 20000 in
theorem k_160_0 {d : Nat}  {a1 : Int64} {a3 : Int64} {s : yS} {P : Option Value → yS → Prop}  (h : w_160_0 (Tot d)  a1 a3 s P) : Go d 7 (some .int) xE_160 (xE_160.drop 0) [.ref 213, .long a1, .null, .long a3, .null, .null, .null, .null, .null, .null, .null, .null] [] s P := by
  unfold w_160_0 at h
  refine g_c [.int 2100] (xo_push (.int 2100)) rfl rfl ?_
  refine g_ld rfl rfl rfl ?_
  refine g_get rfl rfl ?_
  change Go _ _ _ _ _ _ [.int (s.1 9), .int 2100] _ _
  refine g_c [.int (2100 * (s.1 9))] xo_imul rfl rfl ?_
  refine g_st [.ref 213, .long a1, .null, .long a3, .null, .int (2100 * (s.1 9)), .null, .null, .null, .null, .null, .null] rfl rfl rfl ?_
  refine g_c [.int 0] (xo_push (.int 0)) rfl rfl ?_
  refine g_st [.ref 213, .long a1, .null, .long a3, .null, .int (2100 * (s.1 9)), .int 0, .null, .null, .null, .null, .null] rfl rfl rfl ?_
  exact kl_160_7  h
theorem t_160 {d : Nat} {a1 : Int64} {a3 : Int64} {s : yS} {P : Option Value → yS → Prop} (h : w_160_0 (Tot d) a1 a3 s P) : Tot (d + 1) 160 [.ref 213, .long a1, .long a3] s P := tot_of (E := xE_160) (ml := 7) (ret := some .int) rfl rfl rfl (k_160_0 h)
/-! keptWords -/
def w_161_37 (T : Nat → List Value → yS → (Option Value → yS → Prop) → Prop) (R10 : Int64 → Int32 → yS → Prop) (a1 : Int64) (a3 : Int32) (a4 : Int32) (s : yS) (P : Option Value → yS → Prop) : Prop :=
  R10 a1 (a3 + 1)  s
set_option maxRecDepth 20000 in
theorem k_161_37 {d : Nat} {R10 : Int64 → Int32 → yS → Prop} {a1 : Int64} {a3 : Int32} {a4 : Int32} {s : yS} {P : Option Value → yS → Prop} (r10 : ∀ a1 a3 s, R10 a1 a3 s → Go d 6 (none) xE_161 (xE_161.drop 10) [.ref 213, .long a1, .null, .int a3, .null, .null, .null] [] s P) (h : w_161_37 (Tot d) R10 a1 a3 a4 s P) : Go d 6 (none) xE_161 (xE_161.drop 37) [.ref 213, .long a1, .null, .int a3, .int a4, .null, .null] [] s P := by
  unfold w_161_37 at h
  refine g_inc [.ref 213, .long a1, .null, .int (a3 + 1), .int a4, .null, .null] rfl rfl rfl rfl ?_
  refine g_go rfl ?_
  refine g_fg 4 ?_
  exact r10 a1 (a3 + 1)  s h
def w_161_10 (T : Nat → List Value → yS → (Option Value → yS → Prop) → Prop) (R10 : Int64 → Int32 → yS → Prop) (a1 : Int64) (a3 : Int32) (s : yS) (P : Option Value → yS → Prop) : Prop :=
  (39 ≤ a3 → P none s) ∧ (¬ (39 ≤ a3) → xIn a3 39 = true ∧ ((¬ ((xch 0 a3) = 32) → T 158 [.int (xch 0 a3)] s (fun v2 s1 => ∃ x3, v2 = some (.int x3) ∧ (w_161_37 T R10 ((64 * a1) + (Int32.toInt64 x3)) a3 (xch 0 a3)  s1 P))) ∧ ((xch 0 a3) = 32 → T 160 [.ref 213, .long a1, .long 0] s (fun v5 s4 => ∃ x6, v5 = some (.int x6) ∧ (w_161_37 T R10 0 a3 (xch 0 a3)  s4 P)))))
set_option maxRecDepth 20000 in
theorem k_161_10 {d : Nat} {R10 : Int64 → Int32 → yS → Prop} {a1 : Int64} {a3 : Int32} {s : yS} {P : Option Value → yS → Prop} (r10 : ∀ a1 a3 s, R10 a1 a3 s → Go d 6 (none) xE_161 (xE_161.drop 10) [.ref 213, .long a1, .null, .int a3, .null, .null, .null] [] s P) (h : w_161_10 (Tot d) R10 a1 a3 s P) : Go d 6 (none) xE_161 (xE_161.drop 10) [.ref 213, .long a1, .null, .int a3, .null, .null, .null] [] s P := by
  unfold w_161_10 at h
  refine g_ld rfl rfl rfl ?_
  refine g_c [.ref 1000000, .int a3] (xo_push (.ref 1000000)) rfl rfl ?_
  refine g_lenS rfl rfl ?_
  refine g_brP rfl rfl ⟨fun hc => ?_, fun hc => ?_⟩
  · replace h := h.1 hc
    exact g_ret0 rfl h
  · replace h := h.2 hc
    refine g_c [.ref 1000000] (xo_push (.ref 1000000)) rfl rfl ?_
    refine g_ld rfl rfl rfl ?_
    refine g_chS rfl (by rw [h.1]; rfl) ?_
    replace h := h.2
    refine g_st [.ref 213, .long a1, .null, .int a3, .int (xch 0 a3), .null, .null] rfl rfl rfl ?_
    refine g_ld rfl rfl rfl ?_
    refine g_c [.int 32, .int (xch 0 a3)] (xo_push (.int 32)) rfl rfl ?_
    refine g_brN rfl rfl ⟨fun hc => ?_, fun hc => ?_⟩
    · replace h := h.1 hc
      refine g_c [.long 64] (xo_push (.long 64)) rfl rfl ?_
      refine g_ld rfl rfl rfl ?_
      refine g_c [.long (64 * a1)] xo_lmul rfl rfl ?_
      refine g_ld rfl rfl rfl ?_
      refine g_call [.int (xch 0 a3)] [.long (64 * a1)] rfl rfl rfl (Tot.imp h (fun v2 s1 h => ?_))
      obtain ⟨x3, rfl, h⟩ := h
      change Go _ _ _ _ _ _ [.int x3, .long (64 * a1)] _ _
      refine g_c [.long (Int32.toInt64 x3), .long (64 * a1)] xo_i2l rfl rfl ?_
      refine g_c [.long ((64 * a1) + (Int32.toInt64 x3))] xo_ladd rfl rfl ?_
      refine g_stL [.ref 213, .long ((64 * a1) + (Int32.toInt64 x3)), .null, .int a3, .int (xch 0 a3), .null, .null] rfl rfl rfl ?_
      exact k_161_37 r10 h
    · replace h := h.2 hc
      refine g_ld rfl rfl rfl ?_
      refine g_ld rfl rfl rfl ?_
      refine g_c [.long 0, .long a1, .ref 213] (xo_push (.long 0)) rfl rfl ?_
      refine g_call [.ref 213, .long a1, .long 0] [] rfl rfl rfl (Tot.imp h (fun v5 s4 h => ?_))
      obtain ⟨x6, rfl, h⟩ := h
      change Go _ _ _ _ _ _ [.int x6] _ _
      refine g_st [.ref 213, .long a1, .null, .int a3, .int (xch 0 a3), .int x6, .null] rfl rfl rfl ?_
      refine g_c [.long 0] (xo_push (.long 0)) rfl rfl ?_
      refine g_stL [.ref 213, .long 0, .null, .int a3, .int (xch 0 a3), .int x6, .null] rfl rfl rfl ?_
      refine g_go rfl ?_
      refine g_fg 5 ?_
      exact k_161_37 r10 h
def wl_161_10 (T : Nat → List Value → yS → (Option Value → yS → Prop) → Prop)  (a1 : Int64) (a3 : Int32) (s : yS) (P : Option Value → yS → Prop) : Prop :=
  ∃ (I : Int64 → Int32 → yS → Prop) (μ : Int64 → Int32 → yS → Nat), I a1 a3 s ∧ ∀ (a1 : Int64) (a3 : Int32) (s : yS), I a1 a3 s → w_161_10 T (fun a1' a3' s' => I a1' a3' s' ∧ μ a1' a3' s' < μ a1 a3 s) a1 a3 s P
theorem kl_161_10 {d : Nat}  {a1 : Int64} {a3 : Int32} {s : yS} {P : Option Value → yS → Prop}  (h : wl_161_10 (Tot d)  a1 a3 s P) : Go d 6 (none) xE_161 (xE_161.drop 10) [.ref 213, .long a1, .null, .int a3, .null, .null, .null] [] s P := by
  obtain ⟨I, μ, h0, h1⟩ := h
  have key : ∀ (n : Nat) (a1 : Int64) (a3 : Int32) (s : yS), μ a1 a3 s = n → I a1 a3 s → Go d 6 (none) xE_161 (xE_161.drop 10) [.ref 213, .long a1, .null, .int a3, .null, .null, .null] [] s P := by
    intro n
    induction n using Nat.strongRecOn with
    | ind n ih =>
      intro a1 a3 s e hI
      exact k_161_10 (fun a1' a3' s' q => ih _ (by rw [← e]; exact q.2) _ _ _ rfl q.1) (h1 a1 a3 s hI)
  exact key _ a1 a3 s rfl h0
def w_161_0 (T : Nat → List Value → yS → (Option Value → yS → Prop) → Prop)   (s : yS) (P : Option Value → yS → Prop) : Prop :=
  xIn (s.1 9) 3 = true ∧ (∀ s1, s1 = sa s 220 (Int32.toNatClampNeg (s.1 9)) 0 → wl_161_10 T  0 0  s1 P)
set_option maxRecDepth 20000 in
theorem k_161_0 {d : Nat}   {s : yS} {P : Option Value → yS → Prop}  (h : w_161_0 (Tot d)   s P) : Go d 6 (none) xE_161 (xE_161.drop 0) [.ref 213, .null, .null, .null, .null, .null, .null] [] s P := by
  unfold w_161_0 at h
  refine g_ld rfl rfl rfl ?_
  refine g_get rfl rfl ?_
  change Go _ _ _ _ _ _ [.ref 220] _ _
  refine g_ld rfl rfl rfl ?_
  refine g_get rfl rfl ?_
  change Go _ _ _ _ _ _ [.int (s.1 9), .ref 220] _ _
  refine g_c [.int 0, .int (s.1 9), .ref 220] (xo_push (.int 0)) rfl rfl ?_
  refine g_ias rfl rfl h.1 ?_
  replace h := h.2
  replace h := h _ rfl
  refine g_c [.long 0] (xo_push (.long 0)) rfl rfl ?_
  refine g_stL [.ref 213, .long 0, .null, .null, .null, .null, .null] rfl rfl rfl ?_
  refine g_c [.int 0] (xo_push (.int 0)) rfl rfl ?_
  refine g_st [.ref 213, .long 0, .null, .int 0, .null, .null, .null] rfl rfl rfl ?_
  exact kl_161_10  h
theorem t_161 {d : Nat}  {s : yS} {P : Option Value → yS → Prop} (h : w_161_0 (Tot d)  s P) : Tot (d + 1) 161 [.ref 213] s P := tot_of (E := xE_161) (ml := 6) (ret := none) rfl rfl rfl (k_161_0 h)
/-! cutAll -/
def w_162_151 (T : Nat → List Value → yS → (Option Value → yS → Prop) → Prop) (R14 : Int32 → Int32 → yS → Prop) (a1 : Int32) (a2 : Int32) (a3 : Int32) (a4 : Int32) (s : yS) (P : Option Value → yS → Prop) : Prop :=
  R14 (a1 + 1) a2  s
set_option maxRecDepth 20000 in
theorem k_162_151 {d : Nat} {R14 : Int32 → Int32 → yS → Prop} {a1 : Int32} {a2 : Int32} {a3 : Int32} {a4 : Int32} {s : yS} {P : Option Value → yS → Prop} (r14 : ∀ a1 a2 s, R14 a1 a2 s → Go d 10 (none) xE_162 (xE_162.drop 14) [.ref 213, .int a1, .int a2, .null, .null, .null, .null, .null, .null, .null, .null] [] s P) (h : w_162_151 (Tot d) R14 a1 a2 a3 a4 s P) : Go d 10 (none) xE_162 (xE_162.drop 151) [.ref 213, .int a1, .int a2, .int a3, .int a4, .null, .null, .null, .null, .null, .null] [] s P := by
  unfold w_162_151 at h
  refine g_inc [.ref 213, .int (a1 + 1), .int a2, .int a3, .int a4, .null, .null, .null, .null, .null, .null] rfl rfl rfl rfl ?_
  refine g_go rfl ?_
  refine g_fg 3 ?_
  refine g_fg 4 ?_
  exact r14 (a1 + 1) a2  s h
def w_162_144 (T : Nat → List Value → yS → (Option Value → yS → Prop) → Prop) (R14 : Int32 → Int32 → yS → Prop) (a1 : Int32) (a2 : Int32) (a3 : Int32) (a4 : Int32) (t1 : Int32) (t2 : Int32) (s : yS) (P : Option Value → yS → Prop) : Prop :=
  xIn t1 12006 = true ∧ (∀ s1, s1 = sa s 215 (Int32.toNatClampNeg t1) t2 → xIn a1 12006 = true ∧ (∀ s2, s2 = sa s1 217 (Int32.toNatClampNeg a1) a3 → w_162_151 T R14 a1 (a2 + 1) a3 a4  s2 P))
set_option maxRecDepth 20000 in
theorem k_162_144 {d : Nat} {R14 : Int32 → Int32 → yS → Prop} {a1 : Int32} {a2 : Int32} {a3 : Int32} {a4 : Int32} {t1 : Int32} {t2 : Int32} {s : yS} {P : Option Value → yS → Prop} (r14 : ∀ a1 a2 s, R14 a1 a2 s → Go d 10 (none) xE_162 (xE_162.drop 14) [.ref 213, .int a1, .int a2, .null, .null, .null, .null, .null, .null, .null, .null] [] s P) (h : w_162_144 (Tot d) R14 a1 a2 a3 a4 t1 t2 s P) : Go d 10 (none) xE_162 (xE_162.drop 144) [.ref 213, .int a1, .int a2, .int a3, .int a4, .null, .null, .null, .null, .null, .null] [.int t2, .int t1, .ref 215] s P := by
  unfold w_162_144 at h
  refine g_ias rfl rfl h.1 ?_
  replace h := h.2
  replace h := h _ rfl
  refine g_ld rfl rfl rfl ?_
  refine g_get rfl rfl ?_
  change Go _ _ _ _ _ _ [.ref 217] _ _
  refine g_ld rfl rfl rfl ?_
  refine g_ld rfl rfl rfl ?_
  refine g_ias rfl rfl h.1 ?_
  replace h := h.2
  replace h := h _ rfl
  refine g_inc [.ref 213, .int a1, .int (a2 + 1), .int a3, .int a4, .null, .null, .null, .null, .null, .null] rfl rfl rfl rfl ?_
  exact k_162_151 r14 h
def w_162_133 (T : Nat → List Value → yS → (Option Value → yS → Prop) → Prop) (R14 : Int32 → Int32 → yS → Prop) (a1 : Int32) (a2 : Int32) (a3 : Int32) (a4 : Int32) (a5 : Int64) (a7 : Int64) (a9 : Int32) (t1 : Int32) (t2 : Int32) (s : yS) (P : Option Value → yS → Prop) : Prop :=
  xIn t1 12006 = true ∧ (∀ s1, s1 = sa s 217 (Int32.toNatClampNeg t1) t2 → w_162_151 T R14 a1 a2 a3 a4  s1 P)
set_option maxRecDepth 20000 in
theorem k_162_133 {d : Nat} {R14 : Int32 → Int32 → yS → Prop} {a1 : Int32} {a2 : Int32} {a3 : Int32} {a4 : Int32} {a5 : Int64} {a7 : Int64} {a9 : Int32} {t1 : Int32} {t2 : Int32} {s : yS} {P : Option Value → yS → Prop} (r14 : ∀ a1 a2 s, R14 a1 a2 s → Go d 10 (none) xE_162 (xE_162.drop 14) [.ref 213, .int a1, .int a2, .null, .null, .null, .null, .null, .null, .null, .null] [] s P) (h : w_162_133 (Tot d) R14 a1 a2 a3 a4 a5 a7 a9 t1 t2 s P) : Go d 10 (none) xE_162 (xE_162.drop 133) [.ref 213, .int a1, .int a2, .int a3, .int a4, .long a5, .null, .long a7, .null, .int a9, .null] [.int t2, .int t1, .ref 217] s P := by
  unfold w_162_133 at h
  refine g_ias rfl rfl h.1 ?_
  replace h := h.2
  replace h := h _ rfl
  refine g_go rfl ?_
  refine g_fg 5 ?_
  refine g_fg 7 ?_
  refine g_fg 9 ?_
  exact k_162_151 r14 h
def w_162_117 (T : Nat → List Value → yS → (Option Value → yS → Prop) → Prop) (R14 : Int32 → Int32 → yS → Prop) (a1 : Int32) (a2 : Int32) (a3 : Int32) (a4 : Int32) (a5 : Int64) (a7 : Int64) (a9 : Int32) (t1 : Int32) (t2 : Int32) (s : yS) (P : Option Value → yS → Prop) : Prop :=
  xIn t1 12006 = true ∧ (∀ s1, s1 = sa s 215 (Int32.toNatClampNeg t1) t2 → xIn a1 12006 = true ∧ ((¬ ((s1.2.1 215 (Int32.toNatClampNeg a1)) = 1) → w_162_133 T R14 a1 a2 a3 a4 a5 a7 a9 a1 (-1) s1 P) ∧ ((s1.2.1 215 (Int32.toNatClampNeg a1)) = 1 → T 160 [.ref 213, .long a5, .long a7] s1 (fun v3 s2 => ∃ x4, v3 = some (.int x4) ∧ (w_162_133 T R14 a1 a2 a3 a4 a5 a7 a9 a1 x4 s2 P)))))
set_option maxRecDepth 20000 in
theorem k_162_117 {d : Nat} {R14 : Int32 → Int32 → yS → Prop} {a1 : Int32} {a2 : Int32} {a3 : Int32} {a4 : Int32} {a5 : Int64} {a7 : Int64} {a9 : Int32} {t1 : Int32} {t2 : Int32} {s : yS} {P : Option Value → yS → Prop} (r14 : ∀ a1 a2 s, R14 a1 a2 s → Go d 10 (none) xE_162 (xE_162.drop 14) [.ref 213, .int a1, .int a2, .null, .null, .null, .null, .null, .null, .null, .null] [] s P) (h : w_162_117 (Tot d) R14 a1 a2 a3 a4 a5 a7 a9 t1 t2 s P) : Go d 10 (none) xE_162 (xE_162.drop 117) [.ref 213, .int a1, .int a2, .int a3, .int a4, .long a5, .null, .long a7, .null, .int a9, .null] [.int t2, .int t1, .ref 215] s P := by
  unfold w_162_117 at h
  refine g_ias rfl rfl h.1 ?_
  replace h := h.2
  replace h := h _ rfl
  refine g_ld rfl rfl rfl ?_
  refine g_get rfl rfl ?_
  change Go _ _ _ _ _ _ [.ref 217] _ _
  refine g_ld rfl rfl rfl ?_
  refine g_ld rfl rfl rfl ?_
  refine g_get rfl rfl ?_
  change Go _ _ _ _ _ _ [.ref 215, .int a1, .ref 217] _ _
  refine g_ld rfl rfl rfl ?_
  refine g_ial rfl rfl h.1 ?_
  replace h := h.2
  refine g_c [.int 1, .int ((sa s 215 (Int32.toNatClampNeg t1) t2).2.1 215 (Int32.toNatClampNeg a1)), .int a1, .ref 217] (xo_push (.int 1)) rfl rfl ?_
  refine g_brN rfl rfl ⟨fun hc => ?_, fun hc => ?_⟩
  · replace h := h.1 hc
    refine g_c [.int (-1), .int a1, .ref 217] (xo_push (.int (-1))) rfl rfl ?_
    exact k_162_133 r14 h
  · replace h := h.2 hc
    refine g_ld rfl rfl rfl ?_
    refine g_ld rfl rfl rfl ?_
    refine g_ld rfl rfl rfl ?_
    refine g_call [.ref 213, .long a5, .long a7] [.int a1, .ref 217] rfl rfl rfl (Tot.imp h (fun v3 s2 h => ?_))
    obtain ⟨x4, rfl, h⟩ := h
    change Go _ _ _ _ _ _ [.int x4, .int a1, .ref 217] _ _
    refine g_go rfl ?_
    exact k_162_133 r14 h
def w_162_106 (T : Nat → List Value → yS → (Option Value → yS → Prop) → Prop) (R14 : Int32 → Int32 → yS → Prop) (a1 : Int32) (a2 : Int32) (a3 : Int32) (a4 : Int32) (a5 : Int64) (a7 : Int64) (a9 : Int32) (s : yS) (P : Option Value → yS → Prop) : Prop :=
  ((a2 - a4) ≤ 12 → w_162_117 T R14 a1 a2 a3 a4 a5 a7 a9 a1 1 s P) ∧ (¬ ((a2 - a4) ≤ 12) → w_162_117 T R14 a1 a2 a3 a4 a5 a7 a9 a1 4 s P)
set_option maxRecDepth 20000 in
theorem k_162_106 {d : Nat} {R14 : Int32 → Int32 → yS → Prop} {a1 : Int32} {a2 : Int32} {a3 : Int32} {a4 : Int32} {a5 : Int64} {a7 : Int64} {a9 : Int32} {s : yS} {P : Option Value → yS → Prop} (r14 : ∀ a1 a2 s, R14 a1 a2 s → Go d 10 (none) xE_162 (xE_162.drop 14) [.ref 213, .int a1, .int a2, .null, .null, .null, .null, .null, .null, .null, .null] [] s P) (h : w_162_106 (Tot d) R14 a1 a2 a3 a4 a5 a7 a9 s P) : Go d 10 (none) xE_162 (xE_162.drop 106) [.ref 213, .int a1, .int a2, .int a3, .int a4, .long a5, .null, .long a7, .null, .int a9, .null] [] s P := by
  unfold w_162_106 at h
  refine g_ld rfl rfl rfl ?_
  refine g_get rfl rfl ?_
  change Go _ _ _ _ _ _ [.ref 215] _ _
  refine g_ld rfl rfl rfl ?_
  refine g_ld rfl rfl rfl ?_
  refine g_ld rfl rfl rfl ?_
  refine g_c [.int (a2 - a4), .int a1, .ref 215] xo_isub rfl rfl ?_
  refine g_c [.int 12, .int (a2 - a4), .int a1, .ref 215] (xo_push (.int 12)) rfl rfl ?_
  refine g_brP rfl rfl ⟨fun hc => ?_, fun hc => ?_⟩
  · replace h := h.1 hc
    refine g_c [.int 1, .int a1, .ref 215] (xo_push (.int 1)) rfl rfl ?_
    exact k_162_117 r14 h
  · replace h := h.2 hc
    refine g_c [.int 4, .int a1, .ref 215] (xo_push (.int 4)) rfl rfl ?_
    refine g_go rfl ?_
    exact k_162_117 r14 h
def w_162_85 (T : Nat → List Value → yS → (Option Value → yS → Prop) → Prop) (R14 : Int32 → Int32 → yS → Prop) (R85 : Int32 → Int32 → Int32 → Int32 → Int64 → Int64 → Int32 → yS → Prop) (a1 : Int32) (a2 : Int32) (a3 : Int32) (a4 : Int32) (a5 : Int64) (a7 : Int64) (a9 : Int32) (s : yS) (P : Option Value → yS → Prop) : Prop :=
  (a2 ≤ a9 → w_162_106 T R14 a1 a2 a3 a4 a5 a7 a9  s P) ∧ (¬ (a2 ≤ a9) → ((a4 + 12) ≤ a9 → w_162_106 T R14 a1 a2 a3 a4 a5 a7 a9  s P) ∧ (¬ ((a4 + 12) ≤ a9) → xIn a9 4000 = true ∧ (T 158 [.int (s.2.1 214 (Int32.toNatClampNeg a9))] s (fun v2 s1 => ∃ x3, v2 = some (.int x3) ∧ (R85 a1 a2 a3 a4 a5 ((64 * a7) + (Int32.toInt64 x3)) (a9 + 1)  s1)))))
set_option maxRecDepth 20000 in
theorem k_162_85 {d : Nat} {R14 : Int32 → Int32 → yS → Prop} {R85 : Int32 → Int32 → Int32 → Int32 → Int64 → Int64 → Int32 → yS → Prop} {a1 : Int32} {a2 : Int32} {a3 : Int32} {a4 : Int32} {a5 : Int64} {a7 : Int64} {a9 : Int32} {s : yS} {P : Option Value → yS → Prop} (r14 : ∀ a1 a2 s, R14 a1 a2 s → Go d 10 (none) xE_162 (xE_162.drop 14) [.ref 213, .int a1, .int a2, .null, .null, .null, .null, .null, .null, .null, .null] [] s P) (r85 : ∀ a1 a2 a3 a4 a5 a7 a9 s, R85 a1 a2 a3 a4 a5 a7 a9 s → Go d 10 (none) xE_162 (xE_162.drop 85) [.ref 213, .int a1, .int a2, .int a3, .int a4, .long a5, .null, .long a7, .null, .int a9, .null] [] s P) (h : w_162_85 (Tot d) R14 R85 a1 a2 a3 a4 a5 a7 a9 s P) : Go d 10 (none) xE_162 (xE_162.drop 85) [.ref 213, .int a1, .int a2, .int a3, .int a4, .long a5, .null, .long a7, .null, .int a9, .null] [] s P := by
  unfold w_162_85 at h
  refine g_ld rfl rfl rfl ?_
  refine g_ld rfl rfl rfl ?_
  refine g_brP rfl rfl ⟨fun hc => ?_, fun hc => ?_⟩
  · replace h := h.1 hc
    exact k_162_106 r14 h
  · replace h := h.2 hc
    refine g_ld rfl rfl rfl ?_
    refine g_ld rfl rfl rfl ?_
    refine g_c [.int 12, .int a4, .int a9] (xo_push (.int 12)) rfl rfl ?_
    refine g_c [.int (a4 + 12), .int a9] xo_iadd rfl rfl ?_
    refine g_brP rfl rfl ⟨fun hc => ?_, fun hc => ?_⟩
    · replace h := h.1 hc
      exact k_162_106 r14 h
    · replace h := h.2 hc
      refine g_c [.long 64] (xo_push (.long 64)) rfl rfl ?_
      refine g_ld rfl rfl rfl ?_
      refine g_c [.long (64 * a7)] xo_lmul rfl rfl ?_
      refine g_ld rfl rfl rfl ?_
      refine g_get rfl rfl ?_
      change Go _ _ _ _ _ _ [.ref 214, .long (64 * a7)] _ _
      refine g_ld rfl rfl rfl ?_
      refine g_ial rfl rfl h.1 ?_
      replace h := h.2
      refine g_call [.int (s.2.1 214 (Int32.toNatClampNeg a9))] [.long (64 * a7)] rfl rfl rfl (Tot.imp h (fun v2 s1 h => ?_))
      obtain ⟨x3, rfl, h⟩ := h
      change Go _ _ _ _ _ _ [.int x3, .long (64 * a7)] _ _
      refine g_c [.long (Int32.toInt64 x3), .long (64 * a7)] xo_i2l rfl rfl ?_
      refine g_c [.long ((64 * a7) + (Int32.toInt64 x3))] xo_ladd rfl rfl ?_
      refine g_stL [.ref 213, .int a1, .int a2, .int a3, .int a4, .long a5, .null, .long ((64 * a7) + (Int32.toInt64 x3)), .null, .int a9, .null] rfl rfl rfl ?_
      refine g_inc [.ref 213, .int a1, .int a2, .int a3, .int a4, .long a5, .null, .long ((64 * a7) + (Int32.toInt64 x3)), .null, .int (a9 + 1), .null] rfl rfl rfl rfl ?_
      refine g_go rfl ?_
      exact r85 a1 a2 a3 a4 a5 ((64 * a7) + (Int32.toInt64 x3)) (a9 + 1)  s1 h
def wl_162_85 (T : Nat → List Value → yS → (Option Value → yS → Prop) → Prop) (R14 : Int32 → Int32 → yS → Prop) (a1 : Int32) (a2 : Int32) (a3 : Int32) (a4 : Int32) (a5 : Int64) (a7 : Int64) (a9 : Int32) (s : yS) (P : Option Value → yS → Prop) : Prop :=
  ∃ (I : Int32 → Int32 → Int32 → Int32 → Int64 → Int64 → Int32 → yS → Prop) (μ : Int32 → Int32 → Int32 → Int32 → Int64 → Int64 → Int32 → yS → Nat), I a1 a2 a3 a4 a5 a7 a9 s ∧ ∀ (a1 : Int32) (a2 : Int32) (a3 : Int32) (a4 : Int32) (a5 : Int64) (a7 : Int64) (a9 : Int32) (s : yS), I a1 a2 a3 a4 a5 a7 a9 s → w_162_85 T R14 (fun a1' a2' a3' a4' a5' a7' a9' s' => I a1' a2' a3' a4' a5' a7' a9' s' ∧ μ a1' a2' a3' a4' a5' a7' a9' s' < μ a1 a2 a3 a4 a5 a7 a9 s) a1 a2 a3 a4 a5 a7 a9 s P
theorem kl_162_85 {d : Nat} {R14 : Int32 → Int32 → yS → Prop} {a1 : Int32} {a2 : Int32} {a3 : Int32} {a4 : Int32} {a5 : Int64} {a7 : Int64} {a9 : Int32} {s : yS} {P : Option Value → yS → Prop} (r14 : ∀ a1 a2 s, R14 a1 a2 s → Go d 10 (none) xE_162 (xE_162.drop 14) [.ref 213, .int a1, .int a2, .null, .null, .null, .null, .null, .null, .null, .null] [] s P) (h : wl_162_85 (Tot d) R14 a1 a2 a3 a4 a5 a7 a9 s P) : Go d 10 (none) xE_162 (xE_162.drop 85) [.ref 213, .int a1, .int a2, .int a3, .int a4, .long a5, .null, .long a7, .null, .int a9, .null] [] s P := by
  obtain ⟨I, μ, h0, h1⟩ := h
  have key : ∀ (n : Nat) (a1 : Int32) (a2 : Int32) (a3 : Int32) (a4 : Int32) (a5 : Int64) (a7 : Int64) (a9 : Int32) (s : yS), μ a1 a2 a3 a4 a5 a7 a9 s = n → I a1 a2 a3 a4 a5 a7 a9 s → Go d 10 (none) xE_162 (xE_162.drop 85) [.ref 213, .int a1, .int a2, .int a3, .int a4, .long a5, .null, .long a7, .null, .int a9, .null] [] s P := by
    intro n
    induction n using Nat.strongRecOn with
    | ind n ih =>
      intro a1 a2 a3 a4 a5 a7 a9 s e hI
      exact k_162_85 r14 (fun a1' a2' a3' a4' a5' a7' a9' s' q => ih _ (by rw [← e]; exact q.2) _ _ _ _ _ _ _ _ rfl q.1) (h1 a1 a2 a3 a4 a5 a7 a9 s hI)
  exact key _ a1 a2 a3 a4 a5 a7 a9 s rfl h0
def w_162_79 (T : Nat → List Value → yS → (Option Value → yS → Prop) → Prop) (R14 : Int32 → Int32 → yS → Prop) (a1 : Int32) (a2 : Int32) (a3 : Int32) (a4 : Int32) (a5 : Int64) (s : yS) (P : Option Value → yS → Prop) : Prop :=
  wl_162_85 T R14 a1 a2 a3 a4 a5 0 (a4 + 9)  s P
set_option maxRecDepth 20000 in
theorem k_162_79 {d : Nat} {R14 : Int32 → Int32 → yS → Prop} {a1 : Int32} {a2 : Int32} {a3 : Int32} {a4 : Int32} {a5 : Int64} {s : yS} {P : Option Value → yS → Prop} (r14 : ∀ a1 a2 s, R14 a1 a2 s → Go d 10 (none) xE_162 (xE_162.drop 14) [.ref 213, .int a1, .int a2, .null, .null, .null, .null, .null, .null, .null, .null] [] s P) (h : w_162_79 (Tot d) R14 a1 a2 a3 a4 a5 s P) : Go d 10 (none) xE_162 (xE_162.drop 79) [.ref 213, .int a1, .int a2, .int a3, .int a4, .long a5, .null, .null, .null, .null, .null] [] s P := by
  unfold w_162_79 at h
  refine g_c [.long 0] (xo_push (.long 0)) rfl rfl ?_
  refine g_stL [.ref 213, .int a1, .int a2, .int a3, .int a4, .long a5, .null, .long 0, .null, .null, .null] rfl rfl rfl ?_
  refine g_ld rfl rfl rfl ?_
  refine g_c [.int 9, .int a4] (xo_push (.int 9)) rfl rfl ?_
  refine g_c [.int (a4 + 9)] xo_iadd rfl rfl ?_
  refine g_st [.ref 213, .int a1, .int a2, .int a3, .int a4, .long a5, .null, .long 0, .null, .int (a4 + 9), .null] rfl rfl rfl ?_
  exact kl_162_85 r14 h
def w_162_76 (T : Nat → List Value → yS → (Option Value → yS → Prop) → Prop) (R14 : Int32 → Int32 → yS → Prop) (R43 : Int32 → Int32 → Int32 → Int32 → Int64 → yS → Prop) (a1 : Int32) (a2 : Int32) (a3 : Int32) (a4 : Int32) (a5 : Int64) (t0 : Int64) (s : yS) (P : Option Value → yS → Prop) : Prop :=
  R43 a1 (a2 + 1) a3 a4 t0  s
set_option maxRecDepth 20000 in
theorem k_162_76 {d : Nat} {R14 : Int32 → Int32 → yS → Prop} {R43 : Int32 → Int32 → Int32 → Int32 → Int64 → yS → Prop} {a1 : Int32} {a2 : Int32} {a3 : Int32} {a4 : Int32} {a5 : Int64} {t0 : Int64} {s : yS} {P : Option Value → yS → Prop} (r14 : ∀ a1 a2 s, R14 a1 a2 s → Go d 10 (none) xE_162 (xE_162.drop 14) [.ref 213, .int a1, .int a2, .null, .null, .null, .null, .null, .null, .null, .null] [] s P) (r43 : ∀ a1 a2 a3 a4 a5 s, R43 a1 a2 a3 a4 a5 s → Go d 10 (none) xE_162 (xE_162.drop 43) [.ref 213, .int a1, .int a2, .int a3, .int a4, .long a5, .null, .null, .null, .null, .null] [] s P) (h : w_162_76 (Tot d) R14 R43 a1 a2 a3 a4 a5 t0 s P) : Go d 10 (none) xE_162 (xE_162.drop 76) [.ref 213, .int a1, .int a2, .int a3, .int a4, .long a5, .null, .null, .null, .null, .null] [.long t0] s P := by
  unfold w_162_76 at h
  refine g_stL [.ref 213, .int a1, .int a2, .int a3, .int a4, .long t0, .null, .null, .null, .null, .null] rfl rfl rfl ?_
  refine g_inc [.ref 213, .int a1, .int (a2 + 1), .int a3, .int a4, .long t0, .null, .null, .null, .null, .null] rfl rfl rfl rfl ?_
  refine g_go rfl ?_
  exact r43 a1 (a2 + 1) a3 a4 t0  s h
def w_162_59 (T : Nat → List Value → yS → (Option Value → yS → Prop) → Prop) (R14 : Int32 → Int32 → yS → Prop) (R43 : Int32 → Int32 → Int32 → Int32 → Int64 → yS → Prop) (a1 : Int32) (a2 : Int32) (a3 : Int32) (a4 : Int32) (a5 : Int64) (s : yS) (P : Option Value → yS → Prop) : Prop :=
  (9 ≤ (a2 - a4) → w_162_76 T R14 R43 a1 a2 a3 a4 a5 a5 s P) ∧ (¬ (9 ≤ (a2 - a4)) → xIn a2 4000 = true ∧ (T 158 [.int (s.2.1 214 (Int32.toNatClampNeg a2))] s (fun v2 s1 => ∃ x3, v2 = some (.int x3) ∧ (w_162_76 T R14 R43 a1 a2 a3 a4 a5 ((64 * a5) + (Int32.toInt64 x3)) s1 P))))
set_option maxRecDepth 20000 in
theorem k_162_59 {d : Nat} {R14 : Int32 → Int32 → yS → Prop} {R43 : Int32 → Int32 → Int32 → Int32 → Int64 → yS → Prop} {a1 : Int32} {a2 : Int32} {a3 : Int32} {a4 : Int32} {a5 : Int64} {s : yS} {P : Option Value → yS → Prop} (r14 : ∀ a1 a2 s, R14 a1 a2 s → Go d 10 (none) xE_162 (xE_162.drop 14) [.ref 213, .int a1, .int a2, .null, .null, .null, .null, .null, .null, .null, .null] [] s P) (r43 : ∀ a1 a2 a3 a4 a5 s, R43 a1 a2 a3 a4 a5 s → Go d 10 (none) xE_162 (xE_162.drop 43) [.ref 213, .int a1, .int a2, .int a3, .int a4, .long a5, .null, .null, .null, .null, .null] [] s P) (h : w_162_59 (Tot d) R14 R43 a1 a2 a3 a4 a5 s P) : Go d 10 (none) xE_162 (xE_162.drop 59) [.ref 213, .int a1, .int a2, .int a3, .int a4, .long a5, .null, .null, .null, .null, .null] [] s P := by
  unfold w_162_59 at h
  refine g_ld rfl rfl rfl ?_
  refine g_ld rfl rfl rfl ?_
  refine g_c [.int (a2 - a4)] xo_isub rfl rfl ?_
  refine g_c [.int 9, .int (a2 - a4)] (xo_push (.int 9)) rfl rfl ?_
  refine g_brP rfl rfl ⟨fun hc => ?_, fun hc => ?_⟩
  · replace h := h.1 hc
    refine g_ld rfl rfl rfl ?_
    exact k_162_76 r14 r43 h
  · replace h := h.2 hc
    refine g_c [.long 64] (xo_push (.long 64)) rfl rfl ?_
    refine g_ld rfl rfl rfl ?_
    refine g_c [.long (64 * a5)] xo_lmul rfl rfl ?_
    refine g_ld rfl rfl rfl ?_
    refine g_get rfl rfl ?_
    change Go _ _ _ _ _ _ [.ref 214, .long (64 * a5)] _ _
    refine g_ld rfl rfl rfl ?_
    refine g_ial rfl rfl h.1 ?_
    replace h := h.2
    refine g_call [.int (s.2.1 214 (Int32.toNatClampNeg a2))] [.long (64 * a5)] rfl rfl rfl (Tot.imp h (fun v2 s1 h => ?_))
    obtain ⟨x3, rfl, h⟩ := h
    change Go _ _ _ _ _ _ [.int x3, .long (64 * a5)] _ _
    refine g_c [.long (Int32.toInt64 x3), .long (64 * a5)] xo_i2l rfl rfl ?_
    refine g_c [.long ((64 * a5) + (Int32.toInt64 x3))] xo_ladd rfl rfl ?_
    refine g_go rfl ?_
    exact k_162_76 r14 r43 h
def w_162_43 (T : Nat → List Value → yS → (Option Value → yS → Prop) → Prop) (R14 : Int32 → Int32 → yS → Prop) (R43 : Int32 → Int32 → Int32 → Int32 → Int64 → yS → Prop) (a1 : Int32) (a2 : Int32) (a3 : Int32) (a4 : Int32) (a5 : Int64) (s : yS) (P : Option Value → yS → Prop) : Prop :=
  ((s.1 3) ≤ a2 → w_162_79 T R14 a1 a2 a3 a4 a5  s P) ∧ (¬ ((s.1 3) ≤ a2) → xIn a2 4000 = true ∧ (T 156 [.int (s.2.1 214 (Int32.toNatClampNeg a2))] s (fun v2 s1 => ∃ x3, v2 = some (.int x3) ∧ ((¬ (x3 = 0) → w_162_59 T R14 R43 a1 a2 a3 a4 a5  s1 P) ∧ (x3 = 0 → xIn a2 4000 = true ∧ (T 157 [.int (s1.2.1 214 (Int32.toNatClampNeg a2))] s1 (fun v5 s4 => ∃ x6, v5 = some (.int x6) ∧ ((x6 = 0 → w_162_79 T R14 a1 a2 a3 a4 a5  s4 P) ∧ (¬ (x6 = 0) → w_162_59 T R14 R43 a1 a2 a3 a4 a5  s4 P)))))))))
set_option maxRecDepth 20000 in
theorem k_162_43 {d : Nat} {R14 : Int32 → Int32 → yS → Prop} {R43 : Int32 → Int32 → Int32 → Int32 → Int64 → yS → Prop} {a1 : Int32} {a2 : Int32} {a3 : Int32} {a4 : Int32} {a5 : Int64} {s : yS} {P : Option Value → yS → Prop} (r14 : ∀ a1 a2 s, R14 a1 a2 s → Go d 10 (none) xE_162 (xE_162.drop 14) [.ref 213, .int a1, .int a2, .null, .null, .null, .null, .null, .null, .null, .null] [] s P) (r43 : ∀ a1 a2 a3 a4 a5 s, R43 a1 a2 a3 a4 a5 s → Go d 10 (none) xE_162 (xE_162.drop 43) [.ref 213, .int a1, .int a2, .int a3, .int a4, .long a5, .null, .null, .null, .null, .null] [] s P) (h : w_162_43 (Tot d) R14 R43 a1 a2 a3 a4 a5 s P) : Go d 10 (none) xE_162 (xE_162.drop 43) [.ref 213, .int a1, .int a2, .int a3, .int a4, .long a5, .null, .null, .null, .null, .null] [] s P := by
  unfold w_162_43 at h
  refine g_ld rfl rfl rfl ?_
  refine g_ld rfl rfl rfl ?_
  refine g_get rfl rfl ?_
  change Go _ _ _ _ _ _ [.int (s.1 3), .int a2] _ _
  refine g_brP rfl rfl ⟨fun hc => ?_, fun hc => ?_⟩
  · replace h := h.1 hc
    exact k_162_79 r14 h
  · replace h := h.2 hc
    refine g_ld rfl rfl rfl ?_
    refine g_get rfl rfl ?_
    change Go _ _ _ _ _ _ [.ref 214] _ _
    refine g_ld rfl rfl rfl ?_
    refine g_ial rfl rfl h.1 ?_
    replace h := h.2
    refine g_call [.int (s.2.1 214 (Int32.toNatClampNeg a2))] [] rfl rfl rfl (Tot.imp h (fun v2 s1 h => ?_))
    obtain ⟨x3, rfl, h⟩ := h
    change Go _ _ _ _ _ _ [.int x3] _ _
    refine g_brN rfl rfl ⟨fun hc => ?_, fun hc => ?_⟩
    · replace h := h.1 hc
      exact k_162_59 r14 r43 h
    · replace h := h.2 hc
      refine g_ld rfl rfl rfl ?_
      refine g_get rfl rfl ?_
      change Go _ _ _ _ _ _ [.ref 214] _ _
      refine g_ld rfl rfl rfl ?_
      refine g_ial rfl rfl h.1 ?_
      replace h := h.2
      refine g_call [.int (s1.2.1 214 (Int32.toNatClampNeg a2))] [] rfl rfl rfl (Tot.imp h (fun v5 s4 h => ?_))
      obtain ⟨x6, rfl, h⟩ := h
      change Go _ _ _ _ _ _ [.int x6] _ _
      refine g_brP rfl rfl ⟨fun hc => ?_, fun hc => ?_⟩
      · replace h := h.1 hc
        exact k_162_79 r14 h
      · replace h := h.2 hc
        exact k_162_59 r14 r43 h
def wl_162_43 (T : Nat → List Value → yS → (Option Value → yS → Prop) → Prop) (R14 : Int32 → Int32 → yS → Prop) (a1 : Int32) (a2 : Int32) (a3 : Int32) (a4 : Int32) (a5 : Int64) (s : yS) (P : Option Value → yS → Prop) : Prop :=
  ∃ (I : Int32 → Int32 → Int32 → Int32 → Int64 → yS → Prop) (μ : Int32 → Int32 → Int32 → Int32 → Int64 → yS → Nat), I a1 a2 a3 a4 a5 s ∧ ∀ (a1 : Int32) (a2 : Int32) (a3 : Int32) (a4 : Int32) (a5 : Int64) (s : yS), I a1 a2 a3 a4 a5 s → w_162_43 T R14 (fun a1' a2' a3' a4' a5' s' => I a1' a2' a3' a4' a5' s' ∧ μ a1' a2' a3' a4' a5' s' < μ a1 a2 a3 a4 a5 s) a1 a2 a3 a4 a5 s P
theorem kl_162_43 {d : Nat} {R14 : Int32 → Int32 → yS → Prop} {a1 : Int32} {a2 : Int32} {a3 : Int32} {a4 : Int32} {a5 : Int64} {s : yS} {P : Option Value → yS → Prop} (r14 : ∀ a1 a2 s, R14 a1 a2 s → Go d 10 (none) xE_162 (xE_162.drop 14) [.ref 213, .int a1, .int a2, .null, .null, .null, .null, .null, .null, .null, .null] [] s P) (h : wl_162_43 (Tot d) R14 a1 a2 a3 a4 a5 s P) : Go d 10 (none) xE_162 (xE_162.drop 43) [.ref 213, .int a1, .int a2, .int a3, .int a4, .long a5, .null, .null, .null, .null, .null] [] s P := by
  obtain ⟨I, μ, h0, h1⟩ := h
  have key : ∀ (n : Nat) (a1 : Int32) (a2 : Int32) (a3 : Int32) (a4 : Int32) (a5 : Int64) (s : yS), μ a1 a2 a3 a4 a5 s = n → I a1 a2 a3 a4 a5 s → Go d 10 (none) xE_162 (xE_162.drop 43) [.ref 213, .int a1, .int a2, .int a3, .int a4, .long a5, .null, .null, .null, .null, .null] [] s P := by
    intro n
    induction n using Nat.strongRecOn with
    | ind n ih =>
      intro a1 a2 a3 a4 a5 s e hI
      exact k_162_43 r14 (fun a1' a2' a3' a4' a5' s' q => ih _ (by rw [← e]; exact q.2) _ _ _ _ _ _ rfl q.1) (h1 a1 a2 a3 a4 a5 s hI)
  exact key _ a1 a2 a3 a4 a5 s rfl h0
def w_162_29 (T : Nat → List Value → yS → (Option Value → yS → Prop) → Prop) (R14 : Int32 → Int32 → yS → Prop) (a1 : Int32) (a2 : Int32) (a3 : Int32) (s : yS) (P : Option Value → yS → Prop) : Prop :=
  R14 a1 (a2 + 1)  s
set_option maxRecDepth 20000 in
theorem k_162_29 {d : Nat} {R14 : Int32 → Int32 → yS → Prop} {a1 : Int32} {a2 : Int32} {a3 : Int32} {s : yS} {P : Option Value → yS → Prop} (r14 : ∀ a1 a2 s, R14 a1 a2 s → Go d 10 (none) xE_162 (xE_162.drop 14) [.ref 213, .int a1, .int a2, .null, .null, .null, .null, .null, .null, .null, .null] [] s P) (h : w_162_29 (Tot d) R14 a1 a2 a3 s P) : Go d 10 (none) xE_162 (xE_162.drop 29) [.ref 213, .int a1, .int a2, .int a3, .null, .null, .null, .null, .null, .null, .null] [] s P := by
  unfold w_162_29 at h
  refine g_inc [.ref 213, .int a1, .int (a2 + 1), .int a3, .null, .null, .null, .null, .null, .null, .null] rfl rfl rfl rfl ?_
  refine g_go rfl ?_
  refine g_fg 3 ?_
  exact r14 a1 (a2 + 1)  s h
def w_162_14 (T : Nat → List Value → yS → (Option Value → yS → Prop) → Prop) (R14 : Int32 → Int32 → yS → Prop) (a1 : Int32) (a2 : Int32) (s : yS) (P : Option Value → yS → Prop) : Prop :=
  ((s.1 3) ≤ a2 → xIn a1 12006 = true ∧ (∀ s1, s1 = sa s 215 (Int32.toNatClampNeg a1) 0 → xIn a1 12006 = true ∧ (∀ s2, s2 = sa s1 216 (Int32.toNatClampNeg a1) (s1.1 3) → xIn a1 12006 = true ∧ (∀ s3, s3 = sa s2 217 (Int32.toNatClampNeg a1) (-1) → ∀ s4, s4 = sf s3 7 (4002 * (s3.1 9)) → ∀ s5, s5 = sf s4 8 0 → P none s5)))) ∧ (¬ ((s.1 3) ≤ a2) → xIn a2 4000 = true ∧ (((s.2.1 214 (Int32.toNatClampNeg a2)) = 10 → w_162_29 T R14 a1 a2 (s.2.1 214 (Int32.toNatClampNeg a2))  s P) ∧ (¬ ((s.2.1 214 (Int32.toNatClampNeg a2)) = 10) → (¬ ((s.2.1 214 (Int32.toNatClampNeg a2)) = 32) → xIn a1 12006 = true ∧ (∀ s6, s6 = sa s 216 (Int32.toNatClampNeg a1) a2 → T 156 [.int (s.2.1 214 (Int32.toNatClampNeg a2))] s6 (fun v8 s7 => ∃ x9, v8 = some (.int x9) ∧ ((x9 = 0 → T 159 [.int (s.2.1 214 (Int32.toNatClampNeg a2))] s7 (fun v11 s10 => ∃ x12, v11 = some (.int x12) ∧ ((x12 = 0 → w_162_144 T R14 a1 a2 (s.2.1 214 (Int32.toNatClampNeg a2)) a2 a1 4 s10 P) ∧ (¬ (x12 = 0) → w_162_144 T R14 a1 a2 (s.2.1 214 (Int32.toNatClampNeg a2)) a2 a1 3 s10 P)))) ∧ (¬ (x9 = 0) → wl_162_43 T R14 a1 a2 (s.2.1 214 (Int32.toNatClampNeg a2)) a2 0  s7 P))))) ∧ ((s.2.1 214 (Int32.toNatClampNeg a2)) = 32 → w_162_29 T R14 a1 a2 (s.2.1 214 (Int32.toNatClampNeg a2))  s P))))
set_option maxRecDepth 20000 in
theorem k_162_14 {d : Nat} {R14 : Int32 → Int32 → yS → Prop} {a1 : Int32} {a2 : Int32} {s : yS} {P : Option Value → yS → Prop} (r14 : ∀ a1 a2 s, R14 a1 a2 s → Go d 10 (none) xE_162 (xE_162.drop 14) [.ref 213, .int a1, .int a2, .null, .null, .null, .null, .null, .null, .null, .null] [] s P) (h : w_162_14 (Tot d) R14 a1 a2 s P) : Go d 10 (none) xE_162 (xE_162.drop 14) [.ref 213, .int a1, .int a2, .null, .null, .null, .null, .null, .null, .null, .null] [] s P := by
  unfold w_162_14 at h
  refine g_ld rfl rfl rfl ?_
  refine g_ld rfl rfl rfl ?_
  refine g_get rfl rfl ?_
  change Go _ _ _ _ _ _ [.int (s.1 3), .int a2] _ _
  refine g_brP rfl rfl ⟨fun hc => ?_, fun hc => ?_⟩
  · replace h := h.1 hc
    refine g_ld rfl rfl rfl ?_
    refine g_get rfl rfl ?_
    change Go _ _ _ _ _ _ [.ref 215] _ _
    refine g_ld rfl rfl rfl ?_
    refine g_c [.int 0, .int a1, .ref 215] (xo_push (.int 0)) rfl rfl ?_
    refine g_ias rfl rfl h.1 ?_
    replace h := h.2
    replace h := h _ rfl
    refine g_ld rfl rfl rfl ?_
    refine g_get rfl rfl ?_
    change Go _ _ _ _ _ _ [.ref 216] _ _
    refine g_ld rfl rfl rfl ?_
    refine g_ld rfl rfl rfl ?_
    refine g_get rfl rfl ?_
    change Go _ _ _ _ _ _ [.int ((sa s 215 (Int32.toNatClampNeg a1) 0).1 3), .int a1, .ref 216] _ _
    refine g_ias rfl rfl h.1 ?_
    replace h := h.2
    replace h := h _ rfl
    refine g_ld rfl rfl rfl ?_
    refine g_get rfl rfl ?_
    change Go _ _ _ _ _ _ [.ref 217] _ _
    refine g_ld rfl rfl rfl ?_
    refine g_c [.int (-1), .int a1, .ref 217] (xo_push (.int (-1))) rfl rfl ?_
    refine g_ias rfl rfl h.1 ?_
    replace h := h.2
    replace h := h _ rfl
    refine g_ld rfl rfl rfl ?_
    refine g_c [.int 4002, .ref 213] (xo_push (.int 4002)) rfl rfl ?_
    refine g_ld rfl rfl rfl ?_
    refine g_get rfl rfl ?_
    change Go _ _ _ _ _ _ [.int ((sa (sa (sa s 215 (Int32.toNatClampNeg a1) 0) 216 (Int32.toNatClampNeg a1) ((sa s 215 (Int32.toNatClampNeg a1) 0).1 3)) 217 (Int32.toNatClampNeg a1) (-1)).1 9), .int 4002, .ref 213] _ _
    refine g_c [.int (4002 * ((sa (sa (sa s 215 (Int32.toNatClampNeg a1) 0) 216 (Int32.toNatClampNeg a1) ((sa s 215 (Int32.toNatClampNeg a1) 0).1 3)) 217 (Int32.toNatClampNeg a1) (-1)).1 9)), .ref 213] xo_imul rfl rfl ?_
    refine g_put rfl rfl rfl ?_
    replace h := h _ rfl
    refine g_ld rfl rfl rfl ?_
    refine g_c [.int 0, .ref 213] (xo_push (.int 0)) rfl rfl ?_
    refine g_put rfl rfl rfl ?_
    replace h := h _ rfl
    exact g_ret0 rfl h
  · replace h := h.2 hc
    refine g_ld rfl rfl rfl ?_
    refine g_get rfl rfl ?_
    change Go _ _ _ _ _ _ [.ref 214] _ _
    refine g_ld rfl rfl rfl ?_
    refine g_ial rfl rfl h.1 ?_
    replace h := h.2
    refine g_st [.ref 213, .int a1, .int a2, .int (s.2.1 214 (Int32.toNatClampNeg a2)), .null, .null, .null, .null, .null, .null, .null] rfl rfl rfl ?_
    refine g_ld rfl rfl rfl ?_
    refine g_c [.int 10, .int (s.2.1 214 (Int32.toNatClampNeg a2))] (xo_push (.int 10)) rfl rfl ?_
    refine g_brP rfl rfl ⟨fun hc => ?_, fun hc => ?_⟩
    · replace h := h.1 hc
      exact k_162_29 r14 h
    · replace h := h.2 hc
      refine g_ld rfl rfl rfl ?_
      refine g_c [.int 32, .int (s.2.1 214 (Int32.toNatClampNeg a2))] (xo_push (.int 32)) rfl rfl ?_
      refine g_brN rfl rfl ⟨fun hc => ?_, fun hc => ?_⟩
      · replace h := h.1 hc
        refine g_ld rfl rfl rfl ?_
        refine g_st [.ref 213, .int a1, .int a2, .int (s.2.1 214 (Int32.toNatClampNeg a2)), .int a2, .null, .null, .null, .null, .null, .null] rfl rfl rfl ?_
        refine g_ld rfl rfl rfl ?_
        refine g_get rfl rfl ?_
        change Go _ _ _ _ _ _ [.ref 216] _ _
        refine g_ld rfl rfl rfl ?_
        refine g_ld rfl rfl rfl ?_
        refine g_ias rfl rfl h.1 ?_
        replace h := h.2
        replace h := h _ rfl
        refine g_ld rfl rfl rfl ?_
        refine g_call [.int (s.2.1 214 (Int32.toNatClampNeg a2))] [] rfl rfl rfl (Tot.imp h (fun v8 s7 h => ?_))
        obtain ⟨x9, rfl, h⟩ := h
        change Go _ _ _ _ _ _ [.int x9] _ _
        refine g_brP rfl rfl ⟨fun hc => ?_, fun hc => ?_⟩
        · replace h := h.1 hc
          refine g_ld rfl rfl rfl ?_
          refine g_get rfl rfl ?_
          change Go _ _ _ _ _ _ [.ref 215] _ _
          refine g_ld rfl rfl rfl ?_
          refine g_ld rfl rfl rfl ?_
          refine g_call [.int (s.2.1 214 (Int32.toNatClampNeg a2))] [.int a1, .ref 215] rfl rfl rfl (Tot.imp h (fun v11 s10 h => ?_))
          obtain ⟨x12, rfl, h⟩ := h
          change Go _ _ _ _ _ _ [.int x12, .int a1, .ref 215] _ _
          refine g_brP rfl rfl ⟨fun hc => ?_, fun hc => ?_⟩
          · replace h := h.1 hc
            refine g_c [.int 4, .int a1, .ref 215] (xo_push (.int 4)) rfl rfl ?_
            exact k_162_144 r14 h
          · replace h := h.2 hc
            refine g_c [.int 3, .int a1, .ref 215] (xo_push (.int 3)) rfl rfl ?_
            refine g_go rfl ?_
            exact k_162_144 r14 h
        · replace h := h.2 hc
          refine g_c [.long 0] (xo_push (.long 0)) rfl rfl ?_
          refine g_stL [.ref 213, .int a1, .int a2, .int (s.2.1 214 (Int32.toNatClampNeg a2)), .int a2, .long 0, .null, .null, .null, .null, .null] rfl rfl rfl ?_
          exact kl_162_43 r14 h
      · replace h := h.2 hc
        exact k_162_29 r14 h
def wl_162_14 (T : Nat → List Value → yS → (Option Value → yS → Prop) → Prop)  (a1 : Int32) (a2 : Int32) (s : yS) (P : Option Value → yS → Prop) : Prop :=
  ∃ (I : Int32 → Int32 → yS → Prop) (μ : Int32 → Int32 → yS → Nat), I a1 a2 s ∧ ∀ (a1 : Int32) (a2 : Int32) (s : yS), I a1 a2 s → w_162_14 T (fun a1' a2' s' => I a1' a2' s' ∧ μ a1' a2' s' < μ a1 a2 s) a1 a2 s P
theorem kl_162_14 {d : Nat}  {a1 : Int32} {a2 : Int32} {s : yS} {P : Option Value → yS → Prop}  (h : wl_162_14 (Tot d)  a1 a2 s P) : Go d 10 (none) xE_162 (xE_162.drop 14) [.ref 213, .int a1, .int a2, .null, .null, .null, .null, .null, .null, .null, .null] [] s P := by
  obtain ⟨I, μ, h0, h1⟩ := h
  have key : ∀ (n : Nat) (a1 : Int32) (a2 : Int32) (s : yS), μ a1 a2 s = n → I a1 a2 s → Go d 10 (none) xE_162 (xE_162.drop 14) [.ref 213, .int a1, .int a2, .null, .null, .null, .null, .null, .null, .null, .null] [] s P := by
    intro n
    induction n using Nat.strongRecOn with
    | ind n ih =>
      intro a1 a2 s e hI
      exact k_162_14 (fun a1' a2' s' q => ih _ (by rw [← e]; exact q.2) _ _ _ rfl q.1) (h1 a1 a2 s hI)
  exact key _ a1 a2 s rfl h0
def w_162_0 (T : Nat → List Value → yS → (Option Value → yS → Prop) → Prop)   (s : yS) (P : Option Value → yS → Prop) : Prop :=
  ∀ s1, s1 = sf s 3 (s.1 2) → ∀ s2, s2 = sf s1 2 0 → wl_162_14 T  (4002 * (s2.1 9)) 0  s2 P
set_option maxRecDepth 20000 in
theorem k_162_0 {d : Nat}   {s : yS} {P : Option Value → yS → Prop}  (h : w_162_0 (Tot d)   s P) : Go d 10 (none) xE_162 (xE_162.drop 0) [.ref 213, .null, .null, .null, .null, .null, .null, .null, .null, .null, .null] [] s P := by
  unfold w_162_0 at h
  refine g_ld rfl rfl rfl ?_
  refine g_ld rfl rfl rfl ?_
  refine g_get rfl rfl ?_
  change Go _ _ _ _ _ _ [.int (s.1 2), .ref 213] _ _
  refine g_put rfl rfl rfl ?_
  replace h := h _ rfl
  refine g_ld rfl rfl rfl ?_
  refine g_c [.int 0, .ref 213] (xo_push (.int 0)) rfl rfl ?_
  refine g_put rfl rfl rfl ?_
  replace h := h _ rfl
  refine g_c [.int 4002] (xo_push (.int 4002)) rfl rfl ?_
  refine g_ld rfl rfl rfl ?_
  refine g_get rfl rfl ?_
  change Go _ _ _ _ _ _ [.int ((sf (sf s 3 (s.1 2)) 2 0).1 9), .int 4002] _ _
  refine g_c [.int (4002 * ((sf (sf s 3 (s.1 2)) 2 0).1 9))] xo_imul rfl rfl ?_
  refine g_st [.ref 213, .int (4002 * ((sf (sf s 3 (s.1 2)) 2 0).1 9)), .null, .null, .null, .null, .null, .null, .null, .null, .null] rfl rfl rfl ?_
  refine g_c [.int 0] (xo_push (.int 0)) rfl rfl ?_
  refine g_st [.ref 213, .int (4002 * ((sf (sf s 3 (s.1 2)) 2 0).1 9)), .int 0, .null, .null, .null, .null, .null, .null, .null, .null] rfl rfl rfl ?_
  exact kl_162_14  h
theorem t_162 {d : Nat}  {s : yS} {P : Option Value → yS → Prop} (h : w_162_0 (Tot d)  s P) : Tot (d + 1) 162 [.ref 213] s P := tot_of (E := xE_162) (ml := 10) (ret := none) rfl rfl rfl (k_162_0 h)
/-! wrong -/
def w_163_13 (T : Nat → List Value → yS → (Option Value → yS → Prop) → Prop)  (a1 : Int32) (a2 : Int32) (s : yS) (P : Option Value → yS → Prop) : Prop :=
  P none s
set_option maxRecDepth 20000 in
theorem k_163_13 {d : Nat}  {a1 : Int32} {a2 : Int32} {s : yS} {P : Option Value → yS → Prop}  (h : w_163_13 (Tot d)  a1 a2 s P) : Go d 3 (none) xE_163 (xE_163.drop 13) [.ref 213, .int a1, .int a2, .null, .null, .null] [] s P := by
  unfold w_163_13 at h
  exact g_ret0 rfl h
def w_163_0 (T : Nat → List Value → yS → (Option Value → yS → Prop) → Prop)  (a1 : Int32) (a2 : Int32) (s : yS) (P : Option Value → yS → Prop) : Prop :=
  (¬ ((s.1 8) = 0) → w_163_13 T  a1 a2  s P) ∧ ((s.1 8) = 0 → xIn a2 12006 = true ∧ (∀ s1, s1 = sf s 8 (a1 + (16 * (s.2.1 216 (Int32.toNatClampNeg a2)))) → w_163_13 T  a1 a2  s1 P))
set_option maxRecDepth 20000 in
theorem k_163_0 {d : Nat}  {a1 : Int32} {a2 : Int32} {s : yS} {P : Option Value → yS → Prop}  (h : w_163_0 (Tot d)  a1 a2 s P) : Go d 3 (none) xE_163 (xE_163.drop 0) [.ref 213, .int a1, .int a2, .null, .null, .null] [] s P := by
  unfold w_163_0 at h
  refine g_ld rfl rfl rfl ?_
  refine g_get rfl rfl ?_
  change Go _ _ _ _ _ _ [.int (s.1 8)] _ _
  refine g_brN rfl rfl ⟨fun hc => ?_, fun hc => ?_⟩
  · replace h := h.1 hc
    exact k_163_13  h
  · replace h := h.2 hc
    refine g_ld rfl rfl rfl ?_
    refine g_ld rfl rfl rfl ?_
    refine g_c [.int 16, .int a1, .ref 213] (xo_push (.int 16)) rfl rfl ?_
    refine g_ld rfl rfl rfl ?_
    refine g_get rfl rfl ?_
    change Go _ _ _ _ _ _ [.ref 216, .int 16, .int a1, .ref 213] _ _
    refine g_ld rfl rfl rfl ?_
    refine g_ial rfl rfl h.1 ?_
    replace h := h.2
    refine g_c [.int (16 * (s.2.1 216 (Int32.toNatClampNeg a2))), .int a1, .ref 213] xo_imul rfl rfl ?_
    refine g_c [.int (a1 + (16 * (s.2.1 216 (Int32.toNatClampNeg a2)))), .ref 213] xo_iadd rfl rfl ?_
    refine g_put rfl rfl rfl ?_
    replace h := h _ rfl
    exact k_163_13  h
theorem t_163 {d : Nat} {a1 : Int32} {a2 : Int32} {s : yS} {P : Option Value → yS → Prop} (h : w_163_0 (Tot d) a1 a2 s P) : Tot (d + 1) 163 [.ref 213, .int a1, .int a2] s P := tot_of (E := xE_163) (ml := 3) (ret := none) rfl rfl rfl (k_163_0 h)
/-! isSign -/
def w_164_20 (T : Nat → List Value → yS → (Option Value → yS → Prop) → Prop)  (a1 : Int32) (t0 : Int32) (s : yS) (P : Option Value → yS → Prop) : Prop :=
  (t0 == 0 || t0 == 1) = true ∧ P (some (.int t0)) s
set_option maxRecDepth 20000 in
theorem k_164_20 {d : Nat}  {a1 : Int32} {t0 : Int32} {s : yS} {P : Option Value → yS → Prop}  (h : w_164_20 (Tot d)  a1 t0 s P) : Go d 2 (some .boolean) xE_164 (xE_164.drop 20) [.ref 213, .int a1, .null, .null] [.int t0] s P := by
  unfold w_164_20 at h
  exact g_retZ rfl h.1 h.2
def w_164_19 (T : Nat → List Value → yS → (Option Value → yS → Prop) → Prop)  (a1 : Int32) (s : yS) (P : Option Value → yS → Prop) : Prop :=
  w_164_20 T  a1 0 s P
set_option maxRecDepth 20000 in
theorem k_164_19 {d : Nat}  {a1 : Int32} {s : yS} {P : Option Value → yS → Prop}  (h : w_164_19 (Tot d)  a1 s P) : Go d 2 (some .boolean) xE_164 (xE_164.drop 19) [.ref 213, .int a1, .null, .null] [] s P := by
  unfold w_164_19 at h
  refine g_c [.int 0] (xo_push (.int 0)) rfl rfl ?_
  exact k_164_20  h
def w_164_0 (T : Nat → List Value → yS → (Option Value → yS → Prop) → Prop)  (a1 : Int32) (s : yS) (P : Option Value → yS → Prop) : Prop :=
  (¬ ((s.1 8) = 0) → w_164_19 T  a1  s P) ∧ ((s.1 8) = 0 → xIn (s.1 7) 12006 = true ∧ ((¬ ((s.2.1 215 (Int32.toNatClampNeg (s.1 7))) = 3) → w_164_19 T  a1  s P) ∧ ((s.2.1 215 (Int32.toNatClampNeg (s.1 7))) = 3 → xIn (s.1 7) 12006 = true ∧ ((¬ ((s.2.1 217 (Int32.toNatClampNeg (s.1 7))) = a1) → w_164_19 T  a1  s P) ∧ ((s.2.1 217 (Int32.toNatClampNeg (s.1 7))) = a1 → w_164_20 T  a1 1 s P)))))
set_option maxRecDepth 20000 in
theorem k_164_0 {d : Nat}  {a1 : Int32} {s : yS} {P : Option Value → yS → Prop}  (h : w_164_0 (Tot d)  a1 s P) : Go d 2 (some .boolean) xE_164 (xE_164.drop 0) [.ref 213, .int a1, .null, .null] [] s P := by
  unfold w_164_0 at h
  refine g_ld rfl rfl rfl ?_
  refine g_get rfl rfl ?_
  change Go _ _ _ _ _ _ [.int (s.1 8)] _ _
  refine g_brN rfl rfl ⟨fun hc => ?_, fun hc => ?_⟩
  · replace h := h.1 hc
    exact k_164_19  h
  · replace h := h.2 hc
    refine g_ld rfl rfl rfl ?_
    refine g_get rfl rfl ?_
    change Go _ _ _ _ _ _ [.ref 215] _ _
    refine g_ld rfl rfl rfl ?_
    refine g_get rfl rfl ?_
    change Go _ _ _ _ _ _ [.int (s.1 7), .ref 215] _ _
    refine g_ial rfl rfl h.1 ?_
    replace h := h.2
    refine g_c [.int 3, .int (s.2.1 215 (Int32.toNatClampNeg (s.1 7)))] (xo_push (.int 3)) rfl rfl ?_
    refine g_brN rfl rfl ⟨fun hc => ?_, fun hc => ?_⟩
    · replace h := h.1 hc
      exact k_164_19  h
    · replace h := h.2 hc
      refine g_ld rfl rfl rfl ?_
      refine g_get rfl rfl ?_
      change Go _ _ _ _ _ _ [.ref 217] _ _
      refine g_ld rfl rfl rfl ?_
      refine g_get rfl rfl ?_
      change Go _ _ _ _ _ _ [.int (s.1 7), .ref 217] _ _
      refine g_ial rfl rfl h.1 ?_
      replace h := h.2
      refine g_ld rfl rfl rfl ?_
      refine g_brN rfl rfl ⟨fun hc => ?_, fun hc => ?_⟩
      · replace h := h.1 hc
        exact k_164_19  h
      · replace h := h.2 hc
        refine g_c [.int 1] (xo_push (.int 1)) rfl rfl ?_
        refine g_go rfl ?_
        exact k_164_20  h
theorem t_164 {d : Nat} {a1 : Int32} {s : yS} {P : Option Value → yS → Prop} (h : w_164_0 (Tot d) a1 s P) : Tot (d + 1) 164 [.ref 213, .int a1] s P := tot_of (E := xE_164) (ml := 2) (ret := some .boolean) rfl rfl rfl (k_164_0 h)
/-! isWord -/
def w_165_20 (T : Nat → List Value → yS → (Option Value → yS → Prop) → Prop)  (a1 : Int32) (t0 : Int32) (s : yS) (P : Option Value → yS → Prop) : Prop :=
  (t0 == 0 || t0 == 1) = true ∧ P (some (.int t0)) s
set_option maxRecDepth 20000 in
theorem k_165_20 {d : Nat}  {a1 : Int32} {t0 : Int32} {s : yS} {P : Option Value → yS → Prop}  (h : w_165_20 (Tot d)  a1 t0 s P) : Go d 2 (some .boolean) xE_165 (xE_165.drop 20) [.ref 213, .int a1, .null, .null] [.int t0] s P := by
  unfold w_165_20 at h
  exact g_retZ rfl h.1 h.2
def w_165_19 (T : Nat → List Value → yS → (Option Value → yS → Prop) → Prop)  (a1 : Int32) (s : yS) (P : Option Value → yS → Prop) : Prop :=
  w_165_20 T  a1 0 s P
set_option maxRecDepth 20000 in
theorem k_165_19 {d : Nat}  {a1 : Int32} {s : yS} {P : Option Value → yS → Prop}  (h : w_165_19 (Tot d)  a1 s P) : Go d 2 (some .boolean) xE_165 (xE_165.drop 19) [.ref 213, .int a1, .null, .null] [] s P := by
  unfold w_165_19 at h
  refine g_c [.int 0] (xo_push (.int 0)) rfl rfl ?_
  exact k_165_20  h
def w_165_0 (T : Nat → List Value → yS → (Option Value → yS → Prop) → Prop)  (a1 : Int32) (s : yS) (P : Option Value → yS → Prop) : Prop :=
  (¬ ((s.1 8) = 0) → w_165_19 T  a1  s P) ∧ ((s.1 8) = 0 → xIn (s.1 7) 12006 = true ∧ ((¬ ((s.2.1 215 (Int32.toNatClampNeg (s.1 7))) = 1) → w_165_19 T  a1  s P) ∧ ((s.2.1 215 (Int32.toNatClampNeg (s.1 7))) = 1 → xIn (s.1 7) 12006 = true ∧ ((¬ ((s.2.1 217 (Int32.toNatClampNeg (s.1 7))) = a1) → w_165_19 T  a1  s P) ∧ ((s.2.1 217 (Int32.toNatClampNeg (s.1 7))) = a1 → w_165_20 T  a1 1 s P)))))
set_option maxRecDepth 20000 in
theorem k_165_0 {d : Nat}  {a1 : Int32} {s : yS} {P : Option Value → yS → Prop}  (h : w_165_0 (Tot d)  a1 s P) : Go d 2 (some .boolean) xE_165 (xE_165.drop 0) [.ref 213, .int a1, .null, .null] [] s P := by
  unfold w_165_0 at h
  refine g_ld rfl rfl rfl ?_
  refine g_get rfl rfl ?_
  change Go _ _ _ _ _ _ [.int (s.1 8)] _ _
  refine g_brN rfl rfl ⟨fun hc => ?_, fun hc => ?_⟩
  · replace h := h.1 hc
    exact k_165_19  h
  · replace h := h.2 hc
    refine g_ld rfl rfl rfl ?_
    refine g_get rfl rfl ?_
    change Go _ _ _ _ _ _ [.ref 215] _ _
    refine g_ld rfl rfl rfl ?_
    refine g_get rfl rfl ?_
    change Go _ _ _ _ _ _ [.int (s.1 7), .ref 215] _ _
    refine g_ial rfl rfl h.1 ?_
    replace h := h.2
    refine g_c [.int 1, .int (s.2.1 215 (Int32.toNatClampNeg (s.1 7)))] (xo_push (.int 1)) rfl rfl ?_
    refine g_brN rfl rfl ⟨fun hc => ?_, fun hc => ?_⟩
    · replace h := h.1 hc
      exact k_165_19  h
    · replace h := h.2 hc
      refine g_ld rfl rfl rfl ?_
      refine g_get rfl rfl ?_
      change Go _ _ _ _ _ _ [.ref 217] _ _
      refine g_ld rfl rfl rfl ?_
      refine g_get rfl rfl ?_
      change Go _ _ _ _ _ _ [.int (s.1 7), .ref 217] _ _
      refine g_ial rfl rfl h.1 ?_
      replace h := h.2
      refine g_ld rfl rfl rfl ?_
      refine g_brN rfl rfl ⟨fun hc => ?_, fun hc => ?_⟩
      · replace h := h.1 hc
        exact k_165_19  h
      · replace h := h.2 hc
        refine g_c [.int 1] (xo_push (.int 1)) rfl rfl ?_
        refine g_go rfl ?_
        exact k_165_20  h
theorem t_165 {d : Nat} {a1 : Int32} {s : yS} {P : Option Value → yS → Prop} (h : w_165_0 (Tot d) a1 s P) : Tot (d + 1) 165 [.ref 213, .int a1] s P := tot_of (E := xE_165) (ml := 2) (ret := some .boolean) rfl rfl rfl (k_165_0 h)
/-! isName -/
def w_166_20 (T : Nat → List Value → yS → (Option Value → yS → Prop) → Prop)  (t0 : Int32) (s : yS) (P : Option Value → yS → Prop) : Prop :=
  (t0 == 0 || t0 == 1) = true ∧ P (some (.int t0)) s
set_option maxRecDepth 20000 in
theorem k_166_20 {d : Nat}  {t0 : Int32} {s : yS} {P : Option Value → yS → Prop}  (h : w_166_20 (Tot d)  t0 s P) : Go d 1 (some .boolean) xE_166 (xE_166.drop 20) [.ref 213, .null] [.int t0] s P := by
  unfold w_166_20 at h
  exact g_retZ rfl h.1 h.2
def w_166_19 (T : Nat → List Value → yS → (Option Value → yS → Prop) → Prop)   (s : yS) (P : Option Value → yS → Prop) : Prop :=
  w_166_20 T   0 s P
set_option maxRecDepth 20000 in
theorem k_166_19 {d : Nat}   {s : yS} {P : Option Value → yS → Prop}  (h : w_166_19 (Tot d)   s P) : Go d 1 (some .boolean) xE_166 (xE_166.drop 19) [.ref 213, .null] [] s P := by
  unfold w_166_19 at h
  refine g_c [.int 0] (xo_push (.int 0)) rfl rfl ?_
  exact k_166_20  h
def w_166_0 (T : Nat → List Value → yS → (Option Value → yS → Prop) → Prop)   (s : yS) (P : Option Value → yS → Prop) : Prop :=
  (¬ ((s.1 8) = 0) → w_166_19 T    s P) ∧ ((s.1 8) = 0 → xIn (s.1 7) 12006 = true ∧ ((¬ ((s.2.1 215 (Int32.toNatClampNeg (s.1 7))) = 1) → w_166_19 T    s P) ∧ ((s.2.1 215 (Int32.toNatClampNeg (s.1 7))) = 1 → xIn (s.1 7) 12006 = true ∧ (((s.2.1 217 (Int32.toNatClampNeg (s.1 7))) ≤ 5 → w_166_19 T    s P) ∧ (¬ ((s.2.1 217 (Int32.toNatClampNeg (s.1 7))) ≤ 5) → w_166_20 T   1 s P)))))
set_option maxRecDepth 20000 in
theorem k_166_0 {d : Nat}   {s : yS} {P : Option Value → yS → Prop}  (h : w_166_0 (Tot d)   s P) : Go d 1 (some .boolean) xE_166 (xE_166.drop 0) [.ref 213, .null] [] s P := by
  unfold w_166_0 at h
  refine g_ld rfl rfl rfl ?_
  refine g_get rfl rfl ?_
  change Go _ _ _ _ _ _ [.int (s.1 8)] _ _
  refine g_brN rfl rfl ⟨fun hc => ?_, fun hc => ?_⟩
  · replace h := h.1 hc
    exact k_166_19  h
  · replace h := h.2 hc
    refine g_ld rfl rfl rfl ?_
    refine g_get rfl rfl ?_
    change Go _ _ _ _ _ _ [.ref 215] _ _
    refine g_ld rfl rfl rfl ?_
    refine g_get rfl rfl ?_
    change Go _ _ _ _ _ _ [.int (s.1 7), .ref 215] _ _
    refine g_ial rfl rfl h.1 ?_
    replace h := h.2
    refine g_c [.int 1, .int (s.2.1 215 (Int32.toNatClampNeg (s.1 7)))] (xo_push (.int 1)) rfl rfl ?_
    refine g_brN rfl rfl ⟨fun hc => ?_, fun hc => ?_⟩
    · replace h := h.1 hc
      exact k_166_19  h
    · replace h := h.2 hc
      refine g_ld rfl rfl rfl ?_
      refine g_get rfl rfl ?_
      change Go _ _ _ _ _ _ [.ref 217] _ _
      refine g_ld rfl rfl rfl ?_
      refine g_get rfl rfl ?_
      change Go _ _ _ _ _ _ [.int (s.1 7), .ref 217] _ _
      refine g_ial rfl rfl h.1 ?_
      replace h := h.2
      refine g_c [.int 5, .int (s.2.1 217 (Int32.toNatClampNeg (s.1 7)))] (xo_push (.int 5)) rfl rfl ?_
      refine g_brP rfl rfl ⟨fun hc => ?_, fun hc => ?_⟩
      · replace h := h.1 hc
        exact k_166_19  h
      · replace h := h.2 hc
        refine g_c [.int 1] (xo_push (.int 1)) rfl rfl ?_
        refine g_go rfl ?_
        exact k_166_20  h
theorem t_166 {d : Nat}  {s : yS} {P : Option Value → yS → Prop} (h : w_166_0 (Tot d)  s P) : Tot (d + 1) 166 [.ref 213] s P := tot_of (E := xE_166) (ml := 1) (ret := some .boolean) rfl rfl rfl (k_166_0 h)
/-! takeSign -/
def w_167_16 (T : Nat → List Value → yS → (Option Value → yS → Prop) → Prop)  (a1 : Int32) (s : yS) (P : Option Value → yS → Prop) : Prop :=
  P none s
set_option maxRecDepth 20000 in
theorem k_167_16 {d : Nat}  {a1 : Int32} {s : yS} {P : Option Value → yS → Prop}  (h : w_167_16 (Tot d)  a1 s P) : Go d 2 (none) xE_167 (xE_167.drop 16) [.ref 213, .int a1, .null, .null] [] s P := by
  unfold w_167_16 at h
  exact g_ret0 rfl h
def w_167_0 (T : Nat → List Value → yS → (Option Value → yS → Prop) → Prop)  (a1 : Int32) (s : yS) (P : Option Value → yS → Prop) : Prop :=
  T 164 [.ref 213, .int a1] s (fun v2 s1 => ∃ x3, v2 = some (.int x3) ∧ ((x3 = 0 → T 163 [.ref 213, .int 1, .int (s1.1 7)] s1 (fun v5 s4 => v5 = none ∧ (w_167_16 T  a1  s4 P))) ∧ (¬ (x3 = 0) → ∀ s6, s6 = sf s1 7 ((s1.1 7) + 1) → w_167_16 T  a1  s6 P)))
set_option maxRecDepth 20000 in
theorem k_167_0 {d : Nat}  {a1 : Int32} {s : yS} {P : Option Value → yS → Prop}  (h : w_167_0 (Tot d)  a1 s P) : Go d 2 (none) xE_167 (xE_167.drop 0) [.ref 213, .int a1, .null, .null] [] s P := by
  unfold w_167_0 at h
  refine g_ld rfl rfl rfl ?_
  refine g_ld rfl rfl rfl ?_
  refine g_call [.ref 213, .int a1] [] rfl rfl rfl (Tot.imp h (fun v2 s1 h => ?_))
  obtain ⟨x3, rfl, h⟩ := h
  change Go _ _ _ _ _ _ [.int x3] _ _
  refine g_brP rfl rfl ⟨fun hc => ?_, fun hc => ?_⟩
  · replace h := h.1 hc
    refine g_ld rfl rfl rfl ?_
    refine g_c [.int 1, .ref 213] (xo_push (.int 1)) rfl rfl ?_
    refine g_ld rfl rfl rfl ?_
    refine g_get rfl rfl ?_
    change Go _ _ _ _ _ _ [.int (s1.1 7), .int 1, .ref 213] _ _
    refine g_call [.ref 213, .int 1, .int (s1.1 7)] [] rfl rfl rfl (Tot.imp h (fun v5 s4 h => ?_))
    obtain ⟨rfl, h⟩ := h
    change Go _ _ _ _ _ _ [] _ _
    exact k_167_16  h
  · replace h := h.2 hc
    refine g_ld rfl rfl rfl ?_
    refine g_c [.ref 213, .ref 213] xo_dup rfl rfl ?_
    refine g_get rfl rfl ?_
    change Go _ _ _ _ _ _ [.int (s1.1 7), .ref 213] _ _
    refine g_c [.int 1, .int (s1.1 7), .ref 213] (xo_push (.int 1)) rfl rfl ?_
    refine g_c [.int ((s1.1 7) + 1), .ref 213] xo_iadd rfl rfl ?_
    refine g_put rfl rfl rfl ?_
    replace h := h _ rfl
    refine g_go rfl ?_
    exact k_167_16  h
theorem t_167 {d : Nat} {a1 : Int32} {s : yS} {P : Option Value → yS → Prop} (h : w_167_0 (Tot d) a1 s P) : Tot (d + 1) 167 [.ref 213, .int a1] s P := tot_of (E := xE_167) (ml := 2) (ret := none) rfl rfl rfl (k_167_0 h)
/-! hasSign -/
def w_168_12 (T : Nat → List Value → yS → (Option Value → yS → Prop) → Prop)  (a1 : Int32) (a2 : Int32) (t1 : Int32) (t2 : Int32) (s : yS) (P : Option Value → yS → Prop) : Prop :=
  ∀ s1, s1 = sf s 7 (t1 + t2) → (a2 == 0 || a2 == 1) = true ∧ P (some (.int a2)) s1
set_option maxRecDepth 20000 in
theorem k_168_12 {d : Nat}  {a1 : Int32} {a2 : Int32} {t1 : Int32} {t2 : Int32} {s : yS} {P : Option Value → yS → Prop}  (h : w_168_12 (Tot d)  a1 a2 t1 t2 s P) : Go d 3 (some .boolean) xE_168 (xE_168.drop 12) [.ref 213, .int a1, .int a2, .null, .null] [.int t2, .int t1, .ref 213] s P := by
  unfold w_168_12 at h
  refine g_c [.int (t1 + t2), .ref 213] xo_iadd rfl rfl ?_
  refine g_put rfl rfl rfl ?_
  replace h := h _ rfl
  refine g_ld rfl rfl rfl ?_
  exact g_retZ rfl h.1 h.2
def w_168_0 (T : Nat → List Value → yS → (Option Value → yS → Prop) → Prop)  (a1 : Int32) (s : yS) (P : Option Value → yS → Prop) : Prop :=
  T 164 [.ref 213, .int a1] s (fun v2 s1 => ∃ x3, v2 = some (.int x3) ∧ ((x3 = 0 → w_168_12 T  a1 x3 (s1.1 7) 0 s1 P) ∧ (¬ (x3 = 0) → w_168_12 T  a1 x3 (s1.1 7) 1 s1 P)))
set_option maxRecDepth 20000 in
theorem k_168_0 {d : Nat}  {a1 : Int32} {s : yS} {P : Option Value → yS → Prop}  (h : w_168_0 (Tot d)  a1 s P) : Go d 3 (some .boolean) xE_168 (xE_168.drop 0) [.ref 213, .int a1, .null, .null, .null] [] s P := by
  unfold w_168_0 at h
  refine g_ld rfl rfl rfl ?_
  refine g_ld rfl rfl rfl ?_
  refine g_call [.ref 213, .int a1] [] rfl rfl rfl (Tot.imp h (fun v2 s1 h => ?_))
  obtain ⟨x3, rfl, h⟩ := h
  change Go _ _ _ _ _ _ [.int x3] _ _
  refine g_st [.ref 213, .int a1, .int x3, .null, .null] rfl rfl rfl ?_
  refine g_ld rfl rfl rfl ?_
  refine g_c [.ref 213, .ref 213] xo_dup rfl rfl ?_
  refine g_get rfl rfl ?_
  change Go _ _ _ _ _ _ [.int (s1.1 7), .ref 213] _ _
  refine g_ld rfl rfl rfl ?_
  refine g_brP rfl rfl ⟨fun hc => ?_, fun hc => ?_⟩
  · replace h := h.1 hc
    refine g_c [.int 0, .int (s1.1 7), .ref 213] (xo_push (.int 0)) rfl rfl ?_
    exact k_168_12  h
  · replace h := h.2 hc
    refine g_c [.int 1, .int (s1.1 7), .ref 213] (xo_push (.int 1)) rfl rfl ?_
    refine g_go rfl ?_
    exact k_168_12  h
theorem t_168 {d : Nat} {a1 : Int32} {s : yS} {P : Option Value → yS → Prop} (h : w_168_0 (Tot d) a1 s P) : Tot (d + 1) 168 [.ref 213, .int a1] s P := tot_of (E := xE_168) (ml := 3) (ret := some .boolean) rfl rfl rfl (k_168_0 h)
/-! takeWord -/
def w_169_16 (T : Nat → List Value → yS → (Option Value → yS → Prop) → Prop)  (a1 : Int32) (s : yS) (P : Option Value → yS → Prop) : Prop :=
  P none s
set_option maxRecDepth 20000 in
theorem k_169_16 {d : Nat}  {a1 : Int32} {s : yS} {P : Option Value → yS → Prop}  (h : w_169_16 (Tot d)  a1 s P) : Go d 2 (none) xE_169 (xE_169.drop 16) [.ref 213, .int a1, .null, .null] [] s P := by
  unfold w_169_16 at h
  exact g_ret0 rfl h
def w_169_0 (T : Nat → List Value → yS → (Option Value → yS → Prop) → Prop)  (a1 : Int32) (s : yS) (P : Option Value → yS → Prop) : Prop :=
  T 165 [.ref 213, .int a1] s (fun v2 s1 => ∃ x3, v2 = some (.int x3) ∧ ((x3 = 0 → T 163 [.ref 213, .int 1, .int (s1.1 7)] s1 (fun v5 s4 => v5 = none ∧ (w_169_16 T  a1  s4 P))) ∧ (¬ (x3 = 0) → ∀ s6, s6 = sf s1 7 ((s1.1 7) + 1) → w_169_16 T  a1  s6 P)))
set_option maxRecDepth 20000 in
theorem k_169_0 {d : Nat}  {a1 : Int32} {s : yS} {P : Option Value → yS → Prop}  (h : w_169_0 (Tot d)  a1 s P) : Go d 2 (none) xE_169 (xE_169.drop 0) [.ref 213, .int a1, .null, .null] [] s P := by
  unfold w_169_0 at h
  refine g_ld rfl rfl rfl ?_
  refine g_ld rfl rfl rfl ?_
  refine g_call [.ref 213, .int a1] [] rfl rfl rfl (Tot.imp h (fun v2 s1 h => ?_))
  obtain ⟨x3, rfl, h⟩ := h
  change Go _ _ _ _ _ _ [.int x3] _ _
  refine g_brP rfl rfl ⟨fun hc => ?_, fun hc => ?_⟩
  · replace h := h.1 hc
    refine g_ld rfl rfl rfl ?_
    refine g_c [.int 1, .ref 213] (xo_push (.int 1)) rfl rfl ?_
    refine g_ld rfl rfl rfl ?_
    refine g_get rfl rfl ?_
    change Go _ _ _ _ _ _ [.int (s1.1 7), .int 1, .ref 213] _ _
    refine g_call [.ref 213, .int 1, .int (s1.1 7)] [] rfl rfl rfl (Tot.imp h (fun v5 s4 h => ?_))
    obtain ⟨rfl, h⟩ := h
    change Go _ _ _ _ _ _ [] _ _
    exact k_169_16  h
  · replace h := h.2 hc
    refine g_ld rfl rfl rfl ?_
    refine g_c [.ref 213, .ref 213] xo_dup rfl rfl ?_
    refine g_get rfl rfl ?_
    change Go _ _ _ _ _ _ [.int (s1.1 7), .ref 213] _ _
    refine g_c [.int 1, .int (s1.1 7), .ref 213] (xo_push (.int 1)) rfl rfl ?_
    refine g_c [.int ((s1.1 7) + 1), .ref 213] xo_iadd rfl rfl ?_
    refine g_put rfl rfl rfl ?_
    replace h := h _ rfl
    refine g_go rfl ?_
    exact k_169_16  h
theorem t_169 {d : Nat} {a1 : Int32} {s : yS} {P : Option Value → yS → Prop} (h : w_169_0 (Tot d) a1 s P) : Tot (d + 1) 169 [.ref 213, .int a1] s P := tot_of (E := xE_169) (ml := 2) (ret := none) rfl rfl rfl (k_169_0 h)
/-! takeName -/
def w_170_8 (T : Nat → List Value → yS → (Option Value → yS → Prop) → Prop)   (s : yS) (P : Option Value → yS → Prop) : Prop :=
  ∀ s1, s1 = sf s 7 ((s.1 7) + 1) → P (some (.int ((s1.1 7) - 1))) s1
set_option maxRecDepth 20000 in
theorem k_170_8 {d : Nat}   {s : yS} {P : Option Value → yS → Prop}  (h : w_170_8 (Tot d)   s P) : Go d 1 (some .int) xE_170 (xE_170.drop 8) [.ref 213, .null] [] s P := by
  unfold w_170_8 at h
  refine g_ld rfl rfl rfl ?_
  refine g_c [.ref 213, .ref 213] xo_dup rfl rfl ?_
  refine g_get rfl rfl ?_
  change Go _ _ _ _ _ _ [.int (s.1 7), .ref 213] _ _
  refine g_c [.int 1, .int (s.1 7), .ref 213] (xo_push (.int 1)) rfl rfl ?_
  refine g_c [.int ((s.1 7) + 1), .ref 213] xo_iadd rfl rfl ?_
  refine g_put rfl rfl rfl ?_
  replace h := h _ rfl
  refine g_ld rfl rfl rfl ?_
  refine g_get rfl rfl ?_
  change Go _ _ _ _ _ _ [.int ((sf s 7 ((s.1 7) + 1)).1 7)] _ _
  refine g_c [.int 1, .int ((sf s 7 ((s.1 7) + 1)).1 7)] (xo_push (.int 1)) rfl rfl ?_
  refine g_c [.int (((sf s 7 ((s.1 7) + 1)).1 7) - 1)] xo_isub rfl rfl ?_
  exact g_retI rfl h
def w_170_0 (T : Nat → List Value → yS → (Option Value → yS → Prop) → Prop)   (s : yS) (P : Option Value → yS → Prop) : Prop :=
  T 166 [.ref 213] s (fun v2 s1 => ∃ x3, v2 = some (.int x3) ∧ ((¬ (x3 = 0) → w_170_8 T    s1 P) ∧ (x3 = 0 → T 163 [.ref 213, .int 1, .int (s1.1 7)] s1 (fun v5 s4 => v5 = none ∧ (w_170_8 T    s4 P)))))
set_option maxRecDepth 20000 in
theorem k_170_0 {d : Nat}   {s : yS} {P : Option Value → yS → Prop}  (h : w_170_0 (Tot d)   s P) : Go d 1 (some .int) xE_170 (xE_170.drop 0) [.ref 213, .null] [] s P := by
  unfold w_170_0 at h
  refine g_ld rfl rfl rfl ?_
  refine g_call [.ref 213] [] rfl rfl rfl (Tot.imp h (fun v2 s1 h => ?_))
  obtain ⟨x3, rfl, h⟩ := h
  change Go _ _ _ _ _ _ [.int x3] _ _
  refine g_brN rfl rfl ⟨fun hc => ?_, fun hc => ?_⟩
  · replace h := h.1 hc
    exact k_170_8  h
  · replace h := h.2 hc
    refine g_ld rfl rfl rfl ?_
    refine g_c [.int 1, .ref 213] (xo_push (.int 1)) rfl rfl ?_
    refine g_ld rfl rfl rfl ?_
    refine g_get rfl rfl ?_
    change Go _ _ _ _ _ _ [.int (s1.1 7), .int 1, .ref 213] _ _
    refine g_call [.ref 213, .int 1, .int (s1.1 7)] [] rfl rfl rfl (Tot.imp h (fun v5 s4 h => ?_))
    obtain ⟨rfl, h⟩ := h
    change Go _ _ _ _ _ _ [] _ _
    exact k_170_8  h
theorem t_170 {d : Nat}  {s : yS} {P : Option Value → yS → Prop} (h : w_170_0 (Tot d)  s P) : Tot (d + 1) 170 [.ref 213] s P := tot_of (E := xE_170) (ml := 1) (ret := some .int) rfl rfl rfl (k_170_0 h)
/-! node -/
def w_171_0 (T : Nat → List Value → yS → (Option Value → yS → Prop) → Prop)  (a1 : Int32) (s : yS) (P : Option Value → yS → Prop) : Prop :=
  xIn (s.1 26) 12006 = true ∧ (∀ s1, s1 = sa s 221 (Int32.toNatClampNeg (s.1 26)) a1 → xIn (s1.1 26) 12006 = true ∧ (∀ s2, s2 = sa s1 222 (Int32.toNatClampNeg (s1.1 26)) (s1.1 7) → xIn (s2.1 26) 12006 = true ∧ (∀ s3, s3 = sa s2 224 (Int32.toNatClampNeg (s2.1 26)) (-1) → xIn (s3.1 26) 12006 = true ∧ (∀ s4, s4 = sa s3 225 (Int32.toNatClampNeg (s3.1 26)) (-1) → xIn (s4.1 26) 12006 = true ∧ (∀ s5, s5 = sa s4 226 (Int32.toNatClampNeg (s4.1 26)) 0 → xIn (s5.1 26) 12006 = true ∧ (∀ s6, s6 = sa s5 227 (Int32.toNatClampNeg (s5.1 26)) (-1) → xIn (s6.1 26) 12006 = true ∧ (∀ s7, s7 = sa s6 228 (Int32.toNatClampNeg (s6.1 26)) (-1) → xIn (s7.1 26) 12006 = true ∧ (∀ s8, s8 = sa s7 229 (Int32.toNatClampNeg (s7.1 26)) (-1) → xIn (s8.1 26) 12006 = true ∧ (∀ s9, s9 = sa s8 230 (Int32.toNatClampNeg (s8.1 26)) 0 → ∀ s10, s10 = sf s9 26 ((s9.1 26) + 1) → P (some (.int ((s10.1 26) - 1))) s10)))))))))
set_option maxRecDepth 20000 in
theorem k_171_0 {d : Nat}  {a1 : Int32} {s : yS} {P : Option Value → yS → Prop}  (h : w_171_0 (Tot d)  a1 s P) : Go d 2 (some .int) xE_171 (xE_171.drop 0) [.ref 213, .int a1, .null, .null] [] s P := by
  unfold w_171_0 at h
  refine g_ld rfl rfl rfl ?_
  refine g_get rfl rfl ?_
  change Go _ _ _ _ _ _ [.ref 221] _ _
  refine g_ld rfl rfl rfl ?_
  refine g_get rfl rfl ?_
  change Go _ _ _ _ _ _ [.int (s.1 26), .ref 221] _ _
  refine g_ld rfl rfl rfl ?_
  refine g_ias rfl rfl h.1 ?_
  replace h := h.2
  replace h := h _ rfl
  refine g_ld rfl rfl rfl ?_
  refine g_get rfl rfl ?_
  change Go _ _ _ _ _ _ [.ref 222] _ _
  refine g_ld rfl rfl rfl ?_
  refine g_get rfl rfl ?_
  change Go _ _ _ _ _ _ [.int ((sa s 221 (Int32.toNatClampNeg (s.1 26)) a1).1 26), .ref 222] _ _
  refine g_ld rfl rfl rfl ?_
  refine g_get rfl rfl ?_
  change Go _ _ _ _ _ _ [.int ((sa s 221 (Int32.toNatClampNeg (s.1 26)) a1).1 7), .int ((sa s 221 (Int32.toNatClampNeg (s.1 26)) a1).1 26), .ref 222] _ _
  refine g_ias rfl rfl h.1 ?_
  replace h := h.2
  replace h := h _ rfl
  refine g_ld rfl rfl rfl ?_
  refine g_get rfl rfl ?_
  change Go _ _ _ _ _ _ [.ref 224] _ _
  refine g_ld rfl rfl rfl ?_
  refine g_get rfl rfl ?_
  change Go _ _ _ _ _ _ [.int ((sa (sa s 221 (Int32.toNatClampNeg (s.1 26)) a1) 222 (Int32.toNatClampNeg ((sa s 221 (Int32.toNatClampNeg (s.1 26)) a1).1 26)) ((sa s 221 (Int32.toNatClampNeg (s.1 26)) a1).1 7)).1 26), .ref 224] _ _
  refine g_c [.int (-1), .int ((sa (sa s 221 (Int32.toNatClampNeg (s.1 26)) a1) 222 (Int32.toNatClampNeg ((sa s 221 (Int32.toNatClampNeg (s.1 26)) a1).1 26)) ((sa s 221 (Int32.toNatClampNeg (s.1 26)) a1).1 7)).1 26), .ref 224] (xo_push (.int (-1))) rfl rfl ?_
  refine g_ias rfl rfl h.1 ?_
  replace h := h.2
  replace h := h _ rfl
  refine g_ld rfl rfl rfl ?_
  refine g_get rfl rfl ?_
  change Go _ _ _ _ _ _ [.ref 225] _ _
  refine g_ld rfl rfl rfl ?_
  refine g_get rfl rfl ?_
  change Go _ _ _ _ _ _ [.int ((sa (sa (sa s 221 (Int32.toNatClampNeg (s.1 26)) a1) 222 (Int32.toNatClampNeg ((sa s 221 (Int32.toNatClampNeg (s.1 26)) a1).1 26)) ((sa s 221 (Int32.toNatClampNeg (s.1 26)) a1).1 7)) 224 (Int32.toNatClampNeg ((sa (sa s 221 (Int32.toNatClampNeg (s.1 26)) a1) 222 (Int32.toNatClampNeg ((sa s 221 (Int32.toNatClampNeg (s.1 26)) a1).1 26)) ((sa s 221 (Int32.toNatClampNeg (s.1 26)) a1).1 7)).1 26)) (-1)).1 26), .ref 225] _ _
  refine g_c [.int (-1), .int ((sa (sa (sa s 221 (Int32.toNatClampNeg (s.1 26)) a1) 222 (Int32.toNatClampNeg ((sa s 221 (Int32.toNatClampNeg (s.1 26)) a1).1 26)) ((sa s 221 (Int32.toNatClampNeg (s.1 26)) a1).1 7)) 224 (Int32.toNatClampNeg ((sa (sa s 221 (Int32.toNatClampNeg (s.1 26)) a1) 222 (Int32.toNatClampNeg ((sa s 221 (Int32.toNatClampNeg (s.1 26)) a1).1 26)) ((sa s 221 (Int32.toNatClampNeg (s.1 26)) a1).1 7)).1 26)) (-1)).1 26), .ref 225] (xo_push (.int (-1))) rfl rfl ?_
  refine g_ias rfl rfl h.1 ?_
  replace h := h.2
  replace h := h _ rfl
  refine g_ld rfl rfl rfl ?_
  refine g_get rfl rfl ?_
  change Go _ _ _ _ _ _ [.ref 226] _ _
  refine g_ld rfl rfl rfl ?_
  refine g_get rfl rfl ?_
  change Go _ _ _ _ _ _ [.int ((sa (sa (sa (sa s 221 (Int32.toNatClampNeg (s.1 26)) a1) 222 (Int32.toNatClampNeg ((sa s 221 (Int32.toNatClampNeg (s.1 26)) a1).1 26)) ((sa s 221 (Int32.toNatClampNeg (s.1 26)) a1).1 7)) 224 (Int32.toNatClampNeg ((sa (sa s 221 (Int32.toNatClampNeg (s.1 26)) a1) 222 (Int32.toNatClampNeg ((sa s 221 (Int32.toNatClampNeg (s.1 26)) a1).1 26)) ((sa s 221 (Int32.toNatClampNeg (s.1 26)) a1).1 7)).1 26)) (-1)) 225 (Int32.toNatClampNeg ((sa (sa (sa s 221 (Int32.toNatClampNeg (s.1 26)) a1) 222 (Int32.toNatClampNeg ((sa s 221 (Int32.toNatClampNeg (s.1 26)) a1).1 26)) ((sa s 221 (Int32.toNatClampNeg (s.1 26)) a1).1 7)) 224 (Int32.toNatClampNeg ((sa (sa s 221 (Int32.toNatClampNeg (s.1 26)) a1) 222 (Int32.toNatClampNeg ((sa s 221 (Int32.toNatClampNeg (s.1 26)) a1).1 26)) ((sa s 221 (Int32.toNatClampNeg (s.1 26)) a1).1 7)).1 26)) (-1)).1 26)) (-1)).1 26), .ref 226] _ _
  refine g_c [.int 0, .int ((sa (sa (sa (sa s 221 (Int32.toNatClampNeg (s.1 26)) a1) 222 (Int32.toNatClampNeg ((sa s 221 (Int32.toNatClampNeg (s.1 26)) a1).1 26)) ((sa s 221 (Int32.toNatClampNeg (s.1 26)) a1).1 7)) 224 (Int32.toNatClampNeg ((sa (sa s 221 (Int32.toNatClampNeg (s.1 26)) a1) 222 (Int32.toNatClampNeg ((sa s 221 (Int32.toNatClampNeg (s.1 26)) a1).1 26)) ((sa s 221 (Int32.toNatClampNeg (s.1 26)) a1).1 7)).1 26)) (-1)) 225 (Int32.toNatClampNeg ((sa (sa (sa s 221 (Int32.toNatClampNeg (s.1 26)) a1) 222 (Int32.toNatClampNeg ((sa s 221 (Int32.toNatClampNeg (s.1 26)) a1).1 26)) ((sa s 221 (Int32.toNatClampNeg (s.1 26)) a1).1 7)) 224 (Int32.toNatClampNeg ((sa (sa s 221 (Int32.toNatClampNeg (s.1 26)) a1) 222 (Int32.toNatClampNeg ((sa s 221 (Int32.toNatClampNeg (s.1 26)) a1).1 26)) ((sa s 221 (Int32.toNatClampNeg (s.1 26)) a1).1 7)).1 26)) (-1)).1 26)) (-1)).1 26), .ref 226] (xo_push (.int 0)) rfl rfl ?_
  refine g_ias rfl rfl h.1 ?_
  replace h := h.2
  replace h := h _ rfl
  refine g_ld rfl rfl rfl ?_
  refine g_get rfl rfl ?_
  change Go _ _ _ _ _ _ [.ref 227] _ _
  refine g_ld rfl rfl rfl ?_
  refine g_get rfl rfl ?_
  change Go _ _ _ _ _ _ [.int ((sa (sa (sa (sa (sa s 221 (Int32.toNatClampNeg (s.1 26)) a1) 222 (Int32.toNatClampNeg ((sa s 221 (Int32.toNatClampNeg (s.1 26)) a1).1 26)) ((sa s 221 (Int32.toNatClampNeg (s.1 26)) a1).1 7)) 224 (Int32.toNatClampNeg ((sa (sa s 221 (Int32.toNatClampNeg (s.1 26)) a1) 222 (Int32.toNatClampNeg ((sa s 221 (Int32.toNatClampNeg (s.1 26)) a1).1 26)) ((sa s 221 (Int32.toNatClampNeg (s.1 26)) a1).1 7)).1 26)) (-1)) 225 (Int32.toNatClampNeg ((sa (sa (sa s 221 (Int32.toNatClampNeg (s.1 26)) a1) 222 (Int32.toNatClampNeg ((sa s 221 (Int32.toNatClampNeg (s.1 26)) a1).1 26)) ((sa s 221 (Int32.toNatClampNeg (s.1 26)) a1).1 7)) 224 (Int32.toNatClampNeg ((sa (sa s 221 (Int32.toNatClampNeg (s.1 26)) a1) 222 (Int32.toNatClampNeg ((sa s 221 (Int32.toNatClampNeg (s.1 26)) a1).1 26)) ((sa s 221 (Int32.toNatClampNeg (s.1 26)) a1).1 7)).1 26)) (-1)).1 26)) (-1)) 226 (Int32.toNatClampNeg ((sa (sa (sa (sa s 221 (Int32.toNatClampNeg (s.1 26)) a1) 222 (Int32.toNatClampNeg ((sa s 221 (Int32.toNatClampNeg (s.1 26)) a1).1 26)) ((sa s 221 (Int32.toNatClampNeg (s.1 26)) a1).1 7)) 224 (Int32.toNatClampNeg ((sa (sa s 221 (Int32.toNatClampNeg (s.1 26)) a1) 222 (Int32.toNatClampNeg ((sa s 221 (Int32.toNatClampNeg (s.1 26)) a1).1 26)) ((sa s 221 (Int32.toNatClampNeg (s.1 26)) a1).1 7)).1 26)) (-1)) 225 (Int32.toNatClampNeg ((sa (sa (sa s 221 (Int32.toNatClampNeg (s.1 26)) a1) 222 (Int32.toNatClampNeg ((sa s 221 (Int32.toNatClampNeg (s.1 26)) a1).1 26)) ((sa s 221 (Int32.toNatClampNeg (s.1 26)) a1).1 7)) 224 (Int32.toNatClampNeg ((sa (sa s 221 (Int32.toNatClampNeg (s.1 26)) a1) 222 (Int32.toNatClampNeg ((sa s 221 (Int32.toNatClampNeg (s.1 26)) a1).1 26)) ((sa s 221 (Int32.toNatClampNeg (s.1 26)) a1).1 7)).1 26)) (-1)).1 26)) (-1)).1 26)) 0).1 26), .ref 227] _ _
  refine g_c [.int (-1), .int ((sa (sa (sa (sa (sa s 221 (Int32.toNatClampNeg (s.1 26)) a1) 222 (Int32.toNatClampNeg ((sa s 221 (Int32.toNatClampNeg (s.1 26)) a1).1 26)) ((sa s 221 (Int32.toNatClampNeg (s.1 26)) a1).1 7)) 224 (Int32.toNatClampNeg ((sa (sa s 221 (Int32.toNatClampNeg (s.1 26)) a1) 222 (Int32.toNatClampNeg ((sa s 221 (Int32.toNatClampNeg (s.1 26)) a1).1 26)) ((sa s 221 (Int32.toNatClampNeg (s.1 26)) a1).1 7)).1 26)) (-1)) 225 (Int32.toNatClampNeg ((sa (sa (sa s 221 (Int32.toNatClampNeg (s.1 26)) a1) 222 (Int32.toNatClampNeg ((sa s 221 (Int32.toNatClampNeg (s.1 26)) a1).1 26)) ((sa s 221 (Int32.toNatClampNeg (s.1 26)) a1).1 7)) 224 (Int32.toNatClampNeg ((sa (sa s 221 (Int32.toNatClampNeg (s.1 26)) a1) 222 (Int32.toNatClampNeg ((sa s 221 (Int32.toNatClampNeg (s.1 26)) a1).1 26)) ((sa s 221 (Int32.toNatClampNeg (s.1 26)) a1).1 7)).1 26)) (-1)).1 26)) (-1)) 226 (Int32.toNatClampNeg ((sa (sa (sa (sa s 221 (Int32.toNatClampNeg (s.1 26)) a1) 222 (Int32.toNatClampNeg ((sa s 221 (Int32.toNatClampNeg (s.1 26)) a1).1 26)) ((sa s 221 (Int32.toNatClampNeg (s.1 26)) a1).1 7)) 224 (Int32.toNatClampNeg ((sa (sa s 221 (Int32.toNatClampNeg (s.1 26)) a1) 222 (Int32.toNatClampNeg ((sa s 221 (Int32.toNatClampNeg (s.1 26)) a1).1 26)) ((sa s 221 (Int32.toNatClampNeg (s.1 26)) a1).1 7)).1 26)) (-1)) 225 (Int32.toNatClampNeg ((sa (sa (sa s 221 (Int32.toNatClampNeg (s.1 26)) a1) 222 (Int32.toNatClampNeg ((sa s 221 (Int32.toNatClampNeg (s.1 26)) a1).1 26)) ((sa s 221 (Int32.toNatClampNeg (s.1 26)) a1).1 7)) 224 (Int32.toNatClampNeg ((sa (sa s 221 (Int32.toNatClampNeg (s.1 26)) a1) 222 (Int32.toNatClampNeg ((sa s 221 (Int32.toNatClampNeg (s.1 26)) a1).1 26)) ((sa s 221 (Int32.toNatClampNeg (s.1 26)) a1).1 7)).1 26)) (-1)).1 26)) (-1)).1 26)) 0).1 26), .ref 227] (xo_push (.int (-1))) rfl rfl ?_
  refine g_ias rfl rfl h.1 ?_
  replace h := h.2
  replace h := h _ rfl
  refine g_ld rfl rfl rfl ?_
  refine g_get rfl rfl ?_
  change Go _ _ _ _ _ _ [.ref 228] _ _
  refine g_ld rfl rfl rfl ?_
  refine g_get rfl rfl ?_
  change Go _ _ _ _ _ _ [.int ((sa (sa (sa (sa (sa (sa s 221 (Int32.toNatClampNeg (s.1 26)) a1) 222 (Int32.toNatClampNeg ((sa s 221 (Int32.toNatClampNeg (s.1 26)) a1).1 26)) ((sa s 221 (Int32.toNatClampNeg (s.1 26)) a1).1 7)) 224 (Int32.toNatClampNeg ((sa (sa s 221 (Int32.toNatClampNeg (s.1 26)) a1) 222 (Int32.toNatClampNeg ((sa s 221 (Int32.toNatClampNeg (s.1 26)) a1).1 26)) ((sa s 221 (Int32.toNatClampNeg (s.1 26)) a1).1 7)).1 26)) (-1)) 225 (Int32.toNatClampNeg ((sa (sa (sa s 221 (Int32.toNatClampNeg (s.1 26)) a1) 222 (Int32.toNatClampNeg ((sa s 221 (Int32.toNatClampNeg (s.1 26)) a1).1 26)) ((sa s 221 (Int32.toNatClampNeg (s.1 26)) a1).1 7)) 224 (Int32.toNatClampNeg ((sa (sa s 221 (Int32.toNatClampNeg (s.1 26)) a1) 222 (Int32.toNatClampNeg ((sa s 221 (Int32.toNatClampNeg (s.1 26)) a1).1 26)) ((sa s 221 (Int32.toNatClampNeg (s.1 26)) a1).1 7)).1 26)) (-1)).1 26)) (-1)) 226 (Int32.toNatClampNeg ((sa (sa (sa (sa s 221 (Int32.toNatClampNeg (s.1 26)) a1) 222 (Int32.toNatClampNeg ((sa s 221 (Int32.toNatClampNeg (s.1 26)) a1).1 26)) ((sa s 221 (Int32.toNatClampNeg (s.1 26)) a1).1 7)) 224 (Int32.toNatClampNeg ((sa (sa s 221 (Int32.toNatClampNeg (s.1 26)) a1) 222 (Int32.toNatClampNeg ((sa s 221 (Int32.toNatClampNeg (s.1 26)) a1).1 26)) ((sa s 221 (Int32.toNatClampNeg (s.1 26)) a1).1 7)).1 26)) (-1)) 225 (Int32.toNatClampNeg ((sa (sa (sa s 221 (Int32.toNatClampNeg (s.1 26)) a1) 222 (Int32.toNatClampNeg ((sa s 221 (Int32.toNatClampNeg (s.1 26)) a1).1 26)) ((sa s 221 (Int32.toNatClampNeg (s.1 26)) a1).1 7)) 224 (Int32.toNatClampNeg ((sa (sa s 221 (Int32.toNatClampNeg (s.1 26)) a1) 222 (Int32.toNatClampNeg ((sa s 221 (Int32.toNatClampNeg (s.1 26)) a1).1 26)) ((sa s 221 (Int32.toNatClampNeg (s.1 26)) a1).1 7)).1 26)) (-1)).1 26)) (-1)).1 26)) 0) 227 (Int32.toNatClampNeg ((sa (sa (sa (sa (sa s 221 (Int32.toNatClampNeg (s.1 26)) a1) 222 (Int32.toNatClampNeg ((sa s 221 (Int32.toNatClampNeg (s.1 26)) a1).1 26)) ((sa s 221 (Int32.toNatClampNeg (s.1 26)) a1).1 7)) 224 (Int32.toNatClampNeg ((sa (sa s 221 (Int32.toNatClampNeg (s.1 26)) a1) 222 (Int32.toNatClampNeg ((sa s 221 (Int32.toNatClampNeg (s.1 26)) a1).1 26)) ((sa s 221 (Int32.toNatClampNeg (s.1 26)) a1).1 7)).1 26)) (-1)) 225 (Int32.toNatClampNeg ((sa (sa (sa s 221 (Int32.toNatClampNeg (s.1 26)) a1) 222 (Int32.toNatClampNeg ((sa s 221 (Int32.toNatClampNeg (s.1 26)) a1).1 26)) ((sa s 221 (Int32.toNatClampNeg (s.1 26)) a1).1 7)) 224 (Int32.toNatClampNeg ((sa (sa s 221 (Int32.toNatClampNeg (s.1 26)) a1) 222 (Int32.toNatClampNeg ((sa s 221 (Int32.toNatClampNeg (s.1 26)) a1).1 26)) ((sa s 221 (Int32.toNatClampNeg (s.1 26)) a1).1 7)).1 26)) (-1)).1 26)) (-1)) 226 (Int32.toNatClampNeg ((sa (sa (sa (sa s 221 (Int32.toNatClampNeg (s.1 26)) a1) 222 (Int32.toNatClampNeg ((sa s 221 (Int32.toNatClampNeg (s.1 26)) a1).1 26)) ((sa s 221 (Int32.toNatClampNeg (s.1 26)) a1).1 7)) 224 (Int32.toNatClampNeg ((sa (sa s 221 (Int32.toNatClampNeg (s.1 26)) a1) 222 (Int32.toNatClampNeg ((sa s 221 (Int32.toNatClampNeg (s.1 26)) a1).1 26)) ((sa s 221 (Int32.toNatClampNeg (s.1 26)) a1).1 7)).1 26)) (-1)) 225 (Int32.toNatClampNeg ((sa (sa (sa s 221 (Int32.toNatClampNeg (s.1 26)) a1) 222 (Int32.toNatClampNeg ((sa s 221 (Int32.toNatClampNeg (s.1 26)) a1).1 26)) ((sa s 221 (Int32.toNatClampNeg (s.1 26)) a1).1 7)) 224 (Int32.toNatClampNeg ((sa (sa s 221 (Int32.toNatClampNeg (s.1 26)) a1) 222 (Int32.toNatClampNeg ((sa s 221 (Int32.toNatClampNeg (s.1 26)) a1).1 26)) ((sa s 221 (Int32.toNatClampNeg (s.1 26)) a1).1 7)).1 26)) (-1)).1 26)) (-1)).1 26)) 0).1 26)) (-1)).1 26), .ref 228] _ _
  refine g_c [.int (-1), .int ((sa (sa (sa (sa (sa (sa s 221 (Int32.toNatClampNeg (s.1 26)) a1) 222 (Int32.toNatClampNeg ((sa s 221 (Int32.toNatClampNeg (s.1 26)) a1).1 26)) ((sa s 221 (Int32.toNatClampNeg (s.1 26)) a1).1 7)) 224 (Int32.toNatClampNeg ((sa (sa s 221 (Int32.toNatClampNeg (s.1 26)) a1) 222 (Int32.toNatClampNeg ((sa s 221 (Int32.toNatClampNeg (s.1 26)) a1).1 26)) ((sa s 221 (Int32.toNatClampNeg (s.1 26)) a1).1 7)).1 26)) (-1)) 225 (Int32.toNatClampNeg ((sa (sa (sa s 221 (Int32.toNatClampNeg (s.1 26)) a1) 222 (Int32.toNatClampNeg ((sa s 221 (Int32.toNatClampNeg (s.1 26)) a1).1 26)) ((sa s 221 (Int32.toNatClampNeg (s.1 26)) a1).1 7)) 224 (Int32.toNatClampNeg ((sa (sa s 221 (Int32.toNatClampNeg (s.1 26)) a1) 222 (Int32.toNatClampNeg ((sa s 221 (Int32.toNatClampNeg (s.1 26)) a1).1 26)) ((sa s 221 (Int32.toNatClampNeg (s.1 26)) a1).1 7)).1 26)) (-1)).1 26)) (-1)) 226 (Int32.toNatClampNeg ((sa (sa (sa (sa s 221 (Int32.toNatClampNeg (s.1 26)) a1) 222 (Int32.toNatClampNeg ((sa s 221 (Int32.toNatClampNeg (s.1 26)) a1).1 26)) ((sa s 221 (Int32.toNatClampNeg (s.1 26)) a1).1 7)) 224 (Int32.toNatClampNeg ((sa (sa s 221 (Int32.toNatClampNeg (s.1 26)) a1) 222 (Int32.toNatClampNeg ((sa s 221 (Int32.toNatClampNeg (s.1 26)) a1).1 26)) ((sa s 221 (Int32.toNatClampNeg (s.1 26)) a1).1 7)).1 26)) (-1)) 225 (Int32.toNatClampNeg ((sa (sa (sa s 221 (Int32.toNatClampNeg (s.1 26)) a1) 222 (Int32.toNatClampNeg ((sa s 221 (Int32.toNatClampNeg (s.1 26)) a1).1 26)) ((sa s 221 (Int32.toNatClampNeg (s.1 26)) a1).1 7)) 224 (Int32.toNatClampNeg ((sa (sa s 221 (Int32.toNatClampNeg (s.1 26)) a1) 222 (Int32.toNatClampNeg ((sa s 221 (Int32.toNatClampNeg (s.1 26)) a1).1 26)) ((sa s 221 (Int32.toNatClampNeg (s.1 26)) a1).1 7)).1 26)) (-1)).1 26)) (-1)).1 26)) 0) 227 (Int32.toNatClampNeg ((sa (sa (sa (sa (sa s 221 (Int32.toNatClampNeg (s.1 26)) a1) 222 (Int32.toNatClampNeg ((sa s 221 (Int32.toNatClampNeg (s.1 26)) a1).1 26)) ((sa s 221 (Int32.toNatClampNeg (s.1 26)) a1).1 7)) 224 (Int32.toNatClampNeg ((sa (sa s 221 (Int32.toNatClampNeg (s.1 26)) a1) 222 (Int32.toNatClampNeg ((sa s 221 (Int32.toNatClampNeg (s.1 26)) a1).1 26)) ((sa s 221 (Int32.toNatClampNeg (s.1 26)) a1).1 7)).1 26)) (-1)) 225 (Int32.toNatClampNeg ((sa (sa (sa s 221 (Int32.toNatClampNeg (s.1 26)) a1) 222 (Int32.toNatClampNeg ((sa s 221 (Int32.toNatClampNeg (s.1 26)) a1).1 26)) ((sa s 221 (Int32.toNatClampNeg (s.1 26)) a1).1 7)) 224 (Int32.toNatClampNeg ((sa (sa s 221 (Int32.toNatClampNeg (s.1 26)) a1) 222 (Int32.toNatClampNeg ((sa s 221 (Int32.toNatClampNeg (s.1 26)) a1).1 26)) ((sa s 221 (Int32.toNatClampNeg (s.1 26)) a1).1 7)).1 26)) (-1)).1 26)) (-1)) 226 (Int32.toNatClampNeg ((sa (sa (sa (sa s 221 (Int32.toNatClampNeg (s.1 26)) a1) 222 (Int32.toNatClampNeg ((sa s 221 (Int32.toNatClampNeg (s.1 26)) a1).1 26)) ((sa s 221 (Int32.toNatClampNeg (s.1 26)) a1).1 7)) 224 (Int32.toNatClampNeg ((sa (sa s 221 (Int32.toNatClampNeg (s.1 26)) a1) 222 (Int32.toNatClampNeg ((sa s 221 (Int32.toNatClampNeg (s.1 26)) a1).1 26)) ((sa s 221 (Int32.toNatClampNeg (s.1 26)) a1).1 7)).1 26)) (-1)) 225 (Int32.toNatClampNeg ((sa (sa (sa s 221 (Int32.toNatClampNeg (s.1 26)) a1) 222 (Int32.toNatClampNeg ((sa s 221 (Int32.toNatClampNeg (s.1 26)) a1).1 26)) ((sa s 221 (Int32.toNatClampNeg (s.1 26)) a1).1 7)) 224 (Int32.toNatClampNeg ((sa (sa s 221 (Int32.toNatClampNeg (s.1 26)) a1) 222 (Int32.toNatClampNeg ((sa s 221 (Int32.toNatClampNeg (s.1 26)) a1).1 26)) ((sa s 221 (Int32.toNatClampNeg (s.1 26)) a1).1 7)).1 26)) (-1)).1 26)) (-1)).1 26)) 0).1 26)) (-1)).1 26), .ref 228] (xo_push (.int (-1))) rfl rfl ?_
  refine g_ias rfl rfl h.1 ?_
  replace h := h.2
  replace h := h _ rfl
  refine g_ld rfl rfl rfl ?_
  refine g_get rfl rfl ?_
  change Go _ _ _ _ _ _ [.ref 229] _ _
  refine g_ld rfl rfl rfl ?_
  refine g_get rfl rfl ?_
  change Go _ _ _ _ _ _ [.int ((sa (sa (sa (sa (sa (sa (sa s 221 (Int32.toNatClampNeg (s.1 26)) a1) 222 (Int32.toNatClampNeg ((sa s 221 (Int32.toNatClampNeg (s.1 26)) a1).1 26)) ((sa s 221 (Int32.toNatClampNeg (s.1 26)) a1).1 7)) 224 (Int32.toNatClampNeg ((sa (sa s 221 (Int32.toNatClampNeg (s.1 26)) a1) 222 (Int32.toNatClampNeg ((sa s 221 (Int32.toNatClampNeg (s.1 26)) a1).1 26)) ((sa s 221 (Int32.toNatClampNeg (s.1 26)) a1).1 7)).1 26)) (-1)) 225 (Int32.toNatClampNeg ((sa (sa (sa s 221 (Int32.toNatClampNeg (s.1 26)) a1) 222 (Int32.toNatClampNeg ((sa s 221 (Int32.toNatClampNeg (s.1 26)) a1).1 26)) ((sa s 221 (Int32.toNatClampNeg (s.1 26)) a1).1 7)) 224 (Int32.toNatClampNeg ((sa (sa s 221 (Int32.toNatClampNeg (s.1 26)) a1) 222 (Int32.toNatClampNeg ((sa s 221 (Int32.toNatClampNeg (s.1 26)) a1).1 26)) ((sa s 221 (Int32.toNatClampNeg (s.1 26)) a1).1 7)).1 26)) (-1)).1 26)) (-1)) 226 (Int32.toNatClampNeg ((sa (sa (sa (sa s 221 (Int32.toNatClampNeg (s.1 26)) a1) 222 (Int32.toNatClampNeg ((sa s 221 (Int32.toNatClampNeg (s.1 26)) a1).1 26)) ((sa s 221 (Int32.toNatClampNeg (s.1 26)) a1).1 7)) 224 (Int32.toNatClampNeg ((sa (sa s 221 (Int32.toNatClampNeg (s.1 26)) a1) 222 (Int32.toNatClampNeg ((sa s 221 (Int32.toNatClampNeg (s.1 26)) a1).1 26)) ((sa s 221 (Int32.toNatClampNeg (s.1 26)) a1).1 7)).1 26)) (-1)) 225 (Int32.toNatClampNeg ((sa (sa (sa s 221 (Int32.toNatClampNeg (s.1 26)) a1) 222 (Int32.toNatClampNeg ((sa s 221 (Int32.toNatClampNeg (s.1 26)) a1).1 26)) ((sa s 221 (Int32.toNatClampNeg (s.1 26)) a1).1 7)) 224 (Int32.toNatClampNeg ((sa (sa s 221 (Int32.toNatClampNeg (s.1 26)) a1) 222 (Int32.toNatClampNeg ((sa s 221 (Int32.toNatClampNeg (s.1 26)) a1).1 26)) ((sa s 221 (Int32.toNatClampNeg (s.1 26)) a1).1 7)).1 26)) (-1)).1 26)) (-1)).1 26)) 0) 227 (Int32.toNatClampNeg ((sa (sa (sa (sa (sa s 221 (Int32.toNatClampNeg (s.1 26)) a1) 222 (Int32.toNatClampNeg ((sa s 221 (Int32.toNatClampNeg (s.1 26)) a1).1 26)) ((sa s 221 (Int32.toNatClampNeg (s.1 26)) a1).1 7)) 224 (Int32.toNatClampNeg ((sa (sa s 221 (Int32.toNatClampNeg (s.1 26)) a1) 222 (Int32.toNatClampNeg ((sa s 221 (Int32.toNatClampNeg (s.1 26)) a1).1 26)) ((sa s 221 (Int32.toNatClampNeg (s.1 26)) a1).1 7)).1 26)) (-1)) 225 (Int32.toNatClampNeg ((sa (sa (sa s 221 (Int32.toNatClampNeg (s.1 26)) a1) 222 (Int32.toNatClampNeg ((sa s 221 (Int32.toNatClampNeg (s.1 26)) a1).1 26)) ((sa s 221 (Int32.toNatClampNeg (s.1 26)) a1).1 7)) 224 (Int32.toNatClampNeg ((sa (sa s 221 (Int32.toNatClampNeg (s.1 26)) a1) 222 (Int32.toNatClampNeg ((sa s 221 (Int32.toNatClampNeg (s.1 26)) a1).1 26)) ((sa s 221 (Int32.toNatClampNeg (s.1 26)) a1).1 7)).1 26)) (-1)).1 26)) (-1)) 226 (Int32.toNatClampNeg ((sa (sa (sa (sa s 221 (Int32.toNatClampNeg (s.1 26)) a1) 222 (Int32.toNatClampNeg ((sa s 221 (Int32.toNatClampNeg (s.1 26)) a1).1 26)) ((sa s 221 (Int32.toNatClampNeg (s.1 26)) a1).1 7)) 224 (Int32.toNatClampNeg ((sa (sa s 221 (Int32.toNatClampNeg (s.1 26)) a1) 222 (Int32.toNatClampNeg ((sa s 221 (Int32.toNatClampNeg (s.1 26)) a1).1 26)) ((sa s 221 (Int32.toNatClampNeg (s.1 26)) a1).1 7)).1 26)) (-1)) 225 (Int32.toNatClampNeg ((sa (sa (sa s 221 (Int32.toNatClampNeg (s.1 26)) a1) 222 (Int32.toNatClampNeg ((sa s 221 (Int32.toNatClampNeg (s.1 26)) a1).1 26)) ((sa s 221 (Int32.toNatClampNeg (s.1 26)) a1).1 7)) 224 (Int32.toNatClampNeg ((sa (sa s 221 (Int32.toNatClampNeg (s.1 26)) a1) 222 (Int32.toNatClampNeg ((sa s 221 (Int32.toNatClampNeg (s.1 26)) a1).1 26)) ((sa s 221 (Int32.toNatClampNeg (s.1 26)) a1).1 7)).1 26)) (-1)).1 26)) (-1)).1 26)) 0).1 26)) (-1)) 228 (Int32.toNatClampNeg ((sa (sa (sa (sa (sa (sa s 221 (Int32.toNatClampNeg (s.1 26)) a1) 222 (Int32.toNatClampNeg ((sa s 221 (Int32.toNatClampNeg (s.1 26)) a1).1 26)) ((sa s 221 (Int32.toNatClampNeg (s.1 26)) a1).1 7)) 224 (Int32.toNatClampNeg ((sa (sa s 221 (Int32.toNatClampNeg (s.1 26)) a1) 222 (Int32.toNatClampNeg ((sa s 221 (Int32.toNatClampNeg (s.1 26)) a1).1 26)) ((sa s 221 (Int32.toNatClampNeg (s.1 26)) a1).1 7)).1 26)) (-1)) 225 (Int32.toNatClampNeg ((sa (sa (sa s 221 (Int32.toNatClampNeg (s.1 26)) a1) 222 (Int32.toNatClampNeg ((sa s 221 (Int32.toNatClampNeg (s.1 26)) a1).1 26)) ((sa s 221 (Int32.toNatClampNeg (s.1 26)) a1).1 7)) 224 (Int32.toNatClampNeg ((sa (sa s 221 (Int32.toNatClampNeg (s.1 26)) a1) 222 (Int32.toNatClampNeg ((sa s 221 (Int32.toNatClampNeg (s.1 26)) a1).1 26)) ((sa s 221 (Int32.toNatClampNeg (s.1 26)) a1).1 7)).1 26)) (-1)).1 26)) (-1)) 226 (Int32.toNatClampNeg ((sa (sa (sa (sa s 221 (Int32.toNatClampNeg (s.1 26)) a1) 222 (Int32.toNatClampNeg ((sa s 221 (Int32.toNatClampNeg (s.1 26)) a1).1 26)) ((sa s 221 (Int32.toNatClampNeg (s.1 26)) a1).1 7)) 224 (Int32.toNatClampNeg ((sa (sa s 221 (Int32.toNatClampNeg (s.1 26)) a1) 222 (Int32.toNatClampNeg ((sa s 221 (Int32.toNatClampNeg (s.1 26)) a1).1 26)) ((sa s 221 (Int32.toNatClampNeg (s.1 26)) a1).1 7)).1 26)) (-1)) 225 (Int32.toNatClampNeg ((sa (sa (sa s 221 (Int32.toNatClampNeg (s.1 26)) a1) 222 (Int32.toNatClampNeg ((sa s 221 (Int32.toNatClampNeg (s.1 26)) a1).1 26)) ((sa s 221 (Int32.toNatClampNeg (s.1 26)) a1).1 7)) 224 (Int32.toNatClampNeg ((sa (sa s 221 (Int32.toNatClampNeg (s.1 26)) a1) 222 (Int32.toNatClampNeg ((sa s 221 (Int32.toNatClampNeg (s.1 26)) a1).1 26)) ((sa s 221 (Int32.toNatClampNeg (s.1 26)) a1).1 7)).1 26)) (-1)).1 26)) (-1)).1 26)) 0) 227 (Int32.toNatClampNeg ((sa (sa (sa (sa (sa s 221 (Int32.toNatClampNeg (s.1 26)) a1) 222 (Int32.toNatClampNeg ((sa s 221 (Int32.toNatClampNeg (s.1 26)) a1).1 26)) ((sa s 221 (Int32.toNatClampNeg (s.1 26)) a1).1 7)) 224 (Int32.toNatClampNeg ((sa (sa s 221 (Int32.toNatClampNeg (s.1 26)) a1) 222 (Int32.toNatClampNeg ((sa s 221 (Int32.toNatClampNeg (s.1 26)) a1).1 26)) ((sa s 221 (Int32.toNatClampNeg (s.1 26)) a1).1 7)).1 26)) (-1)) 225 (Int32.toNatClampNeg ((sa (sa (sa s 221 (Int32.toNatClampNeg (s.1 26)) a1) 222 (Int32.toNatClampNeg ((sa s 221 (Int32.toNatClampNeg (s.1 26)) a1).1 26)) ((sa s 221 (Int32.toNatClampNeg (s.1 26)) a1).1 7)) 224 (Int32.toNatClampNeg ((sa (sa s 221 (Int32.toNatClampNeg (s.1 26)) a1) 222 (Int32.toNatClampNeg ((sa s 221 (Int32.toNatClampNeg (s.1 26)) a1).1 26)) ((sa s 221 (Int32.toNatClampNeg (s.1 26)) a1).1 7)).1 26)) (-1)).1 26)) (-1)) 226 (Int32.toNatClampNeg ((sa (sa (sa (sa s 221 (Int32.toNatClampNeg (s.1 26)) a1) 222 (Int32.toNatClampNeg ((sa s 221 (Int32.toNatClampNeg (s.1 26)) a1).1 26)) ((sa s 221 (Int32.toNatClampNeg (s.1 26)) a1).1 7)) 224 (Int32.toNatClampNeg ((sa (sa s 221 (Int32.toNatClampNeg (s.1 26)) a1) 222 (Int32.toNatClampNeg ((sa s 221 (Int32.toNatClampNeg (s.1 26)) a1).1 26)) ((sa s 221 (Int32.toNatClampNeg (s.1 26)) a1).1 7)).1 26)) (-1)) 225 (Int32.toNatClampNeg ((sa (sa (sa s 221 (Int32.toNatClampNeg (s.1 26)) a1) 222 (Int32.toNatClampNeg ((sa s 221 (Int32.toNatClampNeg (s.1 26)) a1).1 26)) ((sa s 221 (Int32.toNatClampNeg (s.1 26)) a1).1 7)) 224 (Int32.toNatClampNeg ((sa (sa s 221 (Int32.toNatClampNeg (s.1 26)) a1) 222 (Int32.toNatClampNeg ((sa s 221 (Int32.toNatClampNeg (s.1 26)) a1).1 26)) ((sa s 221 (Int32.toNatClampNeg (s.1 26)) a1).1 7)).1 26)) (-1)).1 26)) (-1)).1 26)) 0).1 26)) (-1)).1 26)) (-1)).1 26), .ref 229] _ _
  refine g_c [.int (-1), .int ((sa (sa (sa (sa (sa (sa (sa s 221 (Int32.toNatClampNeg (s.1 26)) a1) 222 (Int32.toNatClampNeg ((sa s 221 (Int32.toNatClampNeg (s.1 26)) a1).1 26)) ((sa s 221 (Int32.toNatClampNeg (s.1 26)) a1).1 7)) 224 (Int32.toNatClampNeg ((sa (sa s 221 (Int32.toNatClampNeg (s.1 26)) a1) 222 (Int32.toNatClampNeg ((sa s 221 (Int32.toNatClampNeg (s.1 26)) a1).1 26)) ((sa s 221 (Int32.toNatClampNeg (s.1 26)) a1).1 7)).1 26)) (-1)) 225 (Int32.toNatClampNeg ((sa (sa (sa s 221 (Int32.toNatClampNeg (s.1 26)) a1) 222 (Int32.toNatClampNeg ((sa s 221 (Int32.toNatClampNeg (s.1 26)) a1).1 26)) ((sa s 221 (Int32.toNatClampNeg (s.1 26)) a1).1 7)) 224 (Int32.toNatClampNeg ((sa (sa s 221 (Int32.toNatClampNeg (s.1 26)) a1) 222 (Int32.toNatClampNeg ((sa s 221 (Int32.toNatClampNeg (s.1 26)) a1).1 26)) ((sa s 221 (Int32.toNatClampNeg (s.1 26)) a1).1 7)).1 26)) (-1)).1 26)) (-1)) 226 (Int32.toNatClampNeg ((sa (sa (sa (sa s 221 (Int32.toNatClampNeg (s.1 26)) a1) 222 (Int32.toNatClampNeg ((sa s 221 (Int32.toNatClampNeg (s.1 26)) a1).1 26)) ((sa s 221 (Int32.toNatClampNeg (s.1 26)) a1).1 7)) 224 (Int32.toNatClampNeg ((sa (sa s 221 (Int32.toNatClampNeg (s.1 26)) a1) 222 (Int32.toNatClampNeg ((sa s 221 (Int32.toNatClampNeg (s.1 26)) a1).1 26)) ((sa s 221 (Int32.toNatClampNeg (s.1 26)) a1).1 7)).1 26)) (-1)) 225 (Int32.toNatClampNeg ((sa (sa (sa s 221 (Int32.toNatClampNeg (s.1 26)) a1) 222 (Int32.toNatClampNeg ((sa s 221 (Int32.toNatClampNeg (s.1 26)) a1).1 26)) ((sa s 221 (Int32.toNatClampNeg (s.1 26)) a1).1 7)) 224 (Int32.toNatClampNeg ((sa (sa s 221 (Int32.toNatClampNeg (s.1 26)) a1) 222 (Int32.toNatClampNeg ((sa s 221 (Int32.toNatClampNeg (s.1 26)) a1).1 26)) ((sa s 221 (Int32.toNatClampNeg (s.1 26)) a1).1 7)).1 26)) (-1)).1 26)) (-1)).1 26)) 0) 227 (Int32.toNatClampNeg ((sa (sa (sa (sa (sa s 221 (Int32.toNatClampNeg (s.1 26)) a1) 222 (Int32.toNatClampNeg ((sa s 221 (Int32.toNatClampNeg (s.1 26)) a1).1 26)) ((sa s 221 (Int32.toNatClampNeg (s.1 26)) a1).1 7)) 224 (Int32.toNatClampNeg ((sa (sa s 221 (Int32.toNatClampNeg (s.1 26)) a1) 222 (Int32.toNatClampNeg ((sa s 221 (Int32.toNatClampNeg (s.1 26)) a1).1 26)) ((sa s 221 (Int32.toNatClampNeg (s.1 26)) a1).1 7)).1 26)) (-1)) 225 (Int32.toNatClampNeg ((sa (sa (sa s 221 (Int32.toNatClampNeg (s.1 26)) a1) 222 (Int32.toNatClampNeg ((sa s 221 (Int32.toNatClampNeg (s.1 26)) a1).1 26)) ((sa s 221 (Int32.toNatClampNeg (s.1 26)) a1).1 7)) 224 (Int32.toNatClampNeg ((sa (sa s 221 (Int32.toNatClampNeg (s.1 26)) a1) 222 (Int32.toNatClampNeg ((sa s 221 (Int32.toNatClampNeg (s.1 26)) a1).1 26)) ((sa s 221 (Int32.toNatClampNeg (s.1 26)) a1).1 7)).1 26)) (-1)).1 26)) (-1)) 226 (Int32.toNatClampNeg ((sa (sa (sa (sa s 221 (Int32.toNatClampNeg (s.1 26)) a1) 222 (Int32.toNatClampNeg ((sa s 221 (Int32.toNatClampNeg (s.1 26)) a1).1 26)) ((sa s 221 (Int32.toNatClampNeg (s.1 26)) a1).1 7)) 224 (Int32.toNatClampNeg ((sa (sa s 221 (Int32.toNatClampNeg (s.1 26)) a1) 222 (Int32.toNatClampNeg ((sa s 221 (Int32.toNatClampNeg (s.1 26)) a1).1 26)) ((sa s 221 (Int32.toNatClampNeg (s.1 26)) a1).1 7)).1 26)) (-1)) 225 (Int32.toNatClampNeg ((sa (sa (sa s 221 (Int32.toNatClampNeg (s.1 26)) a1) 222 (Int32.toNatClampNeg ((sa s 221 (Int32.toNatClampNeg (s.1 26)) a1).1 26)) ((sa s 221 (Int32.toNatClampNeg (s.1 26)) a1).1 7)) 224 (Int32.toNatClampNeg ((sa (sa s 221 (Int32.toNatClampNeg (s.1 26)) a1) 222 (Int32.toNatClampNeg ((sa s 221 (Int32.toNatClampNeg (s.1 26)) a1).1 26)) ((sa s 221 (Int32.toNatClampNeg (s.1 26)) a1).1 7)).1 26)) (-1)).1 26)) (-1)).1 26)) 0).1 26)) (-1)) 228 (Int32.toNatClampNeg ((sa (sa (sa (sa (sa (sa s 221 (Int32.toNatClampNeg (s.1 26)) a1) 222 (Int32.toNatClampNeg ((sa s 221 (Int32.toNatClampNeg (s.1 26)) a1).1 26)) ((sa s 221 (Int32.toNatClampNeg (s.1 26)) a1).1 7)) 224 (Int32.toNatClampNeg ((sa (sa s 221 (Int32.toNatClampNeg (s.1 26)) a1) 222 (Int32.toNatClampNeg ((sa s 221 (Int32.toNatClampNeg (s.1 26)) a1).1 26)) ((sa s 221 (Int32.toNatClampNeg (s.1 26)) a1).1 7)).1 26)) (-1)) 225 (Int32.toNatClampNeg ((sa (sa (sa s 221 (Int32.toNatClampNeg (s.1 26)) a1) 222 (Int32.toNatClampNeg ((sa s 221 (Int32.toNatClampNeg (s.1 26)) a1).1 26)) ((sa s 221 (Int32.toNatClampNeg (s.1 26)) a1).1 7)) 224 (Int32.toNatClampNeg ((sa (sa s 221 (Int32.toNatClampNeg (s.1 26)) a1) 222 (Int32.toNatClampNeg ((sa s 221 (Int32.toNatClampNeg (s.1 26)) a1).1 26)) ((sa s 221 (Int32.toNatClampNeg (s.1 26)) a1).1 7)).1 26)) (-1)).1 26)) (-1)) 226 (Int32.toNatClampNeg ((sa (sa (sa (sa s 221 (Int32.toNatClampNeg (s.1 26)) a1) 222 (Int32.toNatClampNeg ((sa s 221 (Int32.toNatClampNeg (s.1 26)) a1).1 26)) ((sa s 221 (Int32.toNatClampNeg (s.1 26)) a1).1 7)) 224 (Int32.toNatClampNeg ((sa (sa s 221 (Int32.toNatClampNeg (s.1 26)) a1) 222 (Int32.toNatClampNeg ((sa s 221 (Int32.toNatClampNeg (s.1 26)) a1).1 26)) ((sa s 221 (Int32.toNatClampNeg (s.1 26)) a1).1 7)).1 26)) (-1)) 225 (Int32.toNatClampNeg ((sa (sa (sa s 221 (Int32.toNatClampNeg (s.1 26)) a1) 222 (Int32.toNatClampNeg ((sa s 221 (Int32.toNatClampNeg (s.1 26)) a1).1 26)) ((sa s 221 (Int32.toNatClampNeg (s.1 26)) a1).1 7)) 224 (Int32.toNatClampNeg ((sa (sa s 221 (Int32.toNatClampNeg (s.1 26)) a1) 222 (Int32.toNatClampNeg ((sa s 221 (Int32.toNatClampNeg (s.1 26)) a1).1 26)) ((sa s 221 (Int32.toNatClampNeg (s.1 26)) a1).1 7)).1 26)) (-1)).1 26)) (-1)).1 26)) 0) 227 (Int32.toNatClampNeg ((sa (sa (sa (sa (sa s 221 (Int32.toNatClampNeg (s.1 26)) a1) 222 (Int32.toNatClampNeg ((sa s 221 (Int32.toNatClampNeg (s.1 26)) a1).1 26)) ((sa s 221 (Int32.toNatClampNeg (s.1 26)) a1).1 7)) 224 (Int32.toNatClampNeg ((sa (sa s 221 (Int32.toNatClampNeg (s.1 26)) a1) 222 (Int32.toNatClampNeg ((sa s 221 (Int32.toNatClampNeg (s.1 26)) a1).1 26)) ((sa s 221 (Int32.toNatClampNeg (s.1 26)) a1).1 7)).1 26)) (-1)) 225 (Int32.toNatClampNeg ((sa (sa (sa s 221 (Int32.toNatClampNeg (s.1 26)) a1) 222 (Int32.toNatClampNeg ((sa s 221 (Int32.toNatClampNeg (s.1 26)) a1).1 26)) ((sa s 221 (Int32.toNatClampNeg (s.1 26)) a1).1 7)) 224 (Int32.toNatClampNeg ((sa (sa s 221 (Int32.toNatClampNeg (s.1 26)) a1) 222 (Int32.toNatClampNeg ((sa s 221 (Int32.toNatClampNeg (s.1 26)) a1).1 26)) ((sa s 221 (Int32.toNatClampNeg (s.1 26)) a1).1 7)).1 26)) (-1)).1 26)) (-1)) 226 (Int32.toNatClampNeg ((sa (sa (sa (sa s 221 (Int32.toNatClampNeg (s.1 26)) a1) 222 (Int32.toNatClampNeg ((sa s 221 (Int32.toNatClampNeg (s.1 26)) a1).1 26)) ((sa s 221 (Int32.toNatClampNeg (s.1 26)) a1).1 7)) 224 (Int32.toNatClampNeg ((sa (sa s 221 (Int32.toNatClampNeg (s.1 26)) a1) 222 (Int32.toNatClampNeg ((sa s 221 (Int32.toNatClampNeg (s.1 26)) a1).1 26)) ((sa s 221 (Int32.toNatClampNeg (s.1 26)) a1).1 7)).1 26)) (-1)) 225 (Int32.toNatClampNeg ((sa (sa (sa s 221 (Int32.toNatClampNeg (s.1 26)) a1) 222 (Int32.toNatClampNeg ((sa s 221 (Int32.toNatClampNeg (s.1 26)) a1).1 26)) ((sa s 221 (Int32.toNatClampNeg (s.1 26)) a1).1 7)) 224 (Int32.toNatClampNeg ((sa (sa s 221 (Int32.toNatClampNeg (s.1 26)) a1) 222 (Int32.toNatClampNeg ((sa s 221 (Int32.toNatClampNeg (s.1 26)) a1).1 26)) ((sa s 221 (Int32.toNatClampNeg (s.1 26)) a1).1 7)).1 26)) (-1)).1 26)) (-1)).1 26)) 0).1 26)) (-1)).1 26)) (-1)).1 26), .ref 229] (xo_push (.int (-1))) rfl rfl ?_
  refine g_ias rfl rfl h.1 ?_
  replace h := h.2
  replace h := h _ rfl
  refine g_ld rfl rfl rfl ?_
  refine g_get rfl rfl ?_
  change Go _ _ _ _ _ _ [.ref 230] _ _
  refine g_ld rfl rfl rfl ?_
  refine g_get rfl rfl ?_
  change Go _ _ _ _ _ _ [.int ((sa (sa (sa (sa (sa (sa (sa (sa s 221 (Int32.toNatClampNeg (s.1 26)) a1) 222 (Int32.toNatClampNeg ((sa s 221 (Int32.toNatClampNeg (s.1 26)) a1).1 26)) ((sa s 221 (Int32.toNatClampNeg (s.1 26)) a1).1 7)) 224 (Int32.toNatClampNeg ((sa (sa s 221 (Int32.toNatClampNeg (s.1 26)) a1) 222 (Int32.toNatClampNeg ((sa s 221 (Int32.toNatClampNeg (s.1 26)) a1).1 26)) ((sa s 221 (Int32.toNatClampNeg (s.1 26)) a1).1 7)).1 26)) (-1)) 225 (Int32.toNatClampNeg ((sa (sa (sa s 221 (Int32.toNatClampNeg (s.1 26)) a1) 222 (Int32.toNatClampNeg ((sa s 221 (Int32.toNatClampNeg (s.1 26)) a1).1 26)) ((sa s 221 (Int32.toNatClampNeg (s.1 26)) a1).1 7)) 224 (Int32.toNatClampNeg ((sa (sa s 221 (Int32.toNatClampNeg (s.1 26)) a1) 222 (Int32.toNatClampNeg ((sa s 221 (Int32.toNatClampNeg (s.1 26)) a1).1 26)) ((sa s 221 (Int32.toNatClampNeg (s.1 26)) a1).1 7)).1 26)) (-1)).1 26)) (-1)) 226 (Int32.toNatClampNeg ((sa (sa (sa (sa s 221 (Int32.toNatClampNeg (s.1 26)) a1) 222 (Int32.toNatClampNeg ((sa s 221 (Int32.toNatClampNeg (s.1 26)) a1).1 26)) ((sa s 221 (Int32.toNatClampNeg (s.1 26)) a1).1 7)) 224 (Int32.toNatClampNeg ((sa (sa s 221 (Int32.toNatClampNeg (s.1 26)) a1) 222 (Int32.toNatClampNeg ((sa s 221 (Int32.toNatClampNeg (s.1 26)) a1).1 26)) ((sa s 221 (Int32.toNatClampNeg (s.1 26)) a1).1 7)).1 26)) (-1)) 225 (Int32.toNatClampNeg ((sa (sa (sa s 221 (Int32.toNatClampNeg (s.1 26)) a1) 222 (Int32.toNatClampNeg ((sa s 221 (Int32.toNatClampNeg (s.1 26)) a1).1 26)) ((sa s 221 (Int32.toNatClampNeg (s.1 26)) a1).1 7)) 224 (Int32.toNatClampNeg ((sa (sa s 221 (Int32.toNatClampNeg (s.1 26)) a1) 222 (Int32.toNatClampNeg ((sa s 221 (Int32.toNatClampNeg (s.1 26)) a1).1 26)) ((sa s 221 (Int32.toNatClampNeg (s.1 26)) a1).1 7)).1 26)) (-1)).1 26)) (-1)).1 26)) 0) 227 (Int32.toNatClampNeg ((sa (sa (sa (sa (sa s 221 (Int32.toNatClampNeg (s.1 26)) a1) 222 (Int32.toNatClampNeg ((sa s 221 (Int32.toNatClampNeg (s.1 26)) a1).1 26)) ((sa s 221 (Int32.toNatClampNeg (s.1 26)) a1).1 7)) 224 (Int32.toNatClampNeg ((sa (sa s 221 (Int32.toNatClampNeg (s.1 26)) a1) 222 (Int32.toNatClampNeg ((sa s 221 (Int32.toNatClampNeg (s.1 26)) a1).1 26)) ((sa s 221 (Int32.toNatClampNeg (s.1 26)) a1).1 7)).1 26)) (-1)) 225 (Int32.toNatClampNeg ((sa (sa (sa s 221 (Int32.toNatClampNeg (s.1 26)) a1) 222 (Int32.toNatClampNeg ((sa s 221 (Int32.toNatClampNeg (s.1 26)) a1).1 26)) ((sa s 221 (Int32.toNatClampNeg (s.1 26)) a1).1 7)) 224 (Int32.toNatClampNeg ((sa (sa s 221 (Int32.toNatClampNeg (s.1 26)) a1) 222 (Int32.toNatClampNeg ((sa s 221 (Int32.toNatClampNeg (s.1 26)) a1).1 26)) ((sa s 221 (Int32.toNatClampNeg (s.1 26)) a1).1 7)).1 26)) (-1)).1 26)) (-1)) 226 (Int32.toNatClampNeg ((sa (sa (sa (sa s 221 (Int32.toNatClampNeg (s.1 26)) a1) 222 (Int32.toNatClampNeg ((sa s 221 (Int32.toNatClampNeg (s.1 26)) a1).1 26)) ((sa s 221 (Int32.toNatClampNeg (s.1 26)) a1).1 7)) 224 (Int32.toNatClampNeg ((sa (sa s 221 (Int32.toNatClampNeg (s.1 26)) a1) 222 (Int32.toNatClampNeg ((sa s 221 (Int32.toNatClampNeg (s.1 26)) a1).1 26)) ((sa s 221 (Int32.toNatClampNeg (s.1 26)) a1).1 7)).1 26)) (-1)) 225 (Int32.toNatClampNeg ((sa (sa (sa s 221 (Int32.toNatClampNeg (s.1 26)) a1) 222 (Int32.toNatClampNeg ((sa s 221 (Int32.toNatClampNeg (s.1 26)) a1).1 26)) ((sa s 221 (Int32.toNatClampNeg (s.1 26)) a1).1 7)) 224 (Int32.toNatClampNeg ((sa (sa s 221 (Int32.toNatClampNeg (s.1 26)) a1) 222 (Int32.toNatClampNeg ((sa s 221 (Int32.toNatClampNeg (s.1 26)) a1).1 26)) ((sa s 221 (Int32.toNatClampNeg (s.1 26)) a1).1 7)).1 26)) (-1)).1 26)) (-1)).1 26)) 0).1 26)) (-1)) 228 (Int32.toNatClampNeg ((sa (sa (sa (sa (sa (sa s 221 (Int32.toNatClampNeg (s.1 26)) a1) 222 (Int32.toNatClampNeg ((sa s 221 (Int32.toNatClampNeg (s.1 26)) a1).1 26)) ((sa s 221 (Int32.toNatClampNeg (s.1 26)) a1).1 7)) 224 (Int32.toNatClampNeg ((sa (sa s 221 (Int32.toNatClampNeg (s.1 26)) a1) 222 (Int32.toNatClampNeg ((sa s 221 (Int32.toNatClampNeg (s.1 26)) a1).1 26)) ((sa s 221 (Int32.toNatClampNeg (s.1 26)) a1).1 7)).1 26)) (-1)) 225 (Int32.toNatClampNeg ((sa (sa (sa s 221 (Int32.toNatClampNeg (s.1 26)) a1) 222 (Int32.toNatClampNeg ((sa s 221 (Int32.toNatClampNeg (s.1 26)) a1).1 26)) ((sa s 221 (Int32.toNatClampNeg (s.1 26)) a1).1 7)) 224 (Int32.toNatClampNeg ((sa (sa s 221 (Int32.toNatClampNeg (s.1 26)) a1) 222 (Int32.toNatClampNeg ((sa s 221 (Int32.toNatClampNeg (s.1 26)) a1).1 26)) ((sa s 221 (Int32.toNatClampNeg (s.1 26)) a1).1 7)).1 26)) (-1)).1 26)) (-1)) 226 (Int32.toNatClampNeg ((sa (sa (sa (sa s 221 (Int32.toNatClampNeg (s.1 26)) a1) 222 (Int32.toNatClampNeg ((sa s 221 (Int32.toNatClampNeg (s.1 26)) a1).1 26)) ((sa s 221 (Int32.toNatClampNeg (s.1 26)) a1).1 7)) 224 (Int32.toNatClampNeg ((sa (sa s 221 (Int32.toNatClampNeg (s.1 26)) a1) 222 (Int32.toNatClampNeg ((sa s 221 (Int32.toNatClampNeg (s.1 26)) a1).1 26)) ((sa s 221 (Int32.toNatClampNeg (s.1 26)) a1).1 7)).1 26)) (-1)) 225 (Int32.toNatClampNeg ((sa (sa (sa s 221 (Int32.toNatClampNeg (s.1 26)) a1) 222 (Int32.toNatClampNeg ((sa s 221 (Int32.toNatClampNeg (s.1 26)) a1).1 26)) ((sa s 221 (Int32.toNatClampNeg (s.1 26)) a1).1 7)) 224 (Int32.toNatClampNeg ((sa (sa s 221 (Int32.toNatClampNeg (s.1 26)) a1) 222 (Int32.toNatClampNeg ((sa s 221 (Int32.toNatClampNeg (s.1 26)) a1).1 26)) ((sa s 221 (Int32.toNatClampNeg (s.1 26)) a1).1 7)).1 26)) (-1)).1 26)) (-1)).1 26)) 0) 227 (Int32.toNatClampNeg ((sa (sa (sa (sa (sa s 221 (Int32.toNatClampNeg (s.1 26)) a1) 222 (Int32.toNatClampNeg ((sa s 221 (Int32.toNatClampNeg (s.1 26)) a1).1 26)) ((sa s 221 (Int32.toNatClampNeg (s.1 26)) a1).1 7)) 224 (Int32.toNatClampNeg ((sa (sa s 221 (Int32.toNatClampNeg (s.1 26)) a1) 222 (Int32.toNatClampNeg ((sa s 221 (Int32.toNatClampNeg (s.1 26)) a1).1 26)) ((sa s 221 (Int32.toNatClampNeg (s.1 26)) a1).1 7)).1 26)) (-1)) 225 (Int32.toNatClampNeg ((sa (sa (sa s 221 (Int32.toNatClampNeg (s.1 26)) a1) 222 (Int32.toNatClampNeg ((sa s 221 (Int32.toNatClampNeg (s.1 26)) a1).1 26)) ((sa s 221 (Int32.toNatClampNeg (s.1 26)) a1).1 7)) 224 (Int32.toNatClampNeg ((sa (sa s 221 (Int32.toNatClampNeg (s.1 26)) a1) 222 (Int32.toNatClampNeg ((sa s 221 (Int32.toNatClampNeg (s.1 26)) a1).1 26)) ((sa s 221 (Int32.toNatClampNeg (s.1 26)) a1).1 7)).1 26)) (-1)).1 26)) (-1)) 226 (Int32.toNatClampNeg ((sa (sa (sa (sa s 221 (Int32.toNatClampNeg (s.1 26)) a1) 222 (Int32.toNatClampNeg ((sa s 221 (Int32.toNatClampNeg (s.1 26)) a1).1 26)) ((sa s 221 (Int32.toNatClampNeg (s.1 26)) a1).1 7)) 224 (Int32.toNatClampNeg ((sa (sa s 221 (Int32.toNatClampNeg (s.1 26)) a1) 222 (Int32.toNatClampNeg ((sa s 221 (Int32.toNatClampNeg (s.1 26)) a1).1 26)) ((sa s 221 (Int32.toNatClampNeg (s.1 26)) a1).1 7)).1 26)) (-1)) 225 (Int32.toNatClampNeg ((sa (sa (sa s 221 (Int32.toNatClampNeg (s.1 26)) a1) 222 (Int32.toNatClampNeg ((sa s 221 (Int32.toNatClampNeg (s.1 26)) a1).1 26)) ((sa s 221 (Int32.toNatClampNeg (s.1 26)) a1).1 7)) 224 (Int32.toNatClampNeg ((sa (sa s 221 (Int32.toNatClampNeg (s.1 26)) a1) 222 (Int32.toNatClampNeg ((sa s 221 (Int32.toNatClampNeg (s.1 26)) a1).1 26)) ((sa s 221 (Int32.toNatClampNeg (s.1 26)) a1).1 7)).1 26)) (-1)).1 26)) (-1)).1 26)) 0).1 26)) (-1)).1 26)) (-1)) 229 (Int32.toNatClampNeg ((sa (sa (sa (sa (sa (sa (sa s 221 (Int32.toNatClampNeg (s.1 26)) a1) 222 (Int32.toNatClampNeg ((sa s 221 (Int32.toNatClampNeg (s.1 26)) a1).1 26)) ((sa s 221 (Int32.toNatClampNeg (s.1 26)) a1).1 7)) 224 (Int32.toNatClampNeg ((sa (sa s 221 (Int32.toNatClampNeg (s.1 26)) a1) 222 (Int32.toNatClampNeg ((sa s 221 (Int32.toNatClampNeg (s.1 26)) a1).1 26)) ((sa s 221 (Int32.toNatClampNeg (s.1 26)) a1).1 7)).1 26)) (-1)) 225 (Int32.toNatClampNeg ((sa (sa (sa s 221 (Int32.toNatClampNeg (s.1 26)) a1) 222 (Int32.toNatClampNeg ((sa s 221 (Int32.toNatClampNeg (s.1 26)) a1).1 26)) ((sa s 221 (Int32.toNatClampNeg (s.1 26)) a1).1 7)) 224 (Int32.toNatClampNeg ((sa (sa s 221 (Int32.toNatClampNeg (s.1 26)) a1) 222 (Int32.toNatClampNeg ((sa s 221 (Int32.toNatClampNeg (s.1 26)) a1).1 26)) ((sa s 221 (Int32.toNatClampNeg (s.1 26)) a1).1 7)).1 26)) (-1)).1 26)) (-1)) 226 (Int32.toNatClampNeg ((sa (sa (sa (sa s 221 (Int32.toNatClampNeg (s.1 26)) a1) 222 (Int32.toNatClampNeg ((sa s 221 (Int32.toNatClampNeg (s.1 26)) a1).1 26)) ((sa s 221 (Int32.toNatClampNeg (s.1 26)) a1).1 7)) 224 (Int32.toNatClampNeg ((sa (sa s 221 (Int32.toNatClampNeg (s.1 26)) a1) 222 (Int32.toNatClampNeg ((sa s 221 (Int32.toNatClampNeg (s.1 26)) a1).1 26)) ((sa s 221 (Int32.toNatClampNeg (s.1 26)) a1).1 7)).1 26)) (-1)) 225 (Int32.toNatClampNeg ((sa (sa (sa s 221 (Int32.toNatClampNeg (s.1 26)) a1) 222 (Int32.toNatClampNeg ((sa s 221 (Int32.toNatClampNeg (s.1 26)) a1).1 26)) ((sa s 221 (Int32.toNatClampNeg (s.1 26)) a1).1 7)) 224 (Int32.toNatClampNeg ((sa (sa s 221 (Int32.toNatClampNeg (s.1 26)) a1) 222 (Int32.toNatClampNeg ((sa s 221 (Int32.toNatClampNeg (s.1 26)) a1).1 26)) ((sa s 221 (Int32.toNatClampNeg (s.1 26)) a1).1 7)).1 26)) (-1)).1 26)) (-1)).1 26)) 0) 227 (Int32.toNatClampNeg ((sa (sa (sa (sa (sa s 221 (Int32.toNatClampNeg (s.1 26)) a1) 222 (Int32.toNatClampNeg ((sa s 221 (Int32.toNatClampNeg (s.1 26)) a1).1 26)) ((sa s 221 (Int32.toNatClampNeg (s.1 26)) a1).1 7)) 224 (Int32.toNatClampNeg ((sa (sa s 221 (Int32.toNatClampNeg (s.1 26)) a1) 222 (Int32.toNatClampNeg ((sa s 221 (Int32.toNatClampNeg (s.1 26)) a1).1 26)) ((sa s 221 (Int32.toNatClampNeg (s.1 26)) a1).1 7)).1 26)) (-1)) 225 (Int32.toNatClampNeg ((sa (sa (sa s 221 (Int32.toNatClampNeg (s.1 26)) a1) 222 (Int32.toNatClampNeg ((sa s 221 (Int32.toNatClampNeg (s.1 26)) a1).1 26)) ((sa s 221 (Int32.toNatClampNeg (s.1 26)) a1).1 7)) 224 (Int32.toNatClampNeg ((sa (sa s 221 (Int32.toNatClampNeg (s.1 26)) a1) 222 (Int32.toNatClampNeg ((sa s 221 (Int32.toNatClampNeg (s.1 26)) a1).1 26)) ((sa s 221 (Int32.toNatClampNeg (s.1 26)) a1).1 7)).1 26)) (-1)).1 26)) (-1)) 226 (Int32.toNatClampNeg ((sa (sa (sa (sa s 221 (Int32.toNatClampNeg (s.1 26)) a1) 222 (Int32.toNatClampNeg ((sa s 221 (Int32.toNatClampNeg (s.1 26)) a1).1 26)) ((sa s 221 (Int32.toNatClampNeg (s.1 26)) a1).1 7)) 224 (Int32.toNatClampNeg ((sa (sa s 221 (Int32.toNatClampNeg (s.1 26)) a1) 222 (Int32.toNatClampNeg ((sa s 221 (Int32.toNatClampNeg (s.1 26)) a1).1 26)) ((sa s 221 (Int32.toNatClampNeg (s.1 26)) a1).1 7)).1 26)) (-1)) 225 (Int32.toNatClampNeg ((sa (sa (sa s 221 (Int32.toNatClampNeg (s.1 26)) a1) 222 (Int32.toNatClampNeg ((sa s 221 (Int32.toNatClampNeg (s.1 26)) a1).1 26)) ((sa s 221 (Int32.toNatClampNeg (s.1 26)) a1).1 7)) 224 (Int32.toNatClampNeg ((sa (sa s 221 (Int32.toNatClampNeg (s.1 26)) a1) 222 (Int32.toNatClampNeg ((sa s 221 (Int32.toNatClampNeg (s.1 26)) a1).1 26)) ((sa s 221 (Int32.toNatClampNeg (s.1 26)) a1).1 7)).1 26)) (-1)).1 26)) (-1)).1 26)) 0).1 26)) (-1)) 228 (Int32.toNatClampNeg ((sa (sa (sa (sa (sa (sa s 221 (Int32.toNatClampNeg (s.1 26)) a1) 222 (Int32.toNatClampNeg ((sa s 221 (Int32.toNatClampNeg (s.1 26)) a1).1 26)) ((sa s 221 (Int32.toNatClampNeg (s.1 26)) a1).1 7)) 224 (Int32.toNatClampNeg ((sa (sa s 221 (Int32.toNatClampNeg (s.1 26)) a1) 222 (Int32.toNatClampNeg ((sa s 221 (Int32.toNatClampNeg (s.1 26)) a1).1 26)) ((sa s 221 (Int32.toNatClampNeg (s.1 26)) a1).1 7)).1 26)) (-1)) 225 (Int32.toNatClampNeg ((sa (sa (sa s 221 (Int32.toNatClampNeg (s.1 26)) a1) 222 (Int32.toNatClampNeg ((sa s 221 (Int32.toNatClampNeg (s.1 26)) a1).1 26)) ((sa s 221 (Int32.toNatClampNeg (s.1 26)) a1).1 7)) 224 (Int32.toNatClampNeg ((sa (sa s 221 (Int32.toNatClampNeg (s.1 26)) a1) 222 (Int32.toNatClampNeg ((sa s 221 (Int32.toNatClampNeg (s.1 26)) a1).1 26)) ((sa s 221 (Int32.toNatClampNeg (s.1 26)) a1).1 7)).1 26)) (-1)).1 26)) (-1)) 226 (Int32.toNatClampNeg ((sa (sa (sa (sa s 221 (Int32.toNatClampNeg (s.1 26)) a1) 222 (Int32.toNatClampNeg ((sa s 221 (Int32.toNatClampNeg (s.1 26)) a1).1 26)) ((sa s 221 (Int32.toNatClampNeg (s.1 26)) a1).1 7)) 224 (Int32.toNatClampNeg ((sa (sa s 221 (Int32.toNatClampNeg (s.1 26)) a1) 222 (Int32.toNatClampNeg ((sa s 221 (Int32.toNatClampNeg (s.1 26)) a1).1 26)) ((sa s 221 (Int32.toNatClampNeg (s.1 26)) a1).1 7)).1 26)) (-1)) 225 (Int32.toNatClampNeg ((sa (sa (sa s 221 (Int32.toNatClampNeg (s.1 26)) a1) 222 (Int32.toNatClampNeg ((sa s 221 (Int32.toNatClampNeg (s.1 26)) a1).1 26)) ((sa s 221 (Int32.toNatClampNeg (s.1 26)) a1).1 7)) 224 (Int32.toNatClampNeg ((sa (sa s 221 (Int32.toNatClampNeg (s.1 26)) a1) 222 (Int32.toNatClampNeg ((sa s 221 (Int32.toNatClampNeg (s.1 26)) a1).1 26)) ((sa s 221 (Int32.toNatClampNeg (s.1 26)) a1).1 7)).1 26)) (-1)).1 26)) (-1)).1 26)) 0) 227 (Int32.toNatClampNeg ((sa (sa (sa (sa (sa s 221 (Int32.toNatClampNeg (s.1 26)) a1) 222 (Int32.toNatClampNeg ((sa s 221 (Int32.toNatClampNeg (s.1 26)) a1).1 26)) ((sa s 221 (Int32.toNatClampNeg (s.1 26)) a1).1 7)) 224 (Int32.toNatClampNeg ((sa (sa s 221 (Int32.toNatClampNeg (s.1 26)) a1) 222 (Int32.toNatClampNeg ((sa s 221 (Int32.toNatClampNeg (s.1 26)) a1).1 26)) ((sa s 221 (Int32.toNatClampNeg (s.1 26)) a1).1 7)).1 26)) (-1)) 225 (Int32.toNatClampNeg ((sa (sa (sa s 221 (Int32.toNatClampNeg (s.1 26)) a1) 222 (Int32.toNatClampNeg ((sa s 221 (Int32.toNatClampNeg (s.1 26)) a1).1 26)) ((sa s 221 (Int32.toNatClampNeg (s.1 26)) a1).1 7)) 224 (Int32.toNatClampNeg ((sa (sa s 221 (Int32.toNatClampNeg (s.1 26)) a1) 222 (Int32.toNatClampNeg ((sa s 221 (Int32.toNatClampNeg (s.1 26)) a1).1 26)) ((sa s 221 (Int32.toNatClampNeg (s.1 26)) a1).1 7)).1 26)) (-1)).1 26)) (-1)) 226 (Int32.toNatClampNeg ((sa (sa (sa (sa s 221 (Int32.toNatClampNeg (s.1 26)) a1) 222 (Int32.toNatClampNeg ((sa s 221 (Int32.toNatClampNeg (s.1 26)) a1).1 26)) ((sa s 221 (Int32.toNatClampNeg (s.1 26)) a1).1 7)) 224 (Int32.toNatClampNeg ((sa (sa s 221 (Int32.toNatClampNeg (s.1 26)) a1) 222 (Int32.toNatClampNeg ((sa s 221 (Int32.toNatClampNeg (s.1 26)) a1).1 26)) ((sa s 221 (Int32.toNatClampNeg (s.1 26)) a1).1 7)).1 26)) (-1)) 225 (Int32.toNatClampNeg ((sa (sa (sa s 221 (Int32.toNatClampNeg (s.1 26)) a1) 222 (Int32.toNatClampNeg ((sa s 221 (Int32.toNatClampNeg (s.1 26)) a1).1 26)) ((sa s 221 (Int32.toNatClampNeg (s.1 26)) a1).1 7)) 224 (Int32.toNatClampNeg ((sa (sa s 221 (Int32.toNatClampNeg (s.1 26)) a1) 222 (Int32.toNatClampNeg ((sa s 221 (Int32.toNatClampNeg (s.1 26)) a1).1 26)) ((sa s 221 (Int32.toNatClampNeg (s.1 26)) a1).1 7)).1 26)) (-1)).1 26)) (-1)).1 26)) 0).1 26)) (-1)).1 26)) (-1)).1 26)) (-1)).1 26), .ref 230] _ _
  refine g_c [.int 0, .int ((sa (sa (sa (sa (sa (sa (sa (sa s 221 (Int32.toNatClampNeg (s.1 26)) a1) 222 (Int32.toNatClampNeg ((sa s 221 (Int32.toNatClampNeg (s.1 26)) a1).1 26)) ((sa s 221 (Int32.toNatClampNeg (s.1 26)) a1).1 7)) 224 (Int32.toNatClampNeg ((sa (sa s 221 (Int32.toNatClampNeg (s.1 26)) a1) 222 (Int32.toNatClampNeg ((sa s 221 (Int32.toNatClampNeg (s.1 26)) a1).1 26)) ((sa s 221 (Int32.toNatClampNeg (s.1 26)) a1).1 7)).1 26)) (-1)) 225 (Int32.toNatClampNeg ((sa (sa (sa s 221 (Int32.toNatClampNeg (s.1 26)) a1) 222 (Int32.toNatClampNeg ((sa s 221 (Int32.toNatClampNeg (s.1 26)) a1).1 26)) ((sa s 221 (Int32.toNatClampNeg (s.1 26)) a1).1 7)) 224 (Int32.toNatClampNeg ((sa (sa s 221 (Int32.toNatClampNeg (s.1 26)) a1) 222 (Int32.toNatClampNeg ((sa s 221 (Int32.toNatClampNeg (s.1 26)) a1).1 26)) ((sa s 221 (Int32.toNatClampNeg (s.1 26)) a1).1 7)).1 26)) (-1)).1 26)) (-1)) 226 (Int32.toNatClampNeg ((sa (sa (sa (sa s 221 (Int32.toNatClampNeg (s.1 26)) a1) 222 (Int32.toNatClampNeg ((sa s 221 (Int32.toNatClampNeg (s.1 26)) a1).1 26)) ((sa s 221 (Int32.toNatClampNeg (s.1 26)) a1).1 7)) 224 (Int32.toNatClampNeg ((sa (sa s 221 (Int32.toNatClampNeg (s.1 26)) a1) 222 (Int32.toNatClampNeg ((sa s 221 (Int32.toNatClampNeg (s.1 26)) a1).1 26)) ((sa s 221 (Int32.toNatClampNeg (s.1 26)) a1).1 7)).1 26)) (-1)) 225 (Int32.toNatClampNeg ((sa (sa (sa s 221 (Int32.toNatClampNeg (s.1 26)) a1) 222 (Int32.toNatClampNeg ((sa s 221 (Int32.toNatClampNeg (s.1 26)) a1).1 26)) ((sa s 221 (Int32.toNatClampNeg (s.1 26)) a1).1 7)) 224 (Int32.toNatClampNeg ((sa (sa s 221 (Int32.toNatClampNeg (s.1 26)) a1) 222 (Int32.toNatClampNeg ((sa s 221 (Int32.toNatClampNeg (s.1 26)) a1).1 26)) ((sa s 221 (Int32.toNatClampNeg (s.1 26)) a1).1 7)).1 26)) (-1)).1 26)) (-1)).1 26)) 0) 227 (Int32.toNatClampNeg ((sa (sa (sa (sa (sa s 221 (Int32.toNatClampNeg (s.1 26)) a1) 222 (Int32.toNatClampNeg ((sa s 221 (Int32.toNatClampNeg (s.1 26)) a1).1 26)) ((sa s 221 (Int32.toNatClampNeg (s.1 26)) a1).1 7)) 224 (Int32.toNatClampNeg ((sa (sa s 221 (Int32.toNatClampNeg (s.1 26)) a1) 222 (Int32.toNatClampNeg ((sa s 221 (Int32.toNatClampNeg (s.1 26)) a1).1 26)) ((sa s 221 (Int32.toNatClampNeg (s.1 26)) a1).1 7)).1 26)) (-1)) 225 (Int32.toNatClampNeg ((sa (sa (sa s 221 (Int32.toNatClampNeg (s.1 26)) a1) 222 (Int32.toNatClampNeg ((sa s 221 (Int32.toNatClampNeg (s.1 26)) a1).1 26)) ((sa s 221 (Int32.toNatClampNeg (s.1 26)) a1).1 7)) 224 (Int32.toNatClampNeg ((sa (sa s 221 (Int32.toNatClampNeg (s.1 26)) a1) 222 (Int32.toNatClampNeg ((sa s 221 (Int32.toNatClampNeg (s.1 26)) a1).1 26)) ((sa s 221 (Int32.toNatClampNeg (s.1 26)) a1).1 7)).1 26)) (-1)).1 26)) (-1)) 226 (Int32.toNatClampNeg ((sa (sa (sa (sa s 221 (Int32.toNatClampNeg (s.1 26)) a1) 222 (Int32.toNatClampNeg ((sa s 221 (Int32.toNatClampNeg (s.1 26)) a1).1 26)) ((sa s 221 (Int32.toNatClampNeg (s.1 26)) a1).1 7)) 224 (Int32.toNatClampNeg ((sa (sa s 221 (Int32.toNatClampNeg (s.1 26)) a1) 222 (Int32.toNatClampNeg ((sa s 221 (Int32.toNatClampNeg (s.1 26)) a1).1 26)) ((sa s 221 (Int32.toNatClampNeg (s.1 26)) a1).1 7)).1 26)) (-1)) 225 (Int32.toNatClampNeg ((sa (sa (sa s 221 (Int32.toNatClampNeg (s.1 26)) a1) 222 (Int32.toNatClampNeg ((sa s 221 (Int32.toNatClampNeg (s.1 26)) a1).1 26)) ((sa s 221 (Int32.toNatClampNeg (s.1 26)) a1).1 7)) 224 (Int32.toNatClampNeg ((sa (sa s 221 (Int32.toNatClampNeg (s.1 26)) a1) 222 (Int32.toNatClampNeg ((sa s 221 (Int32.toNatClampNeg (s.1 26)) a1).1 26)) ((sa s 221 (Int32.toNatClampNeg (s.1 26)) a1).1 7)).1 26)) (-1)).1 26)) (-1)).1 26)) 0).1 26)) (-1)) 228 (Int32.toNatClampNeg ((sa (sa (sa (sa (sa (sa s 221 (Int32.toNatClampNeg (s.1 26)) a1) 222 (Int32.toNatClampNeg ((sa s 221 (Int32.toNatClampNeg (s.1 26)) a1).1 26)) ((sa s 221 (Int32.toNatClampNeg (s.1 26)) a1).1 7)) 224 (Int32.toNatClampNeg ((sa (sa s 221 (Int32.toNatClampNeg (s.1 26)) a1) 222 (Int32.toNatClampNeg ((sa s 221 (Int32.toNatClampNeg (s.1 26)) a1).1 26)) ((sa s 221 (Int32.toNatClampNeg (s.1 26)) a1).1 7)).1 26)) (-1)) 225 (Int32.toNatClampNeg ((sa (sa (sa s 221 (Int32.toNatClampNeg (s.1 26)) a1) 222 (Int32.toNatClampNeg ((sa s 221 (Int32.toNatClampNeg (s.1 26)) a1).1 26)) ((sa s 221 (Int32.toNatClampNeg (s.1 26)) a1).1 7)) 224 (Int32.toNatClampNeg ((sa (sa s 221 (Int32.toNatClampNeg (s.1 26)) a1) 222 (Int32.toNatClampNeg ((sa s 221 (Int32.toNatClampNeg (s.1 26)) a1).1 26)) ((sa s 221 (Int32.toNatClampNeg (s.1 26)) a1).1 7)).1 26)) (-1)).1 26)) (-1)) 226 (Int32.toNatClampNeg ((sa (sa (sa (sa s 221 (Int32.toNatClampNeg (s.1 26)) a1) 222 (Int32.toNatClampNeg ((sa s 221 (Int32.toNatClampNeg (s.1 26)) a1).1 26)) ((sa s 221 (Int32.toNatClampNeg (s.1 26)) a1).1 7)) 224 (Int32.toNatClampNeg ((sa (sa s 221 (Int32.toNatClampNeg (s.1 26)) a1) 222 (Int32.toNatClampNeg ((sa s 221 (Int32.toNatClampNeg (s.1 26)) a1).1 26)) ((sa s 221 (Int32.toNatClampNeg (s.1 26)) a1).1 7)).1 26)) (-1)) 225 (Int32.toNatClampNeg ((sa (sa (sa s 221 (Int32.toNatClampNeg (s.1 26)) a1) 222 (Int32.toNatClampNeg ((sa s 221 (Int32.toNatClampNeg (s.1 26)) a1).1 26)) ((sa s 221 (Int32.toNatClampNeg (s.1 26)) a1).1 7)) 224 (Int32.toNatClampNeg ((sa (sa s 221 (Int32.toNatClampNeg (s.1 26)) a1) 222 (Int32.toNatClampNeg ((sa s 221 (Int32.toNatClampNeg (s.1 26)) a1).1 26)) ((sa s 221 (Int32.toNatClampNeg (s.1 26)) a1).1 7)).1 26)) (-1)).1 26)) (-1)).1 26)) 0) 227 (Int32.toNatClampNeg ((sa (sa (sa (sa (sa s 221 (Int32.toNatClampNeg (s.1 26)) a1) 222 (Int32.toNatClampNeg ((sa s 221 (Int32.toNatClampNeg (s.1 26)) a1).1 26)) ((sa s 221 (Int32.toNatClampNeg (s.1 26)) a1).1 7)) 224 (Int32.toNatClampNeg ((sa (sa s 221 (Int32.toNatClampNeg (s.1 26)) a1) 222 (Int32.toNatClampNeg ((sa s 221 (Int32.toNatClampNeg (s.1 26)) a1).1 26)) ((sa s 221 (Int32.toNatClampNeg (s.1 26)) a1).1 7)).1 26)) (-1)) 225 (Int32.toNatClampNeg ((sa (sa (sa s 221 (Int32.toNatClampNeg (s.1 26)) a1) 222 (Int32.toNatClampNeg ((sa s 221 (Int32.toNatClampNeg (s.1 26)) a1).1 26)) ((sa s 221 (Int32.toNatClampNeg (s.1 26)) a1).1 7)) 224 (Int32.toNatClampNeg ((sa (sa s 221 (Int32.toNatClampNeg (s.1 26)) a1) 222 (Int32.toNatClampNeg ((sa s 221 (Int32.toNatClampNeg (s.1 26)) a1).1 26)) ((sa s 221 (Int32.toNatClampNeg (s.1 26)) a1).1 7)).1 26)) (-1)).1 26)) (-1)) 226 (Int32.toNatClampNeg ((sa (sa (sa (sa s 221 (Int32.toNatClampNeg (s.1 26)) a1) 222 (Int32.toNatClampNeg ((sa s 221 (Int32.toNatClampNeg (s.1 26)) a1).1 26)) ((sa s 221 (Int32.toNatClampNeg (s.1 26)) a1).1 7)) 224 (Int32.toNatClampNeg ((sa (sa s 221 (Int32.toNatClampNeg (s.1 26)) a1) 222 (Int32.toNatClampNeg ((sa s 221 (Int32.toNatClampNeg (s.1 26)) a1).1 26)) ((sa s 221 (Int32.toNatClampNeg (s.1 26)) a1).1 7)).1 26)) (-1)) 225 (Int32.toNatClampNeg ((sa (sa (sa s 221 (Int32.toNatClampNeg (s.1 26)) a1) 222 (Int32.toNatClampNeg ((sa s 221 (Int32.toNatClampNeg (s.1 26)) a1).1 26)) ((sa s 221 (Int32.toNatClampNeg (s.1 26)) a1).1 7)) 224 (Int32.toNatClampNeg ((sa (sa s 221 (Int32.toNatClampNeg (s.1 26)) a1) 222 (Int32.toNatClampNeg ((sa s 221 (Int32.toNatClampNeg (s.1 26)) a1).1 26)) ((sa s 221 (Int32.toNatClampNeg (s.1 26)) a1).1 7)).1 26)) (-1)).1 26)) (-1)).1 26)) 0).1 26)) (-1)).1 26)) (-1)) 229 (Int32.toNatClampNeg ((sa (sa (sa (sa (sa (sa (sa s 221 (Int32.toNatClampNeg (s.1 26)) a1) 222 (Int32.toNatClampNeg ((sa s 221 (Int32.toNatClampNeg (s.1 26)) a1).1 26)) ((sa s 221 (Int32.toNatClampNeg (s.1 26)) a1).1 7)) 224 (Int32.toNatClampNeg ((sa (sa s 221 (Int32.toNatClampNeg (s.1 26)) a1) 222 (Int32.toNatClampNeg ((sa s 221 (Int32.toNatClampNeg (s.1 26)) a1).1 26)) ((sa s 221 (Int32.toNatClampNeg (s.1 26)) a1).1 7)).1 26)) (-1)) 225 (Int32.toNatClampNeg ((sa (sa (sa s 221 (Int32.toNatClampNeg (s.1 26)) a1) 222 (Int32.toNatClampNeg ((sa s 221 (Int32.toNatClampNeg (s.1 26)) a1).1 26)) ((sa s 221 (Int32.toNatClampNeg (s.1 26)) a1).1 7)) 224 (Int32.toNatClampNeg ((sa (sa s 221 (Int32.toNatClampNeg (s.1 26)) a1) 222 (Int32.toNatClampNeg ((sa s 221 (Int32.toNatClampNeg (s.1 26)) a1).1 26)) ((sa s 221 (Int32.toNatClampNeg (s.1 26)) a1).1 7)).1 26)) (-1)).1 26)) (-1)) 226 (Int32.toNatClampNeg ((sa (sa (sa (sa s 221 (Int32.toNatClampNeg (s.1 26)) a1) 222 (Int32.toNatClampNeg ((sa s 221 (Int32.toNatClampNeg (s.1 26)) a1).1 26)) ((sa s 221 (Int32.toNatClampNeg (s.1 26)) a1).1 7)) 224 (Int32.toNatClampNeg ((sa (sa s 221 (Int32.toNatClampNeg (s.1 26)) a1) 222 (Int32.toNatClampNeg ((sa s 221 (Int32.toNatClampNeg (s.1 26)) a1).1 26)) ((sa s 221 (Int32.toNatClampNeg (s.1 26)) a1).1 7)).1 26)) (-1)) 225 (Int32.toNatClampNeg ((sa (sa (sa s 221 (Int32.toNatClampNeg (s.1 26)) a1) 222 (Int32.toNatClampNeg ((sa s 221 (Int32.toNatClampNeg (s.1 26)) a1).1 26)) ((sa s 221 (Int32.toNatClampNeg (s.1 26)) a1).1 7)) 224 (Int32.toNatClampNeg ((sa (sa s 221 (Int32.toNatClampNeg (s.1 26)) a1) 222 (Int32.toNatClampNeg ((sa s 221 (Int32.toNatClampNeg (s.1 26)) a1).1 26)) ((sa s 221 (Int32.toNatClampNeg (s.1 26)) a1).1 7)).1 26)) (-1)).1 26)) (-1)).1 26)) 0) 227 (Int32.toNatClampNeg ((sa (sa (sa (sa (sa s 221 (Int32.toNatClampNeg (s.1 26)) a1) 222 (Int32.toNatClampNeg ((sa s 221 (Int32.toNatClampNeg (s.1 26)) a1).1 26)) ((sa s 221 (Int32.toNatClampNeg (s.1 26)) a1).1 7)) 224 (Int32.toNatClampNeg ((sa (sa s 221 (Int32.toNatClampNeg (s.1 26)) a1) 222 (Int32.toNatClampNeg ((sa s 221 (Int32.toNatClampNeg (s.1 26)) a1).1 26)) ((sa s 221 (Int32.toNatClampNeg (s.1 26)) a1).1 7)).1 26)) (-1)) 225 (Int32.toNatClampNeg ((sa (sa (sa s 221 (Int32.toNatClampNeg (s.1 26)) a1) 222 (Int32.toNatClampNeg ((sa s 221 (Int32.toNatClampNeg (s.1 26)) a1).1 26)) ((sa s 221 (Int32.toNatClampNeg (s.1 26)) a1).1 7)) 224 (Int32.toNatClampNeg ((sa (sa s 221 (Int32.toNatClampNeg (s.1 26)) a1) 222 (Int32.toNatClampNeg ((sa s 221 (Int32.toNatClampNeg (s.1 26)) a1).1 26)) ((sa s 221 (Int32.toNatClampNeg (s.1 26)) a1).1 7)).1 26)) (-1)).1 26)) (-1)) 226 (Int32.toNatClampNeg ((sa (sa (sa (sa s 221 (Int32.toNatClampNeg (s.1 26)) a1) 222 (Int32.toNatClampNeg ((sa s 221 (Int32.toNatClampNeg (s.1 26)) a1).1 26)) ((sa s 221 (Int32.toNatClampNeg (s.1 26)) a1).1 7)) 224 (Int32.toNatClampNeg ((sa (sa s 221 (Int32.toNatClampNeg (s.1 26)) a1) 222 (Int32.toNatClampNeg ((sa s 221 (Int32.toNatClampNeg (s.1 26)) a1).1 26)) ((sa s 221 (Int32.toNatClampNeg (s.1 26)) a1).1 7)).1 26)) (-1)) 225 (Int32.toNatClampNeg ((sa (sa (sa s 221 (Int32.toNatClampNeg (s.1 26)) a1) 222 (Int32.toNatClampNeg ((sa s 221 (Int32.toNatClampNeg (s.1 26)) a1).1 26)) ((sa s 221 (Int32.toNatClampNeg (s.1 26)) a1).1 7)) 224 (Int32.toNatClampNeg ((sa (sa s 221 (Int32.toNatClampNeg (s.1 26)) a1) 222 (Int32.toNatClampNeg ((sa s 221 (Int32.toNatClampNeg (s.1 26)) a1).1 26)) ((sa s 221 (Int32.toNatClampNeg (s.1 26)) a1).1 7)).1 26)) (-1)).1 26)) (-1)).1 26)) 0).1 26)) (-1)) 228 (Int32.toNatClampNeg ((sa (sa (sa (sa (sa (sa s 221 (Int32.toNatClampNeg (s.1 26)) a1) 222 (Int32.toNatClampNeg ((sa s 221 (Int32.toNatClampNeg (s.1 26)) a1).1 26)) ((sa s 221 (Int32.toNatClampNeg (s.1 26)) a1).1 7)) 224 (Int32.toNatClampNeg ((sa (sa s 221 (Int32.toNatClampNeg (s.1 26)) a1) 222 (Int32.toNatClampNeg ((sa s 221 (Int32.toNatClampNeg (s.1 26)) a1).1 26)) ((sa s 221 (Int32.toNatClampNeg (s.1 26)) a1).1 7)).1 26)) (-1)) 225 (Int32.toNatClampNeg ((sa (sa (sa s 221 (Int32.toNatClampNeg (s.1 26)) a1) 222 (Int32.toNatClampNeg ((sa s 221 (Int32.toNatClampNeg (s.1 26)) a1).1 26)) ((sa s 221 (Int32.toNatClampNeg (s.1 26)) a1).1 7)) 224 (Int32.toNatClampNeg ((sa (sa s 221 (Int32.toNatClampNeg (s.1 26)) a1) 222 (Int32.toNatClampNeg ((sa s 221 (Int32.toNatClampNeg (s.1 26)) a1).1 26)) ((sa s 221 (Int32.toNatClampNeg (s.1 26)) a1).1 7)).1 26)) (-1)).1 26)) (-1)) 226 (Int32.toNatClampNeg ((sa (sa (sa (sa s 221 (Int32.toNatClampNeg (s.1 26)) a1) 222 (Int32.toNatClampNeg ((sa s 221 (Int32.toNatClampNeg (s.1 26)) a1).1 26)) ((sa s 221 (Int32.toNatClampNeg (s.1 26)) a1).1 7)) 224 (Int32.toNatClampNeg ((sa (sa s 221 (Int32.toNatClampNeg (s.1 26)) a1) 222 (Int32.toNatClampNeg ((sa s 221 (Int32.toNatClampNeg (s.1 26)) a1).1 26)) ((sa s 221 (Int32.toNatClampNeg (s.1 26)) a1).1 7)).1 26)) (-1)) 225 (Int32.toNatClampNeg ((sa (sa (sa s 221 (Int32.toNatClampNeg (s.1 26)) a1) 222 (Int32.toNatClampNeg ((sa s 221 (Int32.toNatClampNeg (s.1 26)) a1).1 26)) ((sa s 221 (Int32.toNatClampNeg (s.1 26)) a1).1 7)) 224 (Int32.toNatClampNeg ((sa (sa s 221 (Int32.toNatClampNeg (s.1 26)) a1) 222 (Int32.toNatClampNeg ((sa s 221 (Int32.toNatClampNeg (s.1 26)) a1).1 26)) ((sa s 221 (Int32.toNatClampNeg (s.1 26)) a1).1 7)).1 26)) (-1)).1 26)) (-1)).1 26)) 0) 227 (Int32.toNatClampNeg ((sa (sa (sa (sa (sa s 221 (Int32.toNatClampNeg (s.1 26)) a1) 222 (Int32.toNatClampNeg ((sa s 221 (Int32.toNatClampNeg (s.1 26)) a1).1 26)) ((sa s 221 (Int32.toNatClampNeg (s.1 26)) a1).1 7)) 224 (Int32.toNatClampNeg ((sa (sa s 221 (Int32.toNatClampNeg (s.1 26)) a1) 222 (Int32.toNatClampNeg ((sa s 221 (Int32.toNatClampNeg (s.1 26)) a1).1 26)) ((sa s 221 (Int32.toNatClampNeg (s.1 26)) a1).1 7)).1 26)) (-1)) 225 (Int32.toNatClampNeg ((sa (sa (sa s 221 (Int32.toNatClampNeg (s.1 26)) a1) 222 (Int32.toNatClampNeg ((sa s 221 (Int32.toNatClampNeg (s.1 26)) a1).1 26)) ((sa s 221 (Int32.toNatClampNeg (s.1 26)) a1).1 7)) 224 (Int32.toNatClampNeg ((sa (sa s 221 (Int32.toNatClampNeg (s.1 26)) a1) 222 (Int32.toNatClampNeg ((sa s 221 (Int32.toNatClampNeg (s.1 26)) a1).1 26)) ((sa s 221 (Int32.toNatClampNeg (s.1 26)) a1).1 7)).1 26)) (-1)).1 26)) (-1)) 226 (Int32.toNatClampNeg ((sa (sa (sa (sa s 221 (Int32.toNatClampNeg (s.1 26)) a1) 222 (Int32.toNatClampNeg ((sa s 221 (Int32.toNatClampNeg (s.1 26)) a1).1 26)) ((sa s 221 (Int32.toNatClampNeg (s.1 26)) a1).1 7)) 224 (Int32.toNatClampNeg ((sa (sa s 221 (Int32.toNatClampNeg (s.1 26)) a1) 222 (Int32.toNatClampNeg ((sa s 221 (Int32.toNatClampNeg (s.1 26)) a1).1 26)) ((sa s 221 (Int32.toNatClampNeg (s.1 26)) a1).1 7)).1 26)) (-1)) 225 (Int32.toNatClampNeg ((sa (sa (sa s 221 (Int32.toNatClampNeg (s.1 26)) a1) 222 (Int32.toNatClampNeg ((sa s 221 (Int32.toNatClampNeg (s.1 26)) a1).1 26)) ((sa s 221 (Int32.toNatClampNeg (s.1 26)) a1).1 7)) 224 (Int32.toNatClampNeg ((sa (sa s 221 (Int32.toNatClampNeg (s.1 26)) a1) 222 (Int32.toNatClampNeg ((sa s 221 (Int32.toNatClampNeg (s.1 26)) a1).1 26)) ((sa s 221 (Int32.toNatClampNeg (s.1 26)) a1).1 7)).1 26)) (-1)).1 26)) (-1)).1 26)) 0).1 26)) (-1)).1 26)) (-1)).1 26)) (-1)).1 26), .ref 230] (xo_push (.int 0)) rfl rfl ?_
  refine g_ias rfl rfl h.1 ?_
  replace h := h.2
  replace h := h _ rfl
  refine g_ld rfl rfl rfl ?_
  refine g_c [.ref 213, .ref 213] xo_dup rfl rfl ?_
  refine g_get rfl rfl ?_
  change Go _ _ _ _ _ _ [.int ((sa (sa (sa (sa (sa (sa (sa (sa (sa s 221 (Int32.toNatClampNeg (s.1 26)) a1) 222 (Int32.toNatClampNeg ((sa s 221 (Int32.toNatClampNeg (s.1 26)) a1).1 26)) ((sa s 221 (Int32.toNatClampNeg (s.1 26)) a1).1 7)) 224 (Int32.toNatClampNeg ((sa (sa s 221 (Int32.toNatClampNeg (s.1 26)) a1) 222 (Int32.toNatClampNeg ((sa s 221 (Int32.toNatClampNeg (s.1 26)) a1).1 26)) ((sa s 221 (Int32.toNatClampNeg (s.1 26)) a1).1 7)).1 26)) (-1)) 225 (Int32.toNatClampNeg ((sa (sa (sa s 221 (Int32.toNatClampNeg (s.1 26)) a1) 222 (Int32.toNatClampNeg ((sa s 221 (Int32.toNatClampNeg (s.1 26)) a1).1 26)) ((sa s 221 (Int32.toNatClampNeg (s.1 26)) a1).1 7)) 224 (Int32.toNatClampNeg ((sa (sa s 221 (Int32.toNatClampNeg (s.1 26)) a1) 222 (Int32.toNatClampNeg ((sa s 221 (Int32.toNatClampNeg (s.1 26)) a1).1 26)) ((sa s 221 (Int32.toNatClampNeg (s.1 26)) a1).1 7)).1 26)) (-1)).1 26)) (-1)) 226 (Int32.toNatClampNeg ((sa (sa (sa (sa s 221 (Int32.toNatClampNeg (s.1 26)) a1) 222 (Int32.toNatClampNeg ((sa s 221 (Int32.toNatClampNeg (s.1 26)) a1).1 26)) ((sa s 221 (Int32.toNatClampNeg (s.1 26)) a1).1 7)) 224 (Int32.toNatClampNeg ((sa (sa s 221 (Int32.toNatClampNeg (s.1 26)) a1) 222 (Int32.toNatClampNeg ((sa s 221 (Int32.toNatClampNeg (s.1 26)) a1).1 26)) ((sa s 221 (Int32.toNatClampNeg (s.1 26)) a1).1 7)).1 26)) (-1)) 225 (Int32.toNatClampNeg ((sa (sa (sa s 221 (Int32.toNatClampNeg (s.1 26)) a1) 222 (Int32.toNatClampNeg ((sa s 221 (Int32.toNatClampNeg (s.1 26)) a1).1 26)) ((sa s 221 (Int32.toNatClampNeg (s.1 26)) a1).1 7)) 224 (Int32.toNatClampNeg ((sa (sa s 221 (Int32.toNatClampNeg (s.1 26)) a1) 222 (Int32.toNatClampNeg ((sa s 221 (Int32.toNatClampNeg (s.1 26)) a1).1 26)) ((sa s 221 (Int32.toNatClampNeg (s.1 26)) a1).1 7)).1 26)) (-1)).1 26)) (-1)).1 26)) 0) 227 (Int32.toNatClampNeg ((sa (sa (sa (sa (sa s 221 (Int32.toNatClampNeg (s.1 26)) a1) 222 (Int32.toNatClampNeg ((sa s 221 (Int32.toNatClampNeg (s.1 26)) a1).1 26)) ((sa s 221 (Int32.toNatClampNeg (s.1 26)) a1).1 7)) 224 (Int32.toNatClampNeg ((sa (sa s 221 (Int32.toNatClampNeg (s.1 26)) a1) 222 (Int32.toNatClampNeg ((sa s 221 (Int32.toNatClampNeg (s.1 26)) a1).1 26)) ((sa s 221 (Int32.toNatClampNeg (s.1 26)) a1).1 7)).1 26)) (-1)) 225 (Int32.toNatClampNeg ((sa (sa (sa s 221 (Int32.toNatClampNeg (s.1 26)) a1) 222 (Int32.toNatClampNeg ((sa s 221 (Int32.toNatClampNeg (s.1 26)) a1).1 26)) ((sa s 221 (Int32.toNatClampNeg (s.1 26)) a1).1 7)) 224 (Int32.toNatClampNeg ((sa (sa s 221 (Int32.toNatClampNeg (s.1 26)) a1) 222 (Int32.toNatClampNeg ((sa s 221 (Int32.toNatClampNeg (s.1 26)) a1).1 26)) ((sa s 221 (Int32.toNatClampNeg (s.1 26)) a1).1 7)).1 26)) (-1)).1 26)) (-1)) 226 (Int32.toNatClampNeg ((sa (sa (sa (sa s 221 (Int32.toNatClampNeg (s.1 26)) a1) 222 (Int32.toNatClampNeg ((sa s 221 (Int32.toNatClampNeg (s.1 26)) a1).1 26)) ((sa s 221 (Int32.toNatClampNeg (s.1 26)) a1).1 7)) 224 (Int32.toNatClampNeg ((sa (sa s 221 (Int32.toNatClampNeg (s.1 26)) a1) 222 (Int32.toNatClampNeg ((sa s 221 (Int32.toNatClampNeg (s.1 26)) a1).1 26)) ((sa s 221 (Int32.toNatClampNeg (s.1 26)) a1).1 7)).1 26)) (-1)) 225 (Int32.toNatClampNeg ((sa (sa (sa s 221 (Int32.toNatClampNeg (s.1 26)) a1) 222 (Int32.toNatClampNeg ((sa s 221 (Int32.toNatClampNeg (s.1 26)) a1).1 26)) ((sa s 221 (Int32.toNatClampNeg (s.1 26)) a1).1 7)) 224 (Int32.toNatClampNeg ((sa (sa s 221 (Int32.toNatClampNeg (s.1 26)) a1) 222 (Int32.toNatClampNeg ((sa s 221 (Int32.toNatClampNeg (s.1 26)) a1).1 26)) ((sa s 221 (Int32.toNatClampNeg (s.1 26)) a1).1 7)).1 26)) (-1)).1 26)) (-1)).1 26)) 0).1 26)) (-1)) 228 (Int32.toNatClampNeg ((sa (sa (sa (sa (sa (sa s 221 (Int32.toNatClampNeg (s.1 26)) a1) 222 (Int32.toNatClampNeg ((sa s 221 (Int32.toNatClampNeg (s.1 26)) a1).1 26)) ((sa s 221 (Int32.toNatClampNeg (s.1 26)) a1).1 7)) 224 (Int32.toNatClampNeg ((sa (sa s 221 (Int32.toNatClampNeg (s.1 26)) a1) 222 (Int32.toNatClampNeg ((sa s 221 (Int32.toNatClampNeg (s.1 26)) a1).1 26)) ((sa s 221 (Int32.toNatClampNeg (s.1 26)) a1).1 7)).1 26)) (-1)) 225 (Int32.toNatClampNeg ((sa (sa (sa s 221 (Int32.toNatClampNeg (s.1 26)) a1) 222 (Int32.toNatClampNeg ((sa s 221 (Int32.toNatClampNeg (s.1 26)) a1).1 26)) ((sa s 221 (Int32.toNatClampNeg (s.1 26)) a1).1 7)) 224 (Int32.toNatClampNeg ((sa (sa s 221 (Int32.toNatClampNeg (s.1 26)) a1) 222 (Int32.toNatClampNeg ((sa s 221 (Int32.toNatClampNeg (s.1 26)) a1).1 26)) ((sa s 221 (Int32.toNatClampNeg (s.1 26)) a1).1 7)).1 26)) (-1)).1 26)) (-1)) 226 (Int32.toNatClampNeg ((sa (sa (sa (sa s 221 (Int32.toNatClampNeg (s.1 26)) a1) 222 (Int32.toNatClampNeg ((sa s 221 (Int32.toNatClampNeg (s.1 26)) a1).1 26)) ((sa s 221 (Int32.toNatClampNeg (s.1 26)) a1).1 7)) 224 (Int32.toNatClampNeg ((sa (sa s 221 (Int32.toNatClampNeg (s.1 26)) a1) 222 (Int32.toNatClampNeg ((sa s 221 (Int32.toNatClampNeg (s.1 26)) a1).1 26)) ((sa s 221 (Int32.toNatClampNeg (s.1 26)) a1).1 7)).1 26)) (-1)) 225 (Int32.toNatClampNeg ((sa (sa (sa s 221 (Int32.toNatClampNeg (s.1 26)) a1) 222 (Int32.toNatClampNeg ((sa s 221 (Int32.toNatClampNeg (s.1 26)) a1).1 26)) ((sa s 221 (Int32.toNatClampNeg (s.1 26)) a1).1 7)) 224 (Int32.toNatClampNeg ((sa (sa s 221 (Int32.toNatClampNeg (s.1 26)) a1) 222 (Int32.toNatClampNeg ((sa s 221 (Int32.toNatClampNeg (s.1 26)) a1).1 26)) ((sa s 221 (Int32.toNatClampNeg (s.1 26)) a1).1 7)).1 26)) (-1)).1 26)) (-1)).1 26)) 0) 227 (Int32.toNatClampNeg ((sa (sa (sa (sa (sa s 221 (Int32.toNatClampNeg (s.1 26)) a1) 222 (Int32.toNatClampNeg ((sa s 221 (Int32.toNatClampNeg (s.1 26)) a1).1 26)) ((sa s 221 (Int32.toNatClampNeg (s.1 26)) a1).1 7)) 224 (Int32.toNatClampNeg ((sa (sa s 221 (Int32.toNatClampNeg (s.1 26)) a1) 222 (Int32.toNatClampNeg ((sa s 221 (Int32.toNatClampNeg (s.1 26)) a1).1 26)) ((sa s 221 (Int32.toNatClampNeg (s.1 26)) a1).1 7)).1 26)) (-1)) 225 (Int32.toNatClampNeg ((sa (sa (sa s 221 (Int32.toNatClampNeg (s.1 26)) a1) 222 (Int32.toNatClampNeg ((sa s 221 (Int32.toNatClampNeg (s.1 26)) a1).1 26)) ((sa s 221 (Int32.toNatClampNeg (s.1 26)) a1).1 7)) 224 (Int32.toNatClampNeg ((sa (sa s 221 (Int32.toNatClampNeg (s.1 26)) a1) 222 (Int32.toNatClampNeg ((sa s 221 (Int32.toNatClampNeg (s.1 26)) a1).1 26)) ((sa s 221 (Int32.toNatClampNeg (s.1 26)) a1).1 7)).1 26)) (-1)).1 26)) (-1)) 226 (Int32.toNatClampNeg ((sa (sa (sa (sa s 221 (Int32.toNatClampNeg (s.1 26)) a1) 222 (Int32.toNatClampNeg ((sa s 221 (Int32.toNatClampNeg (s.1 26)) a1).1 26)) ((sa s 221 (Int32.toNatClampNeg (s.1 26)) a1).1 7)) 224 (Int32.toNatClampNeg ((sa (sa s 221 (Int32.toNatClampNeg (s.1 26)) a1) 222 (Int32.toNatClampNeg ((sa s 221 (Int32.toNatClampNeg (s.1 26)) a1).1 26)) ((sa s 221 (Int32.toNatClampNeg (s.1 26)) a1).1 7)).1 26)) (-1)) 225 (Int32.toNatClampNeg ((sa (sa (sa s 221 (Int32.toNatClampNeg (s.1 26)) a1) 222 (Int32.toNatClampNeg ((sa s 221 (Int32.toNatClampNeg (s.1 26)) a1).1 26)) ((sa s 221 (Int32.toNatClampNeg (s.1 26)) a1).1 7)) 224 (Int32.toNatClampNeg ((sa (sa s 221 (Int32.toNatClampNeg (s.1 26)) a1) 222 (Int32.toNatClampNeg ((sa s 221 (Int32.toNatClampNeg (s.1 26)) a1).1 26)) ((sa s 221 (Int32.toNatClampNeg (s.1 26)) a1).1 7)).1 26)) (-1)).1 26)) (-1)).1 26)) 0).1 26)) (-1)).1 26)) (-1)) 229 (Int32.toNatClampNeg ((sa (sa (sa (sa (sa (sa (sa s 221 (Int32.toNatClampNeg (s.1 26)) a1) 222 (Int32.toNatClampNeg ((sa s 221 (Int32.toNatClampNeg (s.1 26)) a1).1 26)) ((sa s 221 (Int32.toNatClampNeg (s.1 26)) a1).1 7)) 224 (Int32.toNatClampNeg ((sa (sa s 221 (Int32.toNatClampNeg (s.1 26)) a1) 222 (Int32.toNatClampNeg ((sa s 221 (Int32.toNatClampNeg (s.1 26)) a1).1 26)) ((sa s 221 (Int32.toNatClampNeg (s.1 26)) a1).1 7)).1 26)) (-1)) 225 (Int32.toNatClampNeg ((sa (sa (sa s 221 (Int32.toNatClampNeg (s.1 26)) a1) 222 (Int32.toNatClampNeg ((sa s 221 (Int32.toNatClampNeg (s.1 26)) a1).1 26)) ((sa s 221 (Int32.toNatClampNeg (s.1 26)) a1).1 7)) 224 (Int32.toNatClampNeg ((sa (sa s 221 (Int32.toNatClampNeg (s.1 26)) a1) 222 (Int32.toNatClampNeg ((sa s 221 (Int32.toNatClampNeg (s.1 26)) a1).1 26)) ((sa s 221 (Int32.toNatClampNeg (s.1 26)) a1).1 7)).1 26)) (-1)).1 26)) (-1)) 226 (Int32.toNatClampNeg ((sa (sa (sa (sa s 221 (Int32.toNatClampNeg (s.1 26)) a1) 222 (Int32.toNatClampNeg ((sa s 221 (Int32.toNatClampNeg (s.1 26)) a1).1 26)) ((sa s 221 (Int32.toNatClampNeg (s.1 26)) a1).1 7)) 224 (Int32.toNatClampNeg ((sa (sa s 221 (Int32.toNatClampNeg (s.1 26)) a1) 222 (Int32.toNatClampNeg ((sa s 221 (Int32.toNatClampNeg (s.1 26)) a1).1 26)) ((sa s 221 (Int32.toNatClampNeg (s.1 26)) a1).1 7)).1 26)) (-1)) 225 (Int32.toNatClampNeg ((sa (sa (sa s 221 (Int32.toNatClampNeg (s.1 26)) a1) 222 (Int32.toNatClampNeg ((sa s 221 (Int32.toNatClampNeg (s.1 26)) a1).1 26)) ((sa s 221 (Int32.toNatClampNeg (s.1 26)) a1).1 7)) 224 (Int32.toNatClampNeg ((sa (sa s 221 (Int32.toNatClampNeg (s.1 26)) a1) 222 (Int32.toNatClampNeg ((sa s 221 (Int32.toNatClampNeg (s.1 26)) a1).1 26)) ((sa s 221 (Int32.toNatClampNeg (s.1 26)) a1).1 7)).1 26)) (-1)).1 26)) (-1)).1 26)) 0) 227 (Int32.toNatClampNeg ((sa (sa (sa (sa (sa s 221 (Int32.toNatClampNeg (s.1 26)) a1) 222 (Int32.toNatClampNeg ((sa s 221 (Int32.toNatClampNeg (s.1 26)) a1).1 26)) ((sa s 221 (Int32.toNatClampNeg (s.1 26)) a1).1 7)) 224 (Int32.toNatClampNeg ((sa (sa s 221 (Int32.toNatClampNeg (s.1 26)) a1) 222 (Int32.toNatClampNeg ((sa s 221 (Int32.toNatClampNeg (s.1 26)) a1).1 26)) ((sa s 221 (Int32.toNatClampNeg (s.1 26)) a1).1 7)).1 26)) (-1)) 225 (Int32.toNatClampNeg ((sa (sa (sa s 221 (Int32.toNatClampNeg (s.1 26)) a1) 222 (Int32.toNatClampNeg ((sa s 221 (Int32.toNatClampNeg (s.1 26)) a1).1 26)) ((sa s 221 (Int32.toNatClampNeg (s.1 26)) a1).1 7)) 224 (Int32.toNatClampNeg ((sa (sa s 221 (Int32.toNatClampNeg (s.1 26)) a1) 222 (Int32.toNatClampNeg ((sa s 221 (Int32.toNatClampNeg (s.1 26)) a1).1 26)) ((sa s 221 (Int32.toNatClampNeg (s.1 26)) a1).1 7)).1 26)) (-1)).1 26)) (-1)) 226 (Int32.toNatClampNeg ((sa (sa (sa (sa s 221 (Int32.toNatClampNeg (s.1 26)) a1) 222 (Int32.toNatClampNeg ((sa s 221 (Int32.toNatClampNeg (s.1 26)) a1).1 26)) ((sa s 221 (Int32.toNatClampNeg (s.1 26)) a1).1 7)) 224 (Int32.toNatClampNeg ((sa (sa s 221 (Int32.toNatClampNeg (s.1 26)) a1) 222 (Int32.toNatClampNeg ((sa s 221 (Int32.toNatClampNeg (s.1 26)) a1).1 26)) ((sa s 221 (Int32.toNatClampNeg (s.1 26)) a1).1 7)).1 26)) (-1)) 225 (Int32.toNatClampNeg ((sa (sa (sa s 221 (Int32.toNatClampNeg (s.1 26)) a1) 222 (Int32.toNatClampNeg ((sa s 221 (Int32.toNatClampNeg (s.1 26)) a1).1 26)) ((sa s 221 (Int32.toNatClampNeg (s.1 26)) a1).1 7)) 224 (Int32.toNatClampNeg ((sa (sa s 221 (Int32.toNatClampNeg (s.1 26)) a1) 222 (Int32.toNatClampNeg ((sa s 221 (Int32.toNatClampNeg (s.1 26)) a1).1 26)) ((sa s 221 (Int32.toNatClampNeg (s.1 26)) a1).1 7)).1 26)) (-1)).1 26)) (-1)).1 26)) 0).1 26)) (-1)) 228 (Int32.toNatClampNeg ((sa (sa (sa (sa (sa (sa s 221 (Int32.toNatClampNeg (s.1 26)) a1) 222 (Int32.toNatClampNeg ((sa s 221 (Int32.toNatClampNeg (s.1 26)) a1).1 26)) ((sa s 221 (Int32.toNatClampNeg (s.1 26)) a1).1 7)) 224 (Int32.toNatClampNeg ((sa (sa s 221 (Int32.toNatClampNeg (s.1 26)) a1) 222 (Int32.toNatClampNeg ((sa s 221 (Int32.toNatClampNeg (s.1 26)) a1).1 26)) ((sa s 221 (Int32.toNatClampNeg (s.1 26)) a1).1 7)).1 26)) (-1)) 225 (Int32.toNatClampNeg ((sa (sa (sa s 221 (Int32.toNatClampNeg (s.1 26)) a1) 222 (Int32.toNatClampNeg ((sa s 221 (Int32.toNatClampNeg (s.1 26)) a1).1 26)) ((sa s 221 (Int32.toNatClampNeg (s.1 26)) a1).1 7)) 224 (Int32.toNatClampNeg ((sa (sa s 221 (Int32.toNatClampNeg (s.1 26)) a1) 222 (Int32.toNatClampNeg ((sa s 221 (Int32.toNatClampNeg (s.1 26)) a1).1 26)) ((sa s 221 (Int32.toNatClampNeg (s.1 26)) a1).1 7)).1 26)) (-1)).1 26)) (-1)) 226 (Int32.toNatClampNeg ((sa (sa (sa (sa s 221 (Int32.toNatClampNeg (s.1 26)) a1) 222 (Int32.toNatClampNeg ((sa s 221 (Int32.toNatClampNeg (s.1 26)) a1).1 26)) ((sa s 221 (Int32.toNatClampNeg (s.1 26)) a1).1 7)) 224 (Int32.toNatClampNeg ((sa (sa s 221 (Int32.toNatClampNeg (s.1 26)) a1) 222 (Int32.toNatClampNeg ((sa s 221 (Int32.toNatClampNeg (s.1 26)) a1).1 26)) ((sa s 221 (Int32.toNatClampNeg (s.1 26)) a1).1 7)).1 26)) (-1)) 225 (Int32.toNatClampNeg ((sa (sa (sa s 221 (Int32.toNatClampNeg (s.1 26)) a1) 222 (Int32.toNatClampNeg ((sa s 221 (Int32.toNatClampNeg (s.1 26)) a1).1 26)) ((sa s 221 (Int32.toNatClampNeg (s.1 26)) a1).1 7)) 224 (Int32.toNatClampNeg ((sa (sa s 221 (Int32.toNatClampNeg (s.1 26)) a1) 222 (Int32.toNatClampNeg ((sa s 221 (Int32.toNatClampNeg (s.1 26)) a1).1 26)) ((sa s 221 (Int32.toNatClampNeg (s.1 26)) a1).1 7)).1 26)) (-1)).1 26)) (-1)).1 26)) 0) 227 (Int32.toNatClampNeg ((sa (sa (sa (sa (sa s 221 (Int32.toNatClampNeg (s.1 26)) a1) 222 (Int32.toNatClampNeg ((sa s 221 (Int32.toNatClampNeg (s.1 26)) a1).1 26)) ((sa s 221 (Int32.toNatClampNeg (s.1 26)) a1).1 7)) 224 (Int32.toNatClampNeg ((sa (sa s 221 (Int32.toNatClampNeg (s.1 26)) a1) 222 (Int32.toNatClampNeg ((sa s 221 (Int32.toNatClampNeg (s.1 26)) a1).1 26)) ((sa s 221 (Int32.toNatClampNeg (s.1 26)) a1).1 7)).1 26)) (-1)) 225 (Int32.toNatClampNeg ((sa (sa (sa s 221 (Int32.toNatClampNeg (s.1 26)) a1) 222 (Int32.toNatClampNeg ((sa s 221 (Int32.toNatClampNeg (s.1 26)) a1).1 26)) ((sa s 221 (Int32.toNatClampNeg (s.1 26)) a1).1 7)) 224 (Int32.toNatClampNeg ((sa (sa s 221 (Int32.toNatClampNeg (s.1 26)) a1) 222 (Int32.toNatClampNeg ((sa s 221 (Int32.toNatClampNeg (s.1 26)) a1).1 26)) ((sa s 221 (Int32.toNatClampNeg (s.1 26)) a1).1 7)).1 26)) (-1)).1 26)) (-1)) 226 (Int32.toNatClampNeg ((sa (sa (sa (sa s 221 (Int32.toNatClampNeg (s.1 26)) a1) 222 (Int32.toNatClampNeg ((sa s 221 (Int32.toNatClampNeg (s.1 26)) a1).1 26)) ((sa s 221 (Int32.toNatClampNeg (s.1 26)) a1).1 7)) 224 (Int32.toNatClampNeg ((sa (sa s 221 (Int32.toNatClampNeg (s.1 26)) a1) 222 (Int32.toNatClampNeg ((sa s 221 (Int32.toNatClampNeg (s.1 26)) a1).1 26)) ((sa s 221 (Int32.toNatClampNeg (s.1 26)) a1).1 7)).1 26)) (-1)) 225 (Int32.toNatClampNeg ((sa (sa (sa s 221 (Int32.toNatClampNeg (s.1 26)) a1) 222 (Int32.toNatClampNeg ((sa s 221 (Int32.toNatClampNeg (s.1 26)) a1).1 26)) ((sa s 221 (Int32.toNatClampNeg (s.1 26)) a1).1 7)) 224 (Int32.toNatClampNeg ((sa (sa s 221 (Int32.toNatClampNeg (s.1 26)) a1) 222 (Int32.toNatClampNeg ((sa s 221 (Int32.toNatClampNeg (s.1 26)) a1).1 26)) ((sa s 221 (Int32.toNatClampNeg (s.1 26)) a1).1 7)).1 26)) (-1)).1 26)) (-1)).1 26)) 0).1 26)) (-1)).1 26)) (-1)).1 26)) (-1)) 230 (Int32.toNatClampNeg ((sa (sa (sa (sa (sa (sa (sa (sa s 221 (Int32.toNatClampNeg (s.1 26)) a1) 222 (Int32.toNatClampNeg ((sa s 221 (Int32.toNatClampNeg (s.1 26)) a1).1 26)) ((sa s 221 (Int32.toNatClampNeg (s.1 26)) a1).1 7)) 224 (Int32.toNatClampNeg ((sa (sa s 221 (Int32.toNatClampNeg (s.1 26)) a1) 222 (Int32.toNatClampNeg ((sa s 221 (Int32.toNatClampNeg (s.1 26)) a1).1 26)) ((sa s 221 (Int32.toNatClampNeg (s.1 26)) a1).1 7)).1 26)) (-1)) 225 (Int32.toNatClampNeg ((sa (sa (sa s 221 (Int32.toNatClampNeg (s.1 26)) a1) 222 (Int32.toNatClampNeg ((sa s 221 (Int32.toNatClampNeg (s.1 26)) a1).1 26)) ((sa s 221 (Int32.toNatClampNeg (s.1 26)) a1).1 7)) 224 (Int32.toNatClampNeg ((sa (sa s 221 (Int32.toNatClampNeg (s.1 26)) a1) 222 (Int32.toNatClampNeg ((sa s 221 (Int32.toNatClampNeg (s.1 26)) a1).1 26)) ((sa s 221 (Int32.toNatClampNeg (s.1 26)) a1).1 7)).1 26)) (-1)).1 26)) (-1)) 226 (Int32.toNatClampNeg ((sa (sa (sa (sa s 221 (Int32.toNatClampNeg (s.1 26)) a1) 222 (Int32.toNatClampNeg ((sa s 221 (Int32.toNatClampNeg (s.1 26)) a1).1 26)) ((sa s 221 (Int32.toNatClampNeg (s.1 26)) a1).1 7)) 224 (Int32.toNatClampNeg ((sa (sa s 221 (Int32.toNatClampNeg (s.1 26)) a1) 222 (Int32.toNatClampNeg ((sa s 221 (Int32.toNatClampNeg (s.1 26)) a1).1 26)) ((sa s 221 (Int32.toNatClampNeg (s.1 26)) a1).1 7)).1 26)) (-1)) 225 (Int32.toNatClampNeg ((sa (sa (sa s 221 (Int32.toNatClampNeg (s.1 26)) a1) 222 (Int32.toNatClampNeg ((sa s 221 (Int32.toNatClampNeg (s.1 26)) a1).1 26)) ((sa s 221 (Int32.toNatClampNeg (s.1 26)) a1).1 7)) 224 (Int32.toNatClampNeg ((sa (sa s 221 (Int32.toNatClampNeg (s.1 26)) a1) 222 (Int32.toNatClampNeg ((sa s 221 (Int32.toNatClampNeg (s.1 26)) a1).1 26)) ((sa s 221 (Int32.toNatClampNeg (s.1 26)) a1).1 7)).1 26)) (-1)).1 26)) (-1)).1 26)) 0) 227 (Int32.toNatClampNeg ((sa (sa (sa (sa (sa s 221 (Int32.toNatClampNeg (s.1 26)) a1) 222 (Int32.toNatClampNeg ((sa s 221 (Int32.toNatClampNeg (s.1 26)) a1).1 26)) ((sa s 221 (Int32.toNatClampNeg (s.1 26)) a1).1 7)) 224 (Int32.toNatClampNeg ((sa (sa s 221 (Int32.toNatClampNeg (s.1 26)) a1) 222 (Int32.toNatClampNeg ((sa s 221 (Int32.toNatClampNeg (s.1 26)) a1).1 26)) ((sa s 221 (Int32.toNatClampNeg (s.1 26)) a1).1 7)).1 26)) (-1)) 225 (Int32.toNatClampNeg ((sa (sa (sa s 221 (Int32.toNatClampNeg (s.1 26)) a1) 222 (Int32.toNatClampNeg ((sa s 221 (Int32.toNatClampNeg (s.1 26)) a1).1 26)) ((sa s 221 (Int32.toNatClampNeg (s.1 26)) a1).1 7)) 224 (Int32.toNatClampNeg ((sa (sa s 221 (Int32.toNatClampNeg (s.1 26)) a1) 222 (Int32.toNatClampNeg ((sa s 221 (Int32.toNatClampNeg (s.1 26)) a1).1 26)) ((sa s 221 (Int32.toNatClampNeg (s.1 26)) a1).1 7)).1 26)) (-1)).1 26)) (-1)) 226 (Int32.toNatClampNeg ((sa (sa (sa (sa s 221 (Int32.toNatClampNeg (s.1 26)) a1) 222 (Int32.toNatClampNeg ((sa s 221 (Int32.toNatClampNeg (s.1 26)) a1).1 26)) ((sa s 221 (Int32.toNatClampNeg (s.1 26)) a1).1 7)) 224 (Int32.toNatClampNeg ((sa (sa s 221 (Int32.toNatClampNeg (s.1 26)) a1) 222 (Int32.toNatClampNeg ((sa s 221 (Int32.toNatClampNeg (s.1 26)) a1).1 26)) ((sa s 221 (Int32.toNatClampNeg (s.1 26)) a1).1 7)).1 26)) (-1)) 225 (Int32.toNatClampNeg ((sa (sa (sa s 221 (Int32.toNatClampNeg (s.1 26)) a1) 222 (Int32.toNatClampNeg ((sa s 221 (Int32.toNatClampNeg (s.1 26)) a1).1 26)) ((sa s 221 (Int32.toNatClampNeg (s.1 26)) a1).1 7)) 224 (Int32.toNatClampNeg ((sa (sa s 221 (Int32.toNatClampNeg (s.1 26)) a1) 222 (Int32.toNatClampNeg ((sa s 221 (Int32.toNatClampNeg (s.1 26)) a1).1 26)) ((sa s 221 (Int32.toNatClampNeg (s.1 26)) a1).1 7)).1 26)) (-1)).1 26)) (-1)).1 26)) 0).1 26)) (-1)) 228 (Int32.toNatClampNeg ((sa (sa (sa (sa (sa (sa s 221 (Int32.toNatClampNeg (s.1 26)) a1) 222 (Int32.toNatClampNeg ((sa s 221 (Int32.toNatClampNeg (s.1 26)) a1).1 26)) ((sa s 221 (Int32.toNatClampNeg (s.1 26)) a1).1 7)) 224 (Int32.toNatClampNeg ((sa (sa s 221 (Int32.toNatClampNeg (s.1 26)) a1) 222 (Int32.toNatClampNeg ((sa s 221 (Int32.toNatClampNeg (s.1 26)) a1).1 26)) ((sa s 221 (Int32.toNatClampNeg (s.1 26)) a1).1 7)).1 26)) (-1)) 225 (Int32.toNatClampNeg ((sa (sa (sa s 221 (Int32.toNatClampNeg (s.1 26)) a1) 222 (Int32.toNatClampNeg ((sa s 221 (Int32.toNatClampNeg (s.1 26)) a1).1 26)) ((sa s 221 (Int32.toNatClampNeg (s.1 26)) a1).1 7)) 224 (Int32.toNatClampNeg ((sa (sa s 221 (Int32.toNatClampNeg (s.1 26)) a1) 222 (Int32.toNatClampNeg ((sa s 221 (Int32.toNatClampNeg (s.1 26)) a1).1 26)) ((sa s 221 (Int32.toNatClampNeg (s.1 26)) a1).1 7)).1 26)) (-1)).1 26)) (-1)) 226 (Int32.toNatClampNeg ((sa (sa (sa (sa s 221 (Int32.toNatClampNeg (s.1 26)) a1) 222 (Int32.toNatClampNeg ((sa s 221 (Int32.toNatClampNeg (s.1 26)) a1).1 26)) ((sa s 221 (Int32.toNatClampNeg (s.1 26)) a1).1 7)) 224 (Int32.toNatClampNeg ((sa (sa s 221 (Int32.toNatClampNeg (s.1 26)) a1) 222 (Int32.toNatClampNeg ((sa s 221 (Int32.toNatClampNeg (s.1 26)) a1).1 26)) ((sa s 221 (Int32.toNatClampNeg (s.1 26)) a1).1 7)).1 26)) (-1)) 225 (Int32.toNatClampNeg ((sa (sa (sa s 221 (Int32.toNatClampNeg (s.1 26)) a1) 222 (Int32.toNatClampNeg ((sa s 221 (Int32.toNatClampNeg (s.1 26)) a1).1 26)) ((sa s 221 (Int32.toNatClampNeg (s.1 26)) a1).1 7)) 224 (Int32.toNatClampNeg ((sa (sa s 221 (Int32.toNatClampNeg (s.1 26)) a1) 222 (Int32.toNatClampNeg ((sa s 221 (Int32.toNatClampNeg (s.1 26)) a1).1 26)) ((sa s 221 (Int32.toNatClampNeg (s.1 26)) a1).1 7)).1 26)) (-1)).1 26)) (-1)).1 26)) 0) 227 (Int32.toNatClampNeg ((sa (sa (sa (sa (sa s 221 (Int32.toNatClampNeg (s.1 26)) a1) 222 (Int32.toNatClampNeg ((sa s 221 (Int32.toNatClampNeg (s.1 26)) a1).1 26)) ((sa s 221 (Int32.toNatClampNeg (s.1 26)) a1).1 7)) 224 (Int32.toNatClampNeg ((sa (sa s 221 (Int32.toNatClampNeg (s.1 26)) a1) 222 (Int32.toNatClampNeg ((sa s 221 (Int32.toNatClampNeg (s.1 26)) a1).1 26)) ((sa s 221 (Int32.toNatClampNeg (s.1 26)) a1).1 7)).1 26)) (-1)) 225 (Int32.toNatClampNeg ((sa (sa (sa s 221 (Int32.toNatClampNeg (s.1 26)) a1) 222 (Int32.toNatClampNeg ((sa s 221 (Int32.toNatClampNeg (s.1 26)) a1).1 26)) ((sa s 221 (Int32.toNatClampNeg (s.1 26)) a1).1 7)) 224 (Int32.toNatClampNeg ((sa (sa s 221 (Int32.toNatClampNeg (s.1 26)) a1) 222 (Int32.toNatClampNeg ((sa s 221 (Int32.toNatClampNeg (s.1 26)) a1).1 26)) ((sa s 221 (Int32.toNatClampNeg (s.1 26)) a1).1 7)).1 26)) (-1)).1 26)) (-1)) 226 (Int32.toNatClampNeg ((sa (sa (sa (sa s 221 (Int32.toNatClampNeg (s.1 26)) a1) 222 (Int32.toNatClampNeg ((sa s 221 (Int32.toNatClampNeg (s.1 26)) a1).1 26)) ((sa s 221 (Int32.toNatClampNeg (s.1 26)) a1).1 7)) 224 (Int32.toNatClampNeg ((sa (sa s 221 (Int32.toNatClampNeg (s.1 26)) a1) 222 (Int32.toNatClampNeg ((sa s 221 (Int32.toNatClampNeg (s.1 26)) a1).1 26)) ((sa s 221 (Int32.toNatClampNeg (s.1 26)) a1).1 7)).1 26)) (-1)) 225 (Int32.toNatClampNeg ((sa (sa (sa s 221 (Int32.toNatClampNeg (s.1 26)) a1) 222 (Int32.toNatClampNeg ((sa s 221 (Int32.toNatClampNeg (s.1 26)) a1).1 26)) ((sa s 221 (Int32.toNatClampNeg (s.1 26)) a1).1 7)) 224 (Int32.toNatClampNeg ((sa (sa s 221 (Int32.toNatClampNeg (s.1 26)) a1) 222 (Int32.toNatClampNeg ((sa s 221 (Int32.toNatClampNeg (s.1 26)) a1).1 26)) ((sa s 221 (Int32.toNatClampNeg (s.1 26)) a1).1 7)).1 26)) (-1)).1 26)) (-1)).1 26)) 0).1 26)) (-1)).1 26)) (-1)) 229 (Int32.toNatClampNeg ((sa (sa (sa (sa (sa (sa (sa s 221 (Int32.toNatClampNeg (s.1 26)) a1) 222 (Int32.toNatClampNeg ((sa s 221 (Int32.toNatClampNeg (s.1 26)) a1).1 26)) ((sa s 221 (Int32.toNatClampNeg (s.1 26)) a1).1 7)) 224 (Int32.toNatClampNeg ((sa (sa s 221 (Int32.toNatClampNeg (s.1 26)) a1) 222 (Int32.toNatClampNeg ((sa s 221 (Int32.toNatClampNeg (s.1 26)) a1).1 26)) ((sa s 221 (Int32.toNatClampNeg (s.1 26)) a1).1 7)).1 26)) (-1)) 225 (Int32.toNatClampNeg ((sa (sa (sa s 221 (Int32.toNatClampNeg (s.1 26)) a1) 222 (Int32.toNatClampNeg ((sa s 221 (Int32.toNatClampNeg (s.1 26)) a1).1 26)) ((sa s 221 (Int32.toNatClampNeg (s.1 26)) a1).1 7)) 224 (Int32.toNatClampNeg ((sa (sa s 221 (Int32.toNatClampNeg (s.1 26)) a1) 222 (Int32.toNatClampNeg ((sa s 221 (Int32.toNatClampNeg (s.1 26)) a1).1 26)) ((sa s 221 (Int32.toNatClampNeg (s.1 26)) a1).1 7)).1 26)) (-1)).1 26)) (-1)) 226 (Int32.toNatClampNeg ((sa (sa (sa (sa s 221 (Int32.toNatClampNeg (s.1 26)) a1) 222 (Int32.toNatClampNeg ((sa s 221 (Int32.toNatClampNeg (s.1 26)) a1).1 26)) ((sa s 221 (Int32.toNatClampNeg (s.1 26)) a1).1 7)) 224 (Int32.toNatClampNeg ((sa (sa s 221 (Int32.toNatClampNeg (s.1 26)) a1) 222 (Int32.toNatClampNeg ((sa s 221 (Int32.toNatClampNeg (s.1 26)) a1).1 26)) ((sa s 221 (Int32.toNatClampNeg (s.1 26)) a1).1 7)).1 26)) (-1)) 225 (Int32.toNatClampNeg ((sa (sa (sa s 221 (Int32.toNatClampNeg (s.1 26)) a1) 222 (Int32.toNatClampNeg ((sa s 221 (Int32.toNatClampNeg (s.1 26)) a1).1 26)) ((sa s 221 (Int32.toNatClampNeg (s.1 26)) a1).1 7)) 224 (Int32.toNatClampNeg ((sa (sa s 221 (Int32.toNatClampNeg (s.1 26)) a1) 222 (Int32.toNatClampNeg ((sa s 221 (Int32.toNatClampNeg (s.1 26)) a1).1 26)) ((sa s 221 (Int32.toNatClampNeg (s.1 26)) a1).1 7)).1 26)) (-1)).1 26)) (-1)).1 26)) 0) 227 (Int32.toNatClampNeg ((sa (sa (sa (sa (sa s 221 (Int32.toNatClampNeg (s.1 26)) a1) 222 (Int32.toNatClampNeg ((sa s 221 (Int32.toNatClampNeg (s.1 26)) a1).1 26)) ((sa s 221 (Int32.toNatClampNeg (s.1 26)) a1).1 7)) 224 (Int32.toNatClampNeg ((sa (sa s 221 (Int32.toNatClampNeg (s.1 26)) a1) 222 (Int32.toNatClampNeg ((sa s 221 (Int32.toNatClampNeg (s.1 26)) a1).1 26)) ((sa s 221 (Int32.toNatClampNeg (s.1 26)) a1).1 7)).1 26)) (-1)) 225 (Int32.toNatClampNeg ((sa (sa (sa s 221 (Int32.toNatClampNeg (s.1 26)) a1) 222 (Int32.toNatClampNeg ((sa s 221 (Int32.toNatClampNeg (s.1 26)) a1).1 26)) ((sa s 221 (Int32.toNatClampNeg (s.1 26)) a1).1 7)) 224 (Int32.toNatClampNeg ((sa (sa s 221 (Int32.toNatClampNeg (s.1 26)) a1) 222 (Int32.toNatClampNeg ((sa s 221 (Int32.toNatClampNeg (s.1 26)) a1).1 26)) ((sa s 221 (Int32.toNatClampNeg (s.1 26)) a1).1 7)).1 26)) (-1)).1 26)) (-1)) 226 (Int32.toNatClampNeg ((sa (sa (sa (sa s 221 (Int32.toNatClampNeg (s.1 26)) a1) 222 (Int32.toNatClampNeg ((sa s 221 (Int32.toNatClampNeg (s.1 26)) a1).1 26)) ((sa s 221 (Int32.toNatClampNeg (s.1 26)) a1).1 7)) 224 (Int32.toNatClampNeg ((sa (sa s 221 (Int32.toNatClampNeg (s.1 26)) a1) 222 (Int32.toNatClampNeg ((sa s 221 (Int32.toNatClampNeg (s.1 26)) a1).1 26)) ((sa s 221 (Int32.toNatClampNeg (s.1 26)) a1).1 7)).1 26)) (-1)) 225 (Int32.toNatClampNeg ((sa (sa (sa s 221 (Int32.toNatClampNeg (s.1 26)) a1) 222 (Int32.toNatClampNeg ((sa s 221 (Int32.toNatClampNeg (s.1 26)) a1).1 26)) ((sa s 221 (Int32.toNatClampNeg (s.1 26)) a1).1 7)) 224 (Int32.toNatClampNeg ((sa (sa s 221 (Int32.toNatClampNeg (s.1 26)) a1) 222 (Int32.toNatClampNeg ((sa s 221 (Int32.toNatClampNeg (s.1 26)) a1).1 26)) ((sa s 221 (Int32.toNatClampNeg (s.1 26)) a1).1 7)).1 26)) (-1)).1 26)) (-1)).1 26)) 0).1 26)) (-1)) 228 (Int32.toNatClampNeg ((sa (sa (sa (sa (sa (sa s 221 (Int32.toNatClampNeg (s.1 26)) a1) 222 (Int32.toNatClampNeg ((sa s 221 (Int32.toNatClampNeg (s.1 26)) a1).1 26)) ((sa s 221 (Int32.toNatClampNeg (s.1 26)) a1).1 7)) 224 (Int32.toNatClampNeg ((sa (sa s 221 (Int32.toNatClampNeg (s.1 26)) a1) 222 (Int32.toNatClampNeg ((sa s 221 (Int32.toNatClampNeg (s.1 26)) a1).1 26)) ((sa s 221 (Int32.toNatClampNeg (s.1 26)) a1).1 7)).1 26)) (-1)) 225 (Int32.toNatClampNeg ((sa (sa (sa s 221 (Int32.toNatClampNeg (s.1 26)) a1) 222 (Int32.toNatClampNeg ((sa s 221 (Int32.toNatClampNeg (s.1 26)) a1).1 26)) ((sa s 221 (Int32.toNatClampNeg (s.1 26)) a1).1 7)) 224 (Int32.toNatClampNeg ((sa (sa s 221 (Int32.toNatClampNeg (s.1 26)) a1) 222 (Int32.toNatClampNeg ((sa s 221 (Int32.toNatClampNeg (s.1 26)) a1).1 26)) ((sa s 221 (Int32.toNatClampNeg (s.1 26)) a1).1 7)).1 26)) (-1)).1 26)) (-1)) 226 (Int32.toNatClampNeg ((sa (sa (sa (sa s 221 (Int32.toNatClampNeg (s.1 26)) a1) 222 (Int32.toNatClampNeg ((sa s 221 (Int32.toNatClampNeg (s.1 26)) a1).1 26)) ((sa s 221 (Int32.toNatClampNeg (s.1 26)) a1).1 7)) 224 (Int32.toNatClampNeg ((sa (sa s 221 (Int32.toNatClampNeg (s.1 26)) a1) 222 (Int32.toNatClampNeg ((sa s 221 (Int32.toNatClampNeg (s.1 26)) a1).1 26)) ((sa s 221 (Int32.toNatClampNeg (s.1 26)) a1).1 7)).1 26)) (-1)) 225 (Int32.toNatClampNeg ((sa (sa (sa s 221 (Int32.toNatClampNeg (s.1 26)) a1) 222 (Int32.toNatClampNeg ((sa s 221 (Int32.toNatClampNeg (s.1 26)) a1).1 26)) ((sa s 221 (Int32.toNatClampNeg (s.1 26)) a1).1 7)) 224 (Int32.toNatClampNeg ((sa (sa s 221 (Int32.toNatClampNeg (s.1 26)) a1) 222 (Int32.toNatClampNeg ((sa s 221 (Int32.toNatClampNeg (s.1 26)) a1).1 26)) ((sa s 221 (Int32.toNatClampNeg (s.1 26)) a1).1 7)).1 26)) (-1)).1 26)) (-1)).1 26)) 0) 227 (Int32.toNatClampNeg ((sa (sa (sa (sa (sa s 221 (Int32.toNatClampNeg (s.1 26)) a1) 222 (Int32.toNatClampNeg ((sa s 221 (Int32.toNatClampNeg (s.1 26)) a1).1 26)) ((sa s 221 (Int32.toNatClampNeg (s.1 26)) a1).1 7)) 224 (Int32.toNatClampNeg ((sa (sa s 221 (Int32.toNatClampNeg (s.1 26)) a1) 222 (Int32.toNatClampNeg ((sa s 221 (Int32.toNatClampNeg (s.1 26)) a1).1 26)) ((sa s 221 (Int32.toNatClampNeg (s.1 26)) a1).1 7)).1 26)) (-1)) 225 (Int32.toNatClampNeg ((sa (sa (sa s 221 (Int32.toNatClampNeg (s.1 26)) a1) 222 (Int32.toNatClampNeg ((sa s 221 (Int32.toNatClampNeg (s.1 26)) a1).1 26)) ((sa s 221 (Int32.toNatClampNeg (s.1 26)) a1).1 7)) 224 (Int32.toNatClampNeg ((sa (sa s 221 (Int32.toNatClampNeg (s.1 26)) a1) 222 (Int32.toNatClampNeg ((sa s 221 (Int32.toNatClampNeg (s.1 26)) a1).1 26)) ((sa s 221 (Int32.toNatClampNeg (s.1 26)) a1).1 7)).1 26)) (-1)).1 26)) (-1)) 226 (Int32.toNatClampNeg ((sa (sa (sa (sa s 221 (Int32.toNatClampNeg (s.1 26)) a1) 222 (Int32.toNatClampNeg ((sa s 221 (Int32.toNatClampNeg (s.1 26)) a1).1 26)) ((sa s 221 (Int32.toNatClampNeg (s.1 26)) a1).1 7)) 224 (Int32.toNatClampNeg ((sa (sa s 221 (Int32.toNatClampNeg (s.1 26)) a1) 222 (Int32.toNatClampNeg ((sa s 221 (Int32.toNatClampNeg (s.1 26)) a1).1 26)) ((sa s 221 (Int32.toNatClampNeg (s.1 26)) a1).1 7)).1 26)) (-1)) 225 (Int32.toNatClampNeg ((sa (sa (sa s 221 (Int32.toNatClampNeg (s.1 26)) a1) 222 (Int32.toNatClampNeg ((sa s 221 (Int32.toNatClampNeg (s.1 26)) a1).1 26)) ((sa s 221 (Int32.toNatClampNeg (s.1 26)) a1).1 7)) 224 (Int32.toNatClampNeg ((sa (sa s 221 (Int32.toNatClampNeg (s.1 26)) a1) 222 (Int32.toNatClampNeg ((sa s 221 (Int32.toNatClampNeg (s.1 26)) a1).1 26)) ((sa s 221 (Int32.toNatClampNeg (s.1 26)) a1).1 7)).1 26)) (-1)).1 26)) (-1)).1 26)) 0).1 26)) (-1)).1 26)) (-1)).1 26)) (-1)).1 26)) 0).1 26), .ref 213] _ _
  refine g_c [.int 1, .int ((sa (sa (sa (sa (sa (sa (sa (sa (sa s 221 (Int32.toNatClampNeg (s.1 26)) a1) 222 (Int32.toNatClampNeg ((sa s 221 (Int32.toNatClampNeg (s.1 26)) a1).1 26)) ((sa s 221 (Int32.toNatClampNeg (s.1 26)) a1).1 7)) 224 (Int32.toNatClampNeg ((sa (sa s 221 (Int32.toNatClampNeg (s.1 26)) a1) 222 (Int32.toNatClampNeg ((sa s 221 (Int32.toNatClampNeg (s.1 26)) a1).1 26)) ((sa s 221 (Int32.toNatClampNeg (s.1 26)) a1).1 7)).1 26)) (-1)) 225 (Int32.toNatClampNeg ((sa (sa (sa s 221 (Int32.toNatClampNeg (s.1 26)) a1) 222 (Int32.toNatClampNeg ((sa s 221 (Int32.toNatClampNeg (s.1 26)) a1).1 26)) ((sa s 221 (Int32.toNatClampNeg (s.1 26)) a1).1 7)) 224 (Int32.toNatClampNeg ((sa (sa s 221 (Int32.toNatClampNeg (s.1 26)) a1) 222 (Int32.toNatClampNeg ((sa s 221 (Int32.toNatClampNeg (s.1 26)) a1).1 26)) ((sa s 221 (Int32.toNatClampNeg (s.1 26)) a1).1 7)).1 26)) (-1)).1 26)) (-1)) 226 (Int32.toNatClampNeg ((sa (sa (sa (sa s 221 (Int32.toNatClampNeg (s.1 26)) a1) 222 (Int32.toNatClampNeg ((sa s 221 (Int32.toNatClampNeg (s.1 26)) a1).1 26)) ((sa s 221 (Int32.toNatClampNeg (s.1 26)) a1).1 7)) 224 (Int32.toNatClampNeg ((sa (sa s 221 (Int32.toNatClampNeg (s.1 26)) a1) 222 (Int32.toNatClampNeg ((sa s 221 (Int32.toNatClampNeg (s.1 26)) a1).1 26)) ((sa s 221 (Int32.toNatClampNeg (s.1 26)) a1).1 7)).1 26)) (-1)) 225 (Int32.toNatClampNeg ((sa (sa (sa s 221 (Int32.toNatClampNeg (s.1 26)) a1) 222 (Int32.toNatClampNeg ((sa s 221 (Int32.toNatClampNeg (s.1 26)) a1).1 26)) ((sa s 221 (Int32.toNatClampNeg (s.1 26)) a1).1 7)) 224 (Int32.toNatClampNeg ((sa (sa s 221 (Int32.toNatClampNeg (s.1 26)) a1) 222 (Int32.toNatClampNeg ((sa s 221 (Int32.toNatClampNeg (s.1 26)) a1).1 26)) ((sa s 221 (Int32.toNatClampNeg (s.1 26)) a1).1 7)).1 26)) (-1)).1 26)) (-1)).1 26)) 0) 227 (Int32.toNatClampNeg ((sa (sa (sa (sa (sa s 221 (Int32.toNatClampNeg (s.1 26)) a1) 222 (Int32.toNatClampNeg ((sa s 221 (Int32.toNatClampNeg (s.1 26)) a1).1 26)) ((sa s 221 (Int32.toNatClampNeg (s.1 26)) a1).1 7)) 224 (Int32.toNatClampNeg ((sa (sa s 221 (Int32.toNatClampNeg (s.1 26)) a1) 222 (Int32.toNatClampNeg ((sa s 221 (Int32.toNatClampNeg (s.1 26)) a1).1 26)) ((sa s 221 (Int32.toNatClampNeg (s.1 26)) a1).1 7)).1 26)) (-1)) 225 (Int32.toNatClampNeg ((sa (sa (sa s 221 (Int32.toNatClampNeg (s.1 26)) a1) 222 (Int32.toNatClampNeg ((sa s 221 (Int32.toNatClampNeg (s.1 26)) a1).1 26)) ((sa s 221 (Int32.toNatClampNeg (s.1 26)) a1).1 7)) 224 (Int32.toNatClampNeg ((sa (sa s 221 (Int32.toNatClampNeg (s.1 26)) a1) 222 (Int32.toNatClampNeg ((sa s 221 (Int32.toNatClampNeg (s.1 26)) a1).1 26)) ((sa s 221 (Int32.toNatClampNeg (s.1 26)) a1).1 7)).1 26)) (-1)).1 26)) (-1)) 226 (Int32.toNatClampNeg ((sa (sa (sa (sa s 221 (Int32.toNatClampNeg (s.1 26)) a1) 222 (Int32.toNatClampNeg ((sa s 221 (Int32.toNatClampNeg (s.1 26)) a1).1 26)) ((sa s 221 (Int32.toNatClampNeg (s.1 26)) a1).1 7)) 224 (Int32.toNatClampNeg ((sa (sa s 221 (Int32.toNatClampNeg (s.1 26)) a1) 222 (Int32.toNatClampNeg ((sa s 221 (Int32.toNatClampNeg (s.1 26)) a1).1 26)) ((sa s 221 (Int32.toNatClampNeg (s.1 26)) a1).1 7)).1 26)) (-1)) 225 (Int32.toNatClampNeg ((sa (sa (sa s 221 (Int32.toNatClampNeg (s.1 26)) a1) 222 (Int32.toNatClampNeg ((sa s 221 (Int32.toNatClampNeg (s.1 26)) a1).1 26)) ((sa s 221 (Int32.toNatClampNeg (s.1 26)) a1).1 7)) 224 (Int32.toNatClampNeg ((sa (sa s 221 (Int32.toNatClampNeg (s.1 26)) a1) 222 (Int32.toNatClampNeg ((sa s 221 (Int32.toNatClampNeg (s.1 26)) a1).1 26)) ((sa s 221 (Int32.toNatClampNeg (s.1 26)) a1).1 7)).1 26)) (-1)).1 26)) (-1)).1 26)) 0).1 26)) (-1)) 228 (Int32.toNatClampNeg ((sa (sa (sa (sa (sa (sa s 221 (Int32.toNatClampNeg (s.1 26)) a1) 222 (Int32.toNatClampNeg ((sa s 221 (Int32.toNatClampNeg (s.1 26)) a1).1 26)) ((sa s 221 (Int32.toNatClampNeg (s.1 26)) a1).1 7)) 224 (Int32.toNatClampNeg ((sa (sa s 221 (Int32.toNatClampNeg (s.1 26)) a1) 222 (Int32.toNatClampNeg ((sa s 221 (Int32.toNatClampNeg (s.1 26)) a1).1 26)) ((sa s 221 (Int32.toNatClampNeg (s.1 26)) a1).1 7)).1 26)) (-1)) 225 (Int32.toNatClampNeg ((sa (sa (sa s 221 (Int32.toNatClampNeg (s.1 26)) a1) 222 (Int32.toNatClampNeg ((sa s 221 (Int32.toNatClampNeg (s.1 26)) a1).1 26)) ((sa s 221 (Int32.toNatClampNeg (s.1 26)) a1).1 7)) 224 (Int32.toNatClampNeg ((sa (sa s 221 (Int32.toNatClampNeg (s.1 26)) a1) 222 (Int32.toNatClampNeg ((sa s 221 (Int32.toNatClampNeg (s.1 26)) a1).1 26)) ((sa s 221 (Int32.toNatClampNeg (s.1 26)) a1).1 7)).1 26)) (-1)).1 26)) (-1)) 226 (Int32.toNatClampNeg ((sa (sa (sa (sa s 221 (Int32.toNatClampNeg (s.1 26)) a1) 222 (Int32.toNatClampNeg ((sa s 221 (Int32.toNatClampNeg (s.1 26)) a1).1 26)) ((sa s 221 (Int32.toNatClampNeg (s.1 26)) a1).1 7)) 224 (Int32.toNatClampNeg ((sa (sa s 221 (Int32.toNatClampNeg (s.1 26)) a1) 222 (Int32.toNatClampNeg ((sa s 221 (Int32.toNatClampNeg (s.1 26)) a1).1 26)) ((sa s 221 (Int32.toNatClampNeg (s.1 26)) a1).1 7)).1 26)) (-1)) 225 (Int32.toNatClampNeg ((sa (sa (sa s 221 (Int32.toNatClampNeg (s.1 26)) a1) 222 (Int32.toNatClampNeg ((sa s 221 (Int32.toNatClampNeg (s.1 26)) a1).1 26)) ((sa s 221 (Int32.toNatClampNeg (s.1 26)) a1).1 7)) 224 (Int32.toNatClampNeg ((sa (sa s 221 (Int32.toNatClampNeg (s.1 26)) a1) 222 (Int32.toNatClampNeg ((sa s 221 (Int32.toNatClampNeg (s.1 26)) a1).1 26)) ((sa s 221 (Int32.toNatClampNeg (s.1 26)) a1).1 7)).1 26)) (-1)).1 26)) (-1)).1 26)) 0) 227 (Int32.toNatClampNeg ((sa (sa (sa (sa (sa s 221 (Int32.toNatClampNeg (s.1 26)) a1) 222 (Int32.toNatClampNeg ((sa s 221 (Int32.toNatClampNeg (s.1 26)) a1).1 26)) ((sa s 221 (Int32.toNatClampNeg (s.1 26)) a1).1 7)) 224 (Int32.toNatClampNeg ((sa (sa s 221 (Int32.toNatClampNeg (s.1 26)) a1) 222 (Int32.toNatClampNeg ((sa s 221 (Int32.toNatClampNeg (s.1 26)) a1).1 26)) ((sa s 221 (Int32.toNatClampNeg (s.1 26)) a1).1 7)).1 26)) (-1)) 225 (Int32.toNatClampNeg ((sa (sa (sa s 221 (Int32.toNatClampNeg (s.1 26)) a1) 222 (Int32.toNatClampNeg ((sa s 221 (Int32.toNatClampNeg (s.1 26)) a1).1 26)) ((sa s 221 (Int32.toNatClampNeg (s.1 26)) a1).1 7)) 224 (Int32.toNatClampNeg ((sa (sa s 221 (Int32.toNatClampNeg (s.1 26)) a1) 222 (Int32.toNatClampNeg ((sa s 221 (Int32.toNatClampNeg (s.1 26)) a1).1 26)) ((sa s 221 (Int32.toNatClampNeg (s.1 26)) a1).1 7)).1 26)) (-1)).1 26)) (-1)) 226 (Int32.toNatClampNeg ((sa (sa (sa (sa s 221 (Int32.toNatClampNeg (s.1 26)) a1) 222 (Int32.toNatClampNeg ((sa s 221 (Int32.toNatClampNeg (s.1 26)) a1).1 26)) ((sa s 221 (Int32.toNatClampNeg (s.1 26)) a1).1 7)) 224 (Int32.toNatClampNeg ((sa (sa s 221 (Int32.toNatClampNeg (s.1 26)) a1) 222 (Int32.toNatClampNeg ((sa s 221 (Int32.toNatClampNeg (s.1 26)) a1).1 26)) ((sa s 221 (Int32.toNatClampNeg (s.1 26)) a1).1 7)).1 26)) (-1)) 225 (Int32.toNatClampNeg ((sa (sa (sa s 221 (Int32.toNatClampNeg (s.1 26)) a1) 222 (Int32.toNatClampNeg ((sa s 221 (Int32.toNatClampNeg (s.1 26)) a1).1 26)) ((sa s 221 (Int32.toNatClampNeg (s.1 26)) a1).1 7)) 224 (Int32.toNatClampNeg ((sa (sa s 221 (Int32.toNatClampNeg (s.1 26)) a1) 222 (Int32.toNatClampNeg ((sa s 221 (Int32.toNatClampNeg (s.1 26)) a1).1 26)) ((sa s 221 (Int32.toNatClampNeg (s.1 26)) a1).1 7)).1 26)) (-1)).1 26)) (-1)).1 26)) 0).1 26)) (-1)).1 26)) (-1)) 229 (Int32.toNatClampNeg ((sa (sa (sa (sa (sa (sa (sa s 221 (Int32.toNatClampNeg (s.1 26)) a1) 222 (Int32.toNatClampNeg ((sa s 221 (Int32.toNatClampNeg (s.1 26)) a1).1 26)) ((sa s 221 (Int32.toNatClampNeg (s.1 26)) a1).1 7)) 224 (Int32.toNatClampNeg ((sa (sa s 221 (Int32.toNatClampNeg (s.1 26)) a1) 222 (Int32.toNatClampNeg ((sa s 221 (Int32.toNatClampNeg (s.1 26)) a1).1 26)) ((sa s 221 (Int32.toNatClampNeg (s.1 26)) a1).1 7)).1 26)) (-1)) 225 (Int32.toNatClampNeg ((sa (sa (sa s 221 (Int32.toNatClampNeg (s.1 26)) a1) 222 (Int32.toNatClampNeg ((sa s 221 (Int32.toNatClampNeg (s.1 26)) a1).1 26)) ((sa s 221 (Int32.toNatClampNeg (s.1 26)) a1).1 7)) 224 (Int32.toNatClampNeg ((sa (sa s 221 (Int32.toNatClampNeg (s.1 26)) a1) 222 (Int32.toNatClampNeg ((sa s 221 (Int32.toNatClampNeg (s.1 26)) a1).1 26)) ((sa s 221 (Int32.toNatClampNeg (s.1 26)) a1).1 7)).1 26)) (-1)).1 26)) (-1)) 226 (Int32.toNatClampNeg ((sa (sa (sa (sa s 221 (Int32.toNatClampNeg (s.1 26)) a1) 222 (Int32.toNatClampNeg ((sa s 221 (Int32.toNatClampNeg (s.1 26)) a1).1 26)) ((sa s 221 (Int32.toNatClampNeg (s.1 26)) a1).1 7)) 224 (Int32.toNatClampNeg ((sa (sa s 221 (Int32.toNatClampNeg (s.1 26)) a1) 222 (Int32.toNatClampNeg ((sa s 221 (Int32.toNatClampNeg (s.1 26)) a1).1 26)) ((sa s 221 (Int32.toNatClampNeg (s.1 26)) a1).1 7)).1 26)) (-1)) 225 (Int32.toNatClampNeg ((sa (sa (sa s 221 (Int32.toNatClampNeg (s.1 26)) a1) 222 (Int32.toNatClampNeg ((sa s 221 (Int32.toNatClampNeg (s.1 26)) a1).1 26)) ((sa s 221 (Int32.toNatClampNeg (s.1 26)) a1).1 7)) 224 (Int32.toNatClampNeg ((sa (sa s 221 (Int32.toNatClampNeg (s.1 26)) a1) 222 (Int32.toNatClampNeg ((sa s 221 (Int32.toNatClampNeg (s.1 26)) a1).1 26)) ((sa s 221 (Int32.toNatClampNeg (s.1 26)) a1).1 7)).1 26)) (-1)).1 26)) (-1)).1 26)) 0) 227 (Int32.toNatClampNeg ((sa (sa (sa (sa (sa s 221 (Int32.toNatClampNeg (s.1 26)) a1) 222 (Int32.toNatClampNeg ((sa s 221 (Int32.toNatClampNeg (s.1 26)) a1).1 26)) ((sa s 221 (Int32.toNatClampNeg (s.1 26)) a1).1 7)) 224 (Int32.toNatClampNeg ((sa (sa s 221 (Int32.toNatClampNeg (s.1 26)) a1) 222 (Int32.toNatClampNeg ((sa s 221 (Int32.toNatClampNeg (s.1 26)) a1).1 26)) ((sa s 221 (Int32.toNatClampNeg (s.1 26)) a1).1 7)).1 26)) (-1)) 225 (Int32.toNatClampNeg ((sa (sa (sa s 221 (Int32.toNatClampNeg (s.1 26)) a1) 222 (Int32.toNatClampNeg ((sa s 221 (Int32.toNatClampNeg (s.1 26)) a1).1 26)) ((sa s 221 (Int32.toNatClampNeg (s.1 26)) a1).1 7)) 224 (Int32.toNatClampNeg ((sa (sa s 221 (Int32.toNatClampNeg (s.1 26)) a1) 222 (Int32.toNatClampNeg ((sa s 221 (Int32.toNatClampNeg (s.1 26)) a1).1 26)) ((sa s 221 (Int32.toNatClampNeg (s.1 26)) a1).1 7)).1 26)) (-1)).1 26)) (-1)) 226 (Int32.toNatClampNeg ((sa (sa (sa (sa s 221 (Int32.toNatClampNeg (s.1 26)) a1) 222 (Int32.toNatClampNeg ((sa s 221 (Int32.toNatClampNeg (s.1 26)) a1).1 26)) ((sa s 221 (Int32.toNatClampNeg (s.1 26)) a1).1 7)) 224 (Int32.toNatClampNeg ((sa (sa s 221 (Int32.toNatClampNeg (s.1 26)) a1) 222 (Int32.toNatClampNeg ((sa s 221 (Int32.toNatClampNeg (s.1 26)) a1).1 26)) ((sa s 221 (Int32.toNatClampNeg (s.1 26)) a1).1 7)).1 26)) (-1)) 225 (Int32.toNatClampNeg ((sa (sa (sa s 221 (Int32.toNatClampNeg (s.1 26)) a1) 222 (Int32.toNatClampNeg ((sa s 221 (Int32.toNatClampNeg (s.1 26)) a1).1 26)) ((sa s 221 (Int32.toNatClampNeg (s.1 26)) a1).1 7)) 224 (Int32.toNatClampNeg ((sa (sa s 221 (Int32.toNatClampNeg (s.1 26)) a1) 222 (Int32.toNatClampNeg ((sa s 221 (Int32.toNatClampNeg (s.1 26)) a1).1 26)) ((sa s 221 (Int32.toNatClampNeg (s.1 26)) a1).1 7)).1 26)) (-1)).1 26)) (-1)).1 26)) 0).1 26)) (-1)) 228 (Int32.toNatClampNeg ((sa (sa (sa (sa (sa (sa s 221 (Int32.toNatClampNeg (s.1 26)) a1) 222 (Int32.toNatClampNeg ((sa s 221 (Int32.toNatClampNeg (s.1 26)) a1).1 26)) ((sa s 221 (Int32.toNatClampNeg (s.1 26)) a1).1 7)) 224 (Int32.toNatClampNeg ((sa (sa s 221 (Int32.toNatClampNeg (s.1 26)) a1) 222 (Int32.toNatClampNeg ((sa s 221 (Int32.toNatClampNeg (s.1 26)) a1).1 26)) ((sa s 221 (Int32.toNatClampNeg (s.1 26)) a1).1 7)).1 26)) (-1)) 225 (Int32.toNatClampNeg ((sa (sa (sa s 221 (Int32.toNatClampNeg (s.1 26)) a1) 222 (Int32.toNatClampNeg ((sa s 221 (Int32.toNatClampNeg (s.1 26)) a1).1 26)) ((sa s 221 (Int32.toNatClampNeg (s.1 26)) a1).1 7)) 224 (Int32.toNatClampNeg ((sa (sa s 221 (Int32.toNatClampNeg (s.1 26)) a1) 222 (Int32.toNatClampNeg ((sa s 221 (Int32.toNatClampNeg (s.1 26)) a1).1 26)) ((sa s 221 (Int32.toNatClampNeg (s.1 26)) a1).1 7)).1 26)) (-1)).1 26)) (-1)) 226 (Int32.toNatClampNeg ((sa (sa (sa (sa s 221 (Int32.toNatClampNeg (s.1 26)) a1) 222 (Int32.toNatClampNeg ((sa s 221 (Int32.toNatClampNeg (s.1 26)) a1).1 26)) ((sa s 221 (Int32.toNatClampNeg (s.1 26)) a1).1 7)) 224 (Int32.toNatClampNeg ((sa (sa s 221 (Int32.toNatClampNeg (s.1 26)) a1) 222 (Int32.toNatClampNeg ((sa s 221 (Int32.toNatClampNeg (s.1 26)) a1).1 26)) ((sa s 221 (Int32.toNatClampNeg (s.1 26)) a1).1 7)).1 26)) (-1)) 225 (Int32.toNatClampNeg ((sa (sa (sa s 221 (Int32.toNatClampNeg (s.1 26)) a1) 222 (Int32.toNatClampNeg ((sa s 221 (Int32.toNatClampNeg (s.1 26)) a1).1 26)) ((sa s 221 (Int32.toNatClampNeg (s.1 26)) a1).1 7)) 224 (Int32.toNatClampNeg ((sa (sa s 221 (Int32.toNatClampNeg (s.1 26)) a1) 222 (Int32.toNatClampNeg ((sa s 221 (Int32.toNatClampNeg (s.1 26)) a1).1 26)) ((sa s 221 (Int32.toNatClampNeg (s.1 26)) a1).1 7)).1 26)) (-1)).1 26)) (-1)).1 26)) 0) 227 (Int32.toNatClampNeg ((sa (sa (sa (sa (sa s 221 (Int32.toNatClampNeg (s.1 26)) a1) 222 (Int32.toNatClampNeg ((sa s 221 (Int32.toNatClampNeg (s.1 26)) a1).1 26)) ((sa s 221 (Int32.toNatClampNeg (s.1 26)) a1).1 7)) 224 (Int32.toNatClampNeg ((sa (sa s 221 (Int32.toNatClampNeg (s.1 26)) a1) 222 (Int32.toNatClampNeg ((sa s 221 (Int32.toNatClampNeg (s.1 26)) a1).1 26)) ((sa s 221 (Int32.toNatClampNeg (s.1 26)) a1).1 7)).1 26)) (-1)) 225 (Int32.toNatClampNeg ((sa (sa (sa s 221 (Int32.toNatClampNeg (s.1 26)) a1) 222 (Int32.toNatClampNeg ((sa s 221 (Int32.toNatClampNeg (s.1 26)) a1).1 26)) ((sa s 221 (Int32.toNatClampNeg (s.1 26)) a1).1 7)) 224 (Int32.toNatClampNeg ((sa (sa s 221 (Int32.toNatClampNeg (s.1 26)) a1) 222 (Int32.toNatClampNeg ((sa s 221 (Int32.toNatClampNeg (s.1 26)) a1).1 26)) ((sa s 221 (Int32.toNatClampNeg (s.1 26)) a1).1 7)).1 26)) (-1)).1 26)) (-1)) 226 (Int32.toNatClampNeg ((sa (sa (sa (sa s 221 (Int32.toNatClampNeg (s.1 26)) a1) 222 (Int32.toNatClampNeg ((sa s 221 (Int32.toNatClampNeg (s.1 26)) a1).1 26)) ((sa s 221 (Int32.toNatClampNeg (s.1 26)) a1).1 7)) 224 (Int32.toNatClampNeg ((sa (sa s 221 (Int32.toNatClampNeg (s.1 26)) a1) 222 (Int32.toNatClampNeg ((sa s 221 (Int32.toNatClampNeg (s.1 26)) a1).1 26)) ((sa s 221 (Int32.toNatClampNeg (s.1 26)) a1).1 7)).1 26)) (-1)) 225 (Int32.toNatClampNeg ((sa (sa (sa s 221 (Int32.toNatClampNeg (s.1 26)) a1) 222 (Int32.toNatClampNeg ((sa s 221 (Int32.toNatClampNeg (s.1 26)) a1).1 26)) ((sa s 221 (Int32.toNatClampNeg (s.1 26)) a1).1 7)) 224 (Int32.toNatClampNeg ((sa (sa s 221 (Int32.toNatClampNeg (s.1 26)) a1) 222 (Int32.toNatClampNeg ((sa s 221 (Int32.toNatClampNeg (s.1 26)) a1).1 26)) ((sa s 221 (Int32.toNatClampNeg (s.1 26)) a1).1 7)).1 26)) (-1)).1 26)) (-1)).1 26)) 0).1 26)) (-1)).1 26)) (-1)).1 26)) (-1)) 230 (Int32.toNatClampNeg ((sa (sa (sa (sa (sa (sa (sa (sa s 221 (Int32.toNatClampNeg (s.1 26)) a1) 222 (Int32.toNatClampNeg ((sa s 221 (Int32.toNatClampNeg (s.1 26)) a1).1 26)) ((sa s 221 (Int32.toNatClampNeg (s.1 26)) a1).1 7)) 224 (Int32.toNatClampNeg ((sa (sa s 221 (Int32.toNatClampNeg (s.1 26)) a1) 222 (Int32.toNatClampNeg ((sa s 221 (Int32.toNatClampNeg (s.1 26)) a1).1 26)) ((sa s 221 (Int32.toNatClampNeg (s.1 26)) a1).1 7)).1 26)) (-1)) 225 (Int32.toNatClampNeg ((sa (sa (sa s 221 (Int32.toNatClampNeg (s.1 26)) a1) 222 (Int32.toNatClampNeg ((sa s 221 (Int32.toNatClampNeg (s.1 26)) a1).1 26)) ((sa s 221 (Int32.toNatClampNeg (s.1 26)) a1).1 7)) 224 (Int32.toNatClampNeg ((sa (sa s 221 (Int32.toNatClampNeg (s.1 26)) a1) 222 (Int32.toNatClampNeg ((sa s 221 (Int32.toNatClampNeg (s.1 26)) a1).1 26)) ((sa s 221 (Int32.toNatClampNeg (s.1 26)) a1).1 7)).1 26)) (-1)).1 26)) (-1)) 226 (Int32.toNatClampNeg ((sa (sa (sa (sa s 221 (Int32.toNatClampNeg (s.1 26)) a1) 222 (Int32.toNatClampNeg ((sa s 221 (Int32.toNatClampNeg (s.1 26)) a1).1 26)) ((sa s 221 (Int32.toNatClampNeg (s.1 26)) a1).1 7)) 224 (Int32.toNatClampNeg ((sa (sa s 221 (Int32.toNatClampNeg (s.1 26)) a1) 222 (Int32.toNatClampNeg ((sa s 221 (Int32.toNatClampNeg (s.1 26)) a1).1 26)) ((sa s 221 (Int32.toNatClampNeg (s.1 26)) a1).1 7)).1 26)) (-1)) 225 (Int32.toNatClampNeg ((sa (sa (sa s 221 (Int32.toNatClampNeg (s.1 26)) a1) 222 (Int32.toNatClampNeg ((sa s 221 (Int32.toNatClampNeg (s.1 26)) a1).1 26)) ((sa s 221 (Int32.toNatClampNeg (s.1 26)) a1).1 7)) 224 (Int32.toNatClampNeg ((sa (sa s 221 (Int32.toNatClampNeg (s.1 26)) a1) 222 (Int32.toNatClampNeg ((sa s 221 (Int32.toNatClampNeg (s.1 26)) a1).1 26)) ((sa s 221 (Int32.toNatClampNeg (s.1 26)) a1).1 7)).1 26)) (-1)).1 26)) (-1)).1 26)) 0) 227 (Int32.toNatClampNeg ((sa (sa (sa (sa (sa s 221 (Int32.toNatClampNeg (s.1 26)) a1) 222 (Int32.toNatClampNeg ((sa s 221 (Int32.toNatClampNeg (s.1 26)) a1).1 26)) ((sa s 221 (Int32.toNatClampNeg (s.1 26)) a1).1 7)) 224 (Int32.toNatClampNeg ((sa (sa s 221 (Int32.toNatClampNeg (s.1 26)) a1) 222 (Int32.toNatClampNeg ((sa s 221 (Int32.toNatClampNeg (s.1 26)) a1).1 26)) ((sa s 221 (Int32.toNatClampNeg (s.1 26)) a1).1 7)).1 26)) (-1)) 225 (Int32.toNatClampNeg ((sa (sa (sa s 221 (Int32.toNatClampNeg (s.1 26)) a1) 222 (Int32.toNatClampNeg ((sa s 221 (Int32.toNatClampNeg (s.1 26)) a1).1 26)) ((sa s 221 (Int32.toNatClampNeg (s.1 26)) a1).1 7)) 224 (Int32.toNatClampNeg ((sa (sa s 221 (Int32.toNatClampNeg (s.1 26)) a1) 222 (Int32.toNatClampNeg ((sa s 221 (Int32.toNatClampNeg (s.1 26)) a1).1 26)) ((sa s 221 (Int32.toNatClampNeg (s.1 26)) a1).1 7)).1 26)) (-1)).1 26)) (-1)) 226 (Int32.toNatClampNeg ((sa (sa (sa (sa s 221 (Int32.toNatClampNeg (s.1 26)) a1) 222 (Int32.toNatClampNeg ((sa s 221 (Int32.toNatClampNeg (s.1 26)) a1).1 26)) ((sa s 221 (Int32.toNatClampNeg (s.1 26)) a1).1 7)) 224 (Int32.toNatClampNeg ((sa (sa s 221 (Int32.toNatClampNeg (s.1 26)) a1) 222 (Int32.toNatClampNeg ((sa s 221 (Int32.toNatClampNeg (s.1 26)) a1).1 26)) ((sa s 221 (Int32.toNatClampNeg (s.1 26)) a1).1 7)).1 26)) (-1)) 225 (Int32.toNatClampNeg ((sa (sa (sa s 221 (Int32.toNatClampNeg (s.1 26)) a1) 222 (Int32.toNatClampNeg ((sa s 221 (Int32.toNatClampNeg (s.1 26)) a1).1 26)) ((sa s 221 (Int32.toNatClampNeg (s.1 26)) a1).1 7)) 224 (Int32.toNatClampNeg ((sa (sa s 221 (Int32.toNatClampNeg (s.1 26)) a1) 222 (Int32.toNatClampNeg ((sa s 221 (Int32.toNatClampNeg (s.1 26)) a1).1 26)) ((sa s 221 (Int32.toNatClampNeg (s.1 26)) a1).1 7)).1 26)) (-1)).1 26)) (-1)).1 26)) 0).1 26)) (-1)) 228 (Int32.toNatClampNeg ((sa (sa (sa (sa (sa (sa s 221 (Int32.toNatClampNeg (s.1 26)) a1) 222 (Int32.toNatClampNeg ((sa s 221 (Int32.toNatClampNeg (s.1 26)) a1).1 26)) ((sa s 221 (Int32.toNatClampNeg (s.1 26)) a1).1 7)) 224 (Int32.toNatClampNeg ((sa (sa s 221 (Int32.toNatClampNeg (s.1 26)) a1) 222 (Int32.toNatClampNeg ((sa s 221 (Int32.toNatClampNeg (s.1 26)) a1).1 26)) ((sa s 221 (Int32.toNatClampNeg (s.1 26)) a1).1 7)).1 26)) (-1)) 225 (Int32.toNatClampNeg ((sa (sa (sa s 221 (Int32.toNatClampNeg (s.1 26)) a1) 222 (Int32.toNatClampNeg ((sa s 221 (Int32.toNatClampNeg (s.1 26)) a1).1 26)) ((sa s 221 (Int32.toNatClampNeg (s.1 26)) a1).1 7)) 224 (Int32.toNatClampNeg ((sa (sa s 221 (Int32.toNatClampNeg (s.1 26)) a1) 222 (Int32.toNatClampNeg ((sa s 221 (Int32.toNatClampNeg (s.1 26)) a1).1 26)) ((sa s 221 (Int32.toNatClampNeg (s.1 26)) a1).1 7)).1 26)) (-1)).1 26)) (-1)) 226 (Int32.toNatClampNeg ((sa (sa (sa (sa s 221 (Int32.toNatClampNeg (s.1 26)) a1) 222 (Int32.toNatClampNeg ((sa s 221 (Int32.toNatClampNeg (s.1 26)) a1).1 26)) ((sa s 221 (Int32.toNatClampNeg (s.1 26)) a1).1 7)) 224 (Int32.toNatClampNeg ((sa (sa s 221 (Int32.toNatClampNeg (s.1 26)) a1) 222 (Int32.toNatClampNeg ((sa s 221 (Int32.toNatClampNeg (s.1 26)) a1).1 26)) ((sa s 221 (Int32.toNatClampNeg (s.1 26)) a1).1 7)).1 26)) (-1)) 225 (Int32.toNatClampNeg ((sa (sa (sa s 221 (Int32.toNatClampNeg (s.1 26)) a1) 222 (Int32.toNatClampNeg ((sa s 221 (Int32.toNatClampNeg (s.1 26)) a1).1 26)) ((sa s 221 (Int32.toNatClampNeg (s.1 26)) a1).1 7)) 224 (Int32.toNatClampNeg ((sa (sa s 221 (Int32.toNatClampNeg (s.1 26)) a1) 222 (Int32.toNatClampNeg ((sa s 221 (Int32.toNatClampNeg (s.1 26)) a1).1 26)) ((sa s 221 (Int32.toNatClampNeg (s.1 26)) a1).1 7)).1 26)) (-1)).1 26)) (-1)).1 26)) 0) 227 (Int32.toNatClampNeg ((sa (sa (sa (sa (sa s 221 (Int32.toNatClampNeg (s.1 26)) a1) 222 (Int32.toNatClampNeg ((sa s 221 (Int32.toNatClampNeg (s.1 26)) a1).1 26)) ((sa s 221 (Int32.toNatClampNeg (s.1 26)) a1).1 7)) 224 (Int32.toNatClampNeg ((sa (sa s 221 (Int32.toNatClampNeg (s.1 26)) a1) 222 (Int32.toNatClampNeg ((sa s 221 (Int32.toNatClampNeg (s.1 26)) a1).1 26)) ((sa s 221 (Int32.toNatClampNeg (s.1 26)) a1).1 7)).1 26)) (-1)) 225 (Int32.toNatClampNeg ((sa (sa (sa s 221 (Int32.toNatClampNeg (s.1 26)) a1) 222 (Int32.toNatClampNeg ((sa s 221 (Int32.toNatClampNeg (s.1 26)) a1).1 26)) ((sa s 221 (Int32.toNatClampNeg (s.1 26)) a1).1 7)) 224 (Int32.toNatClampNeg ((sa (sa s 221 (Int32.toNatClampNeg (s.1 26)) a1) 222 (Int32.toNatClampNeg ((sa s 221 (Int32.toNatClampNeg (s.1 26)) a1).1 26)) ((sa s 221 (Int32.toNatClampNeg (s.1 26)) a1).1 7)).1 26)) (-1)).1 26)) (-1)) 226 (Int32.toNatClampNeg ((sa (sa (sa (sa s 221 (Int32.toNatClampNeg (s.1 26)) a1) 222 (Int32.toNatClampNeg ((sa s 221 (Int32.toNatClampNeg (s.1 26)) a1).1 26)) ((sa s 221 (Int32.toNatClampNeg (s.1 26)) a1).1 7)) 224 (Int32.toNatClampNeg ((sa (sa s 221 (Int32.toNatClampNeg (s.1 26)) a1) 222 (Int32.toNatClampNeg ((sa s 221 (Int32.toNatClampNeg (s.1 26)) a1).1 26)) ((sa s 221 (Int32.toNatClampNeg (s.1 26)) a1).1 7)).1 26)) (-1)) 225 (Int32.toNatClampNeg ((sa (sa (sa s 221 (Int32.toNatClampNeg (s.1 26)) a1) 222 (Int32.toNatClampNeg ((sa s 221 (Int32.toNatClampNeg (s.1 26)) a1).1 26)) ((sa s 221 (Int32.toNatClampNeg (s.1 26)) a1).1 7)) 224 (Int32.toNatClampNeg ((sa (sa s 221 (Int32.toNatClampNeg (s.1 26)) a1) 222 (Int32.toNatClampNeg ((sa s 221 (Int32.toNatClampNeg (s.1 26)) a1).1 26)) ((sa s 221 (Int32.toNatClampNeg (s.1 26)) a1).1 7)).1 26)) (-1)).1 26)) (-1)).1 26)) 0).1 26)) (-1)).1 26)) (-1)) 229 (Int32.toNatClampNeg ((sa (sa (sa (sa (sa (sa (sa s 221 (Int32.toNatClampNeg (s.1 26)) a1) 222 (Int32.toNatClampNeg ((sa s 221 (Int32.toNatClampNeg (s.1 26)) a1).1 26)) ((sa s 221 (Int32.toNatClampNeg (s.1 26)) a1).1 7)) 224 (Int32.toNatClampNeg ((sa (sa s 221 (Int32.toNatClampNeg (s.1 26)) a1) 222 (Int32.toNatClampNeg ((sa s 221 (Int32.toNatClampNeg (s.1 26)) a1).1 26)) ((sa s 221 (Int32.toNatClampNeg (s.1 26)) a1).1 7)).1 26)) (-1)) 225 (Int32.toNatClampNeg ((sa (sa (sa s 221 (Int32.toNatClampNeg (s.1 26)) a1) 222 (Int32.toNatClampNeg ((sa s 221 (Int32.toNatClampNeg (s.1 26)) a1).1 26)) ((sa s 221 (Int32.toNatClampNeg (s.1 26)) a1).1 7)) 224 (Int32.toNatClampNeg ((sa (sa s 221 (Int32.toNatClampNeg (s.1 26)) a1) 222 (Int32.toNatClampNeg ((sa s 221 (Int32.toNatClampNeg (s.1 26)) a1).1 26)) ((sa s 221 (Int32.toNatClampNeg (s.1 26)) a1).1 7)).1 26)) (-1)).1 26)) (-1)) 226 (Int32.toNatClampNeg ((sa (sa (sa (sa s 221 (Int32.toNatClampNeg (s.1 26)) a1) 222 (Int32.toNatClampNeg ((sa s 221 (Int32.toNatClampNeg (s.1 26)) a1).1 26)) ((sa s 221 (Int32.toNatClampNeg (s.1 26)) a1).1 7)) 224 (Int32.toNatClampNeg ((sa (sa s 221 (Int32.toNatClampNeg (s.1 26)) a1) 222 (Int32.toNatClampNeg ((sa s 221 (Int32.toNatClampNeg (s.1 26)) a1).1 26)) ((sa s 221 (Int32.toNatClampNeg (s.1 26)) a1).1 7)).1 26)) (-1)) 225 (Int32.toNatClampNeg ((sa (sa (sa s 221 (Int32.toNatClampNeg (s.1 26)) a1) 222 (Int32.toNatClampNeg ((sa s 221 (Int32.toNatClampNeg (s.1 26)) a1).1 26)) ((sa s 221 (Int32.toNatClampNeg (s.1 26)) a1).1 7)) 224 (Int32.toNatClampNeg ((sa (sa s 221 (Int32.toNatClampNeg (s.1 26)) a1) 222 (Int32.toNatClampNeg ((sa s 221 (Int32.toNatClampNeg (s.1 26)) a1).1 26)) ((sa s 221 (Int32.toNatClampNeg (s.1 26)) a1).1 7)).1 26)) (-1)).1 26)) (-1)).1 26)) 0) 227 (Int32.toNatClampNeg ((sa (sa (sa (sa (sa s 221 (Int32.toNatClampNeg (s.1 26)) a1) 222 (Int32.toNatClampNeg ((sa s 221 (Int32.toNatClampNeg (s.1 26)) a1).1 26)) ((sa s 221 (Int32.toNatClampNeg (s.1 26)) a1).1 7)) 224 (Int32.toNatClampNeg ((sa (sa s 221 (Int32.toNatClampNeg (s.1 26)) a1) 222 (Int32.toNatClampNeg ((sa s 221 (Int32.toNatClampNeg (s.1 26)) a1).1 26)) ((sa s 221 (Int32.toNatClampNeg (s.1 26)) a1).1 7)).1 26)) (-1)) 225 (Int32.toNatClampNeg ((sa (sa (sa s 221 (Int32.toNatClampNeg (s.1 26)) a1) 222 (Int32.toNatClampNeg ((sa s 221 (Int32.toNatClampNeg (s.1 26)) a1).1 26)) ((sa s 221 (Int32.toNatClampNeg (s.1 26)) a1).1 7)) 224 (Int32.toNatClampNeg ((sa (sa s 221 (Int32.toNatClampNeg (s.1 26)) a1) 222 (Int32.toNatClampNeg ((sa s 221 (Int32.toNatClampNeg (s.1 26)) a1).1 26)) ((sa s 221 (Int32.toNatClampNeg (s.1 26)) a1).1 7)).1 26)) (-1)).1 26)) (-1)) 226 (Int32.toNatClampNeg ((sa (sa (sa (sa s 221 (Int32.toNatClampNeg (s.1 26)) a1) 222 (Int32.toNatClampNeg ((sa s 221 (Int32.toNatClampNeg (s.1 26)) a1).1 26)) ((sa s 221 (Int32.toNatClampNeg (s.1 26)) a1).1 7)) 224 (Int32.toNatClampNeg ((sa (sa s 221 (Int32.toNatClampNeg (s.1 26)) a1) 222 (Int32.toNatClampNeg ((sa s 221 (Int32.toNatClampNeg (s.1 26)) a1).1 26)) ((sa s 221 (Int32.toNatClampNeg (s.1 26)) a1).1 7)).1 26)) (-1)) 225 (Int32.toNatClampNeg ((sa (sa (sa s 221 (Int32.toNatClampNeg (s.1 26)) a1) 222 (Int32.toNatClampNeg ((sa s 221 (Int32.toNatClampNeg (s.1 26)) a1).1 26)) ((sa s 221 (Int32.toNatClampNeg (s.1 26)) a1).1 7)) 224 (Int32.toNatClampNeg ((sa (sa s 221 (Int32.toNatClampNeg (s.1 26)) a1) 222 (Int32.toNatClampNeg ((sa s 221 (Int32.toNatClampNeg (s.1 26)) a1).1 26)) ((sa s 221 (Int32.toNatClampNeg (s.1 26)) a1).1 7)).1 26)) (-1)).1 26)) (-1)).1 26)) 0).1 26)) (-1)) 228 (Int32.toNatClampNeg ((sa (sa (sa (sa (sa (sa s 221 (Int32.toNatClampNeg (s.1 26)) a1) 222 (Int32.toNatClampNeg ((sa s 221 (Int32.toNatClampNeg (s.1 26)) a1).1 26)) ((sa s 221 (Int32.toNatClampNeg (s.1 26)) a1).1 7)) 224 (Int32.toNatClampNeg ((sa (sa s 221 (Int32.toNatClampNeg (s.1 26)) a1) 222 (Int32.toNatClampNeg ((sa s 221 (Int32.toNatClampNeg (s.1 26)) a1).1 26)) ((sa s 221 (Int32.toNatClampNeg (s.1 26)) a1).1 7)).1 26)) (-1)) 225 (Int32.toNatClampNeg ((sa (sa (sa s 221 (Int32.toNatClampNeg (s.1 26)) a1) 222 (Int32.toNatClampNeg ((sa s 221 (Int32.toNatClampNeg (s.1 26)) a1).1 26)) ((sa s 221 (Int32.toNatClampNeg (s.1 26)) a1).1 7)) 224 (Int32.toNatClampNeg ((sa (sa s 221 (Int32.toNatClampNeg (s.1 26)) a1) 222 (Int32.toNatClampNeg ((sa s 221 (Int32.toNatClampNeg (s.1 26)) a1).1 26)) ((sa s 221 (Int32.toNatClampNeg (s.1 26)) a1).1 7)).1 26)) (-1)).1 26)) (-1)) 226 (Int32.toNatClampNeg ((sa (sa (sa (sa s 221 (Int32.toNatClampNeg (s.1 26)) a1) 222 (Int32.toNatClampNeg ((sa s 221 (Int32.toNatClampNeg (s.1 26)) a1).1 26)) ((sa s 221 (Int32.toNatClampNeg (s.1 26)) a1).1 7)) 224 (Int32.toNatClampNeg ((sa (sa s 221 (Int32.toNatClampNeg (s.1 26)) a1) 222 (Int32.toNatClampNeg ((sa s 221 (Int32.toNatClampNeg (s.1 26)) a1).1 26)) ((sa s 221 (Int32.toNatClampNeg (s.1 26)) a1).1 7)).1 26)) (-1)) 225 (Int32.toNatClampNeg ((sa (sa (sa s 221 (Int32.toNatClampNeg (s.1 26)) a1) 222 (Int32.toNatClampNeg ((sa s 221 (Int32.toNatClampNeg (s.1 26)) a1).1 26)) ((sa s 221 (Int32.toNatClampNeg (s.1 26)) a1).1 7)) 224 (Int32.toNatClampNeg ((sa (sa s 221 (Int32.toNatClampNeg (s.1 26)) a1) 222 (Int32.toNatClampNeg ((sa s 221 (Int32.toNatClampNeg (s.1 26)) a1).1 26)) ((sa s 221 (Int32.toNatClampNeg (s.1 26)) a1).1 7)).1 26)) (-1)).1 26)) (-1)).1 26)) 0) 227 (Int32.toNatClampNeg ((sa (sa (sa (sa (sa s 221 (Int32.toNatClampNeg (s.1 26)) a1) 222 (Int32.toNatClampNeg ((sa s 221 (Int32.toNatClampNeg (s.1 26)) a1).1 26)) ((sa s 221 (Int32.toNatClampNeg (s.1 26)) a1).1 7)) 224 (Int32.toNatClampNeg ((sa (sa s 221 (Int32.toNatClampNeg (s.1 26)) a1) 222 (Int32.toNatClampNeg ((sa s 221 (Int32.toNatClampNeg (s.1 26)) a1).1 26)) ((sa s 221 (Int32.toNatClampNeg (s.1 26)) a1).1 7)).1 26)) (-1)) 225 (Int32.toNatClampNeg ((sa (sa (sa s 221 (Int32.toNatClampNeg (s.1 26)) a1) 222 (Int32.toNatClampNeg ((sa s 221 (Int32.toNatClampNeg (s.1 26)) a1).1 26)) ((sa s 221 (Int32.toNatClampNeg (s.1 26)) a1).1 7)) 224 (Int32.toNatClampNeg ((sa (sa s 221 (Int32.toNatClampNeg (s.1 26)) a1) 222 (Int32.toNatClampNeg ((sa s 221 (Int32.toNatClampNeg (s.1 26)) a1).1 26)) ((sa s 221 (Int32.toNatClampNeg (s.1 26)) a1).1 7)).1 26)) (-1)).1 26)) (-1)) 226 (Int32.toNatClampNeg ((sa (sa (sa (sa s 221 (Int32.toNatClampNeg (s.1 26)) a1) 222 (Int32.toNatClampNeg ((sa s 221 (Int32.toNatClampNeg (s.1 26)) a1).1 26)) ((sa s 221 (Int32.toNatClampNeg (s.1 26)) a1).1 7)) 224 (Int32.toNatClampNeg ((sa (sa s 221 (Int32.toNatClampNeg (s.1 26)) a1) 222 (Int32.toNatClampNeg ((sa s 221 (Int32.toNatClampNeg (s.1 26)) a1).1 26)) ((sa s 221 (Int32.toNatClampNeg (s.1 26)) a1).1 7)).1 26)) (-1)) 225 (Int32.toNatClampNeg ((sa (sa (sa s 221 (Int32.toNatClampNeg (s.1 26)) a1) 222 (Int32.toNatClampNeg ((sa s 221 (Int32.toNatClampNeg (s.1 26)) a1).1 26)) ((sa s 221 (Int32.toNatClampNeg (s.1 26)) a1).1 7)) 224 (Int32.toNatClampNeg ((sa (sa s 221 (Int32.toNatClampNeg (s.1 26)) a1) 222 (Int32.toNatClampNeg ((sa s 221 (Int32.toNatClampNeg (s.1 26)) a1).1 26)) ((sa s 221 (Int32.toNatClampNeg (s.1 26)) a1).1 7)).1 26)) (-1)).1 26)) (-1)).1 26)) 0).1 26)) (-1)).1 26)) (-1)).1 26)) (-1)).1 26)) 0).1 26), .ref 213] (xo_push (.int 1)) rfl rfl ?_
  refine g_c [.int (((sa (sa (sa (sa (sa (sa (sa (sa (sa s 221 (Int32.toNatClampNeg (s.1 26)) a1) 222 (Int32.toNatClampNeg ((sa s 221 (Int32.toNatClampNeg (s.1 26)) a1).1 26)) ((sa s 221 (Int32.toNatClampNeg (s.1 26)) a1).1 7)) 224 (Int32.toNatClampNeg ((sa (sa s 221 (Int32.toNatClampNeg (s.1 26)) a1) 222 (Int32.toNatClampNeg ((sa s 221 (Int32.toNatClampNeg (s.1 26)) a1).1 26)) ((sa s 221 (Int32.toNatClampNeg (s.1 26)) a1).1 7)).1 26)) (-1)) 225 (Int32.toNatClampNeg ((sa (sa (sa s 221 (Int32.toNatClampNeg (s.1 26)) a1) 222 (Int32.toNatClampNeg ((sa s 221 (Int32.toNatClampNeg (s.1 26)) a1).1 26)) ((sa s 221 (Int32.toNatClampNeg (s.1 26)) a1).1 7)) 224 (Int32.toNatClampNeg ((sa (sa s 221 (Int32.toNatClampNeg (s.1 26)) a1) 222 (Int32.toNatClampNeg ((sa s 221 (Int32.toNatClampNeg (s.1 26)) a1).1 26)) ((sa s 221 (Int32.toNatClampNeg (s.1 26)) a1).1 7)).1 26)) (-1)).1 26)) (-1)) 226 (Int32.toNatClampNeg ((sa (sa (sa (sa s 221 (Int32.toNatClampNeg (s.1 26)) a1) 222 (Int32.toNatClampNeg ((sa s 221 (Int32.toNatClampNeg (s.1 26)) a1).1 26)) ((sa s 221 (Int32.toNatClampNeg (s.1 26)) a1).1 7)) 224 (Int32.toNatClampNeg ((sa (sa s 221 (Int32.toNatClampNeg (s.1 26)) a1) 222 (Int32.toNatClampNeg ((sa s 221 (Int32.toNatClampNeg (s.1 26)) a1).1 26)) ((sa s 221 (Int32.toNatClampNeg (s.1 26)) a1).1 7)).1 26)) (-1)) 225 (Int32.toNatClampNeg ((sa (sa (sa s 221 (Int32.toNatClampNeg (s.1 26)) a1) 222 (Int32.toNatClampNeg ((sa s 221 (Int32.toNatClampNeg (s.1 26)) a1).1 26)) ((sa s 221 (Int32.toNatClampNeg (s.1 26)) a1).1 7)) 224 (Int32.toNatClampNeg ((sa (sa s 221 (Int32.toNatClampNeg (s.1 26)) a1) 222 (Int32.toNatClampNeg ((sa s 221 (Int32.toNatClampNeg (s.1 26)) a1).1 26)) ((sa s 221 (Int32.toNatClampNeg (s.1 26)) a1).1 7)).1 26)) (-1)).1 26)) (-1)).1 26)) 0) 227 (Int32.toNatClampNeg ((sa (sa (sa (sa (sa s 221 (Int32.toNatClampNeg (s.1 26)) a1) 222 (Int32.toNatClampNeg ((sa s 221 (Int32.toNatClampNeg (s.1 26)) a1).1 26)) ((sa s 221 (Int32.toNatClampNeg (s.1 26)) a1).1 7)) 224 (Int32.toNatClampNeg ((sa (sa s 221 (Int32.toNatClampNeg (s.1 26)) a1) 222 (Int32.toNatClampNeg ((sa s 221 (Int32.toNatClampNeg (s.1 26)) a1).1 26)) ((sa s 221 (Int32.toNatClampNeg (s.1 26)) a1).1 7)).1 26)) (-1)) 225 (Int32.toNatClampNeg ((sa (sa (sa s 221 (Int32.toNatClampNeg (s.1 26)) a1) 222 (Int32.toNatClampNeg ((sa s 221 (Int32.toNatClampNeg (s.1 26)) a1).1 26)) ((sa s 221 (Int32.toNatClampNeg (s.1 26)) a1).1 7)) 224 (Int32.toNatClampNeg ((sa (sa s 221 (Int32.toNatClampNeg (s.1 26)) a1) 222 (Int32.toNatClampNeg ((sa s 221 (Int32.toNatClampNeg (s.1 26)) a1).1 26)) ((sa s 221 (Int32.toNatClampNeg (s.1 26)) a1).1 7)).1 26)) (-1)).1 26)) (-1)) 226 (Int32.toNatClampNeg ((sa (sa (sa (sa s 221 (Int32.toNatClampNeg (s.1 26)) a1) 222 (Int32.toNatClampNeg ((sa s 221 (Int32.toNatClampNeg (s.1 26)) a1).1 26)) ((sa s 221 (Int32.toNatClampNeg (s.1 26)) a1).1 7)) 224 (Int32.toNatClampNeg ((sa (sa s 221 (Int32.toNatClampNeg (s.1 26)) a1) 222 (Int32.toNatClampNeg ((sa s 221 (Int32.toNatClampNeg (s.1 26)) a1).1 26)) ((sa s 221 (Int32.toNatClampNeg (s.1 26)) a1).1 7)).1 26)) (-1)) 225 (Int32.toNatClampNeg ((sa (sa (sa s 221 (Int32.toNatClampNeg (s.1 26)) a1) 222 (Int32.toNatClampNeg ((sa s 221 (Int32.toNatClampNeg (s.1 26)) a1).1 26)) ((sa s 221 (Int32.toNatClampNeg (s.1 26)) a1).1 7)) 224 (Int32.toNatClampNeg ((sa (sa s 221 (Int32.toNatClampNeg (s.1 26)) a1) 222 (Int32.toNatClampNeg ((sa s 221 (Int32.toNatClampNeg (s.1 26)) a1).1 26)) ((sa s 221 (Int32.toNatClampNeg (s.1 26)) a1).1 7)).1 26)) (-1)).1 26)) (-1)).1 26)) 0).1 26)) (-1)) 228 (Int32.toNatClampNeg ((sa (sa (sa (sa (sa (sa s 221 (Int32.toNatClampNeg (s.1 26)) a1) 222 (Int32.toNatClampNeg ((sa s 221 (Int32.toNatClampNeg (s.1 26)) a1).1 26)) ((sa s 221 (Int32.toNatClampNeg (s.1 26)) a1).1 7)) 224 (Int32.toNatClampNeg ((sa (sa s 221 (Int32.toNatClampNeg (s.1 26)) a1) 222 (Int32.toNatClampNeg ((sa s 221 (Int32.toNatClampNeg (s.1 26)) a1).1 26)) ((sa s 221 (Int32.toNatClampNeg (s.1 26)) a1).1 7)).1 26)) (-1)) 225 (Int32.toNatClampNeg ((sa (sa (sa s 221 (Int32.toNatClampNeg (s.1 26)) a1) 222 (Int32.toNatClampNeg ((sa s 221 (Int32.toNatClampNeg (s.1 26)) a1).1 26)) ((sa s 221 (Int32.toNatClampNeg (s.1 26)) a1).1 7)) 224 (Int32.toNatClampNeg ((sa (sa s 221 (Int32.toNatClampNeg (s.1 26)) a1) 222 (Int32.toNatClampNeg ((sa s 221 (Int32.toNatClampNeg (s.1 26)) a1).1 26)) ((sa s 221 (Int32.toNatClampNeg (s.1 26)) a1).1 7)).1 26)) (-1)).1 26)) (-1)) 226 (Int32.toNatClampNeg ((sa (sa (sa (sa s 221 (Int32.toNatClampNeg (s.1 26)) a1) 222 (Int32.toNatClampNeg ((sa s 221 (Int32.toNatClampNeg (s.1 26)) a1).1 26)) ((sa s 221 (Int32.toNatClampNeg (s.1 26)) a1).1 7)) 224 (Int32.toNatClampNeg ((sa (sa s 221 (Int32.toNatClampNeg (s.1 26)) a1) 222 (Int32.toNatClampNeg ((sa s 221 (Int32.toNatClampNeg (s.1 26)) a1).1 26)) ((sa s 221 (Int32.toNatClampNeg (s.1 26)) a1).1 7)).1 26)) (-1)) 225 (Int32.toNatClampNeg ((sa (sa (sa s 221 (Int32.toNatClampNeg (s.1 26)) a1) 222 (Int32.toNatClampNeg ((sa s 221 (Int32.toNatClampNeg (s.1 26)) a1).1 26)) ((sa s 221 (Int32.toNatClampNeg (s.1 26)) a1).1 7)) 224 (Int32.toNatClampNeg ((sa (sa s 221 (Int32.toNatClampNeg (s.1 26)) a1) 222 (Int32.toNatClampNeg ((sa s 221 (Int32.toNatClampNeg (s.1 26)) a1).1 26)) ((sa s 221 (Int32.toNatClampNeg (s.1 26)) a1).1 7)).1 26)) (-1)).1 26)) (-1)).1 26)) 0) 227 (Int32.toNatClampNeg ((sa (sa (sa (sa (sa s 221 (Int32.toNatClampNeg (s.1 26)) a1) 222 (Int32.toNatClampNeg ((sa s 221 (Int32.toNatClampNeg (s.1 26)) a1).1 26)) ((sa s 221 (Int32.toNatClampNeg (s.1 26)) a1).1 7)) 224 (Int32.toNatClampNeg ((sa (sa s 221 (Int32.toNatClampNeg (s.1 26)) a1) 222 (Int32.toNatClampNeg ((sa s 221 (Int32.toNatClampNeg (s.1 26)) a1).1 26)) ((sa s 221 (Int32.toNatClampNeg (s.1 26)) a1).1 7)).1 26)) (-1)) 225 (Int32.toNatClampNeg ((sa (sa (sa s 221 (Int32.toNatClampNeg (s.1 26)) a1) 222 (Int32.toNatClampNeg ((sa s 221 (Int32.toNatClampNeg (s.1 26)) a1).1 26)) ((sa s 221 (Int32.toNatClampNeg (s.1 26)) a1).1 7)) 224 (Int32.toNatClampNeg ((sa (sa s 221 (Int32.toNatClampNeg (s.1 26)) a1) 222 (Int32.toNatClampNeg ((sa s 221 (Int32.toNatClampNeg (s.1 26)) a1).1 26)) ((sa s 221 (Int32.toNatClampNeg (s.1 26)) a1).1 7)).1 26)) (-1)).1 26)) (-1)) 226 (Int32.toNatClampNeg ((sa (sa (sa (sa s 221 (Int32.toNatClampNeg (s.1 26)) a1) 222 (Int32.toNatClampNeg ((sa s 221 (Int32.toNatClampNeg (s.1 26)) a1).1 26)) ((sa s 221 (Int32.toNatClampNeg (s.1 26)) a1).1 7)) 224 (Int32.toNatClampNeg ((sa (sa s 221 (Int32.toNatClampNeg (s.1 26)) a1) 222 (Int32.toNatClampNeg ((sa s 221 (Int32.toNatClampNeg (s.1 26)) a1).1 26)) ((sa s 221 (Int32.toNatClampNeg (s.1 26)) a1).1 7)).1 26)) (-1)) 225 (Int32.toNatClampNeg ((sa (sa (sa s 221 (Int32.toNatClampNeg (s.1 26)) a1) 222 (Int32.toNatClampNeg ((sa s 221 (Int32.toNatClampNeg (s.1 26)) a1).1 26)) ((sa s 221 (Int32.toNatClampNeg (s.1 26)) a1).1 7)) 224 (Int32.toNatClampNeg ((sa (sa s 221 (Int32.toNatClampNeg (s.1 26)) a1) 222 (Int32.toNatClampNeg ((sa s 221 (Int32.toNatClampNeg (s.1 26)) a1).1 26)) ((sa s 221 (Int32.toNatClampNeg (s.1 26)) a1).1 7)).1 26)) (-1)).1 26)) (-1)).1 26)) 0).1 26)) (-1)).1 26)) (-1)) 229 (Int32.toNatClampNeg ((sa (sa (sa (sa (sa (sa (sa s 221 (Int32.toNatClampNeg (s.1 26)) a1) 222 (Int32.toNatClampNeg ((sa s 221 (Int32.toNatClampNeg (s.1 26)) a1).1 26)) ((sa s 221 (Int32.toNatClampNeg (s.1 26)) a1).1 7)) 224 (Int32.toNatClampNeg ((sa (sa s 221 (Int32.toNatClampNeg (s.1 26)) a1) 222 (Int32.toNatClampNeg ((sa s 221 (Int32.toNatClampNeg (s.1 26)) a1).1 26)) ((sa s 221 (Int32.toNatClampNeg (s.1 26)) a1).1 7)).1 26)) (-1)) 225 (Int32.toNatClampNeg ((sa (sa (sa s 221 (Int32.toNatClampNeg (s.1 26)) a1) 222 (Int32.toNatClampNeg ((sa s 221 (Int32.toNatClampNeg (s.1 26)) a1).1 26)) ((sa s 221 (Int32.toNatClampNeg (s.1 26)) a1).1 7)) 224 (Int32.toNatClampNeg ((sa (sa s 221 (Int32.toNatClampNeg (s.1 26)) a1) 222 (Int32.toNatClampNeg ((sa s 221 (Int32.toNatClampNeg (s.1 26)) a1).1 26)) ((sa s 221 (Int32.toNatClampNeg (s.1 26)) a1).1 7)).1 26)) (-1)).1 26)) (-1)) 226 (Int32.toNatClampNeg ((sa (sa (sa (sa s 221 (Int32.toNatClampNeg (s.1 26)) a1) 222 (Int32.toNatClampNeg ((sa s 221 (Int32.toNatClampNeg (s.1 26)) a1).1 26)) ((sa s 221 (Int32.toNatClampNeg (s.1 26)) a1).1 7)) 224 (Int32.toNatClampNeg ((sa (sa s 221 (Int32.toNatClampNeg (s.1 26)) a1) 222 (Int32.toNatClampNeg ((sa s 221 (Int32.toNatClampNeg (s.1 26)) a1).1 26)) ((sa s 221 (Int32.toNatClampNeg (s.1 26)) a1).1 7)).1 26)) (-1)) 225 (Int32.toNatClampNeg ((sa (sa (sa s 221 (Int32.toNatClampNeg (s.1 26)) a1) 222 (Int32.toNatClampNeg ((sa s 221 (Int32.toNatClampNeg (s.1 26)) a1).1 26)) ((sa s 221 (Int32.toNatClampNeg (s.1 26)) a1).1 7)) 224 (Int32.toNatClampNeg ((sa (sa s 221 (Int32.toNatClampNeg (s.1 26)) a1) 222 (Int32.toNatClampNeg ((sa s 221 (Int32.toNatClampNeg (s.1 26)) a1).1 26)) ((sa s 221 (Int32.toNatClampNeg (s.1 26)) a1).1 7)).1 26)) (-1)).1 26)) (-1)).1 26)) 0) 227 (Int32.toNatClampNeg ((sa (sa (sa (sa (sa s 221 (Int32.toNatClampNeg (s.1 26)) a1) 222 (Int32.toNatClampNeg ((sa s 221 (Int32.toNatClampNeg (s.1 26)) a1).1 26)) ((sa s 221 (Int32.toNatClampNeg (s.1 26)) a1).1 7)) 224 (Int32.toNatClampNeg ((sa (sa s 221 (Int32.toNatClampNeg (s.1 26)) a1) 222 (Int32.toNatClampNeg ((sa s 221 (Int32.toNatClampNeg (s.1 26)) a1).1 26)) ((sa s 221 (Int32.toNatClampNeg (s.1 26)) a1).1 7)).1 26)) (-1)) 225 (Int32.toNatClampNeg ((sa (sa (sa s 221 (Int32.toNatClampNeg (s.1 26)) a1) 222 (Int32.toNatClampNeg ((sa s 221 (Int32.toNatClampNeg (s.1 26)) a1).1 26)) ((sa s 221 (Int32.toNatClampNeg (s.1 26)) a1).1 7)) 224 (Int32.toNatClampNeg ((sa (sa s 221 (Int32.toNatClampNeg (s.1 26)) a1) 222 (Int32.toNatClampNeg ((sa s 221 (Int32.toNatClampNeg (s.1 26)) a1).1 26)) ((sa s 221 (Int32.toNatClampNeg (s.1 26)) a1).1 7)).1 26)) (-1)).1 26)) (-1)) 226 (Int32.toNatClampNeg ((sa (sa (sa (sa s 221 (Int32.toNatClampNeg (s.1 26)) a1) 222 (Int32.toNatClampNeg ((sa s 221 (Int32.toNatClampNeg (s.1 26)) a1).1 26)) ((sa s 221 (Int32.toNatClampNeg (s.1 26)) a1).1 7)) 224 (Int32.toNatClampNeg ((sa (sa s 221 (Int32.toNatClampNeg (s.1 26)) a1) 222 (Int32.toNatClampNeg ((sa s 221 (Int32.toNatClampNeg (s.1 26)) a1).1 26)) ((sa s 221 (Int32.toNatClampNeg (s.1 26)) a1).1 7)).1 26)) (-1)) 225 (Int32.toNatClampNeg ((sa (sa (sa s 221 (Int32.toNatClampNeg (s.1 26)) a1) 222 (Int32.toNatClampNeg ((sa s 221 (Int32.toNatClampNeg (s.1 26)) a1).1 26)) ((sa s 221 (Int32.toNatClampNeg (s.1 26)) a1).1 7)) 224 (Int32.toNatClampNeg ((sa (sa s 221 (Int32.toNatClampNeg (s.1 26)) a1) 222 (Int32.toNatClampNeg ((sa s 221 (Int32.toNatClampNeg (s.1 26)) a1).1 26)) ((sa s 221 (Int32.toNatClampNeg (s.1 26)) a1).1 7)).1 26)) (-1)).1 26)) (-1)).1 26)) 0).1 26)) (-1)) 228 (Int32.toNatClampNeg ((sa (sa (sa (sa (sa (sa s 221 (Int32.toNatClampNeg (s.1 26)) a1) 222 (Int32.toNatClampNeg ((sa s 221 (Int32.toNatClampNeg (s.1 26)) a1).1 26)) ((sa s 221 (Int32.toNatClampNeg (s.1 26)) a1).1 7)) 224 (Int32.toNatClampNeg ((sa (sa s 221 (Int32.toNatClampNeg (s.1 26)) a1) 222 (Int32.toNatClampNeg ((sa s 221 (Int32.toNatClampNeg (s.1 26)) a1).1 26)) ((sa s 221 (Int32.toNatClampNeg (s.1 26)) a1).1 7)).1 26)) (-1)) 225 (Int32.toNatClampNeg ((sa (sa (sa s 221 (Int32.toNatClampNeg (s.1 26)) a1) 222 (Int32.toNatClampNeg ((sa s 221 (Int32.toNatClampNeg (s.1 26)) a1).1 26)) ((sa s 221 (Int32.toNatClampNeg (s.1 26)) a1).1 7)) 224 (Int32.toNatClampNeg ((sa (sa s 221 (Int32.toNatClampNeg (s.1 26)) a1) 222 (Int32.toNatClampNeg ((sa s 221 (Int32.toNatClampNeg (s.1 26)) a1).1 26)) ((sa s 221 (Int32.toNatClampNeg (s.1 26)) a1).1 7)).1 26)) (-1)).1 26)) (-1)) 226 (Int32.toNatClampNeg ((sa (sa (sa (sa s 221 (Int32.toNatClampNeg (s.1 26)) a1) 222 (Int32.toNatClampNeg ((sa s 221 (Int32.toNatClampNeg (s.1 26)) a1).1 26)) ((sa s 221 (Int32.toNatClampNeg (s.1 26)) a1).1 7)) 224 (Int32.toNatClampNeg ((sa (sa s 221 (Int32.toNatClampNeg (s.1 26)) a1) 222 (Int32.toNatClampNeg ((sa s 221 (Int32.toNatClampNeg (s.1 26)) a1).1 26)) ((sa s 221 (Int32.toNatClampNeg (s.1 26)) a1).1 7)).1 26)) (-1)) 225 (Int32.toNatClampNeg ((sa (sa (sa s 221 (Int32.toNatClampNeg (s.1 26)) a1) 222 (Int32.toNatClampNeg ((sa s 221 (Int32.toNatClampNeg (s.1 26)) a1).1 26)) ((sa s 221 (Int32.toNatClampNeg (s.1 26)) a1).1 7)) 224 (Int32.toNatClampNeg ((sa (sa s 221 (Int32.toNatClampNeg (s.1 26)) a1) 222 (Int32.toNatClampNeg ((sa s 221 (Int32.toNatClampNeg (s.1 26)) a1).1 26)) ((sa s 221 (Int32.toNatClampNeg (s.1 26)) a1).1 7)).1 26)) (-1)).1 26)) (-1)).1 26)) 0) 227 (Int32.toNatClampNeg ((sa (sa (sa (sa (sa s 221 (Int32.toNatClampNeg (s.1 26)) a1) 222 (Int32.toNatClampNeg ((sa s 221 (Int32.toNatClampNeg (s.1 26)) a1).1 26)) ((sa s 221 (Int32.toNatClampNeg (s.1 26)) a1).1 7)) 224 (Int32.toNatClampNeg ((sa (sa s 221 (Int32.toNatClampNeg (s.1 26)) a1) 222 (Int32.toNatClampNeg ((sa s 221 (Int32.toNatClampNeg (s.1 26)) a1).1 26)) ((sa s 221 (Int32.toNatClampNeg (s.1 26)) a1).1 7)).1 26)) (-1)) 225 (Int32.toNatClampNeg ((sa (sa (sa s 221 (Int32.toNatClampNeg (s.1 26)) a1) 222 (Int32.toNatClampNeg ((sa s 221 (Int32.toNatClampNeg (s.1 26)) a1).1 26)) ((sa s 221 (Int32.toNatClampNeg (s.1 26)) a1).1 7)) 224 (Int32.toNatClampNeg ((sa (sa s 221 (Int32.toNatClampNeg (s.1 26)) a1) 222 (Int32.toNatClampNeg ((sa s 221 (Int32.toNatClampNeg (s.1 26)) a1).1 26)) ((sa s 221 (Int32.toNatClampNeg (s.1 26)) a1).1 7)).1 26)) (-1)).1 26)) (-1)) 226 (Int32.toNatClampNeg ((sa (sa (sa (sa s 221 (Int32.toNatClampNeg (s.1 26)) a1) 222 (Int32.toNatClampNeg ((sa s 221 (Int32.toNatClampNeg (s.1 26)) a1).1 26)) ((sa s 221 (Int32.toNatClampNeg (s.1 26)) a1).1 7)) 224 (Int32.toNatClampNeg ((sa (sa s 221 (Int32.toNatClampNeg (s.1 26)) a1) 222 (Int32.toNatClampNeg ((sa s 221 (Int32.toNatClampNeg (s.1 26)) a1).1 26)) ((sa s 221 (Int32.toNatClampNeg (s.1 26)) a1).1 7)).1 26)) (-1)) 225 (Int32.toNatClampNeg ((sa (sa (sa s 221 (Int32.toNatClampNeg (s.1 26)) a1) 222 (Int32.toNatClampNeg ((sa s 221 (Int32.toNatClampNeg (s.1 26)) a1).1 26)) ((sa s 221 (Int32.toNatClampNeg (s.1 26)) a1).1 7)) 224 (Int32.toNatClampNeg ((sa (sa s 221 (Int32.toNatClampNeg (s.1 26)) a1) 222 (Int32.toNatClampNeg ((sa s 221 (Int32.toNatClampNeg (s.1 26)) a1).1 26)) ((sa s 221 (Int32.toNatClampNeg (s.1 26)) a1).1 7)).1 26)) (-1)).1 26)) (-1)).1 26)) 0).1 26)) (-1)).1 26)) (-1)).1 26)) (-1)) 230 (Int32.toNatClampNeg ((sa (sa (sa (sa (sa (sa (sa (sa s 221 (Int32.toNatClampNeg (s.1 26)) a1) 222 (Int32.toNatClampNeg ((sa s 221 (Int32.toNatClampNeg (s.1 26)) a1).1 26)) ((sa s 221 (Int32.toNatClampNeg (s.1 26)) a1).1 7)) 224 (Int32.toNatClampNeg ((sa (sa s 221 (Int32.toNatClampNeg (s.1 26)) a1) 222 (Int32.toNatClampNeg ((sa s 221 (Int32.toNatClampNeg (s.1 26)) a1).1 26)) ((sa s 221 (Int32.toNatClampNeg (s.1 26)) a1).1 7)).1 26)) (-1)) 225 (Int32.toNatClampNeg ((sa (sa (sa s 221 (Int32.toNatClampNeg (s.1 26)) a1) 222 (Int32.toNatClampNeg ((sa s 221 (Int32.toNatClampNeg (s.1 26)) a1).1 26)) ((sa s 221 (Int32.toNatClampNeg (s.1 26)) a1).1 7)) 224 (Int32.toNatClampNeg ((sa (sa s 221 (Int32.toNatClampNeg (s.1 26)) a1) 222 (Int32.toNatClampNeg ((sa s 221 (Int32.toNatClampNeg (s.1 26)) a1).1 26)) ((sa s 221 (Int32.toNatClampNeg (s.1 26)) a1).1 7)).1 26)) (-1)).1 26)) (-1)) 226 (Int32.toNatClampNeg ((sa (sa (sa (sa s 221 (Int32.toNatClampNeg (s.1 26)) a1) 222 (Int32.toNatClampNeg ((sa s 221 (Int32.toNatClampNeg (s.1 26)) a1).1 26)) ((sa s 221 (Int32.toNatClampNeg (s.1 26)) a1).1 7)) 224 (Int32.toNatClampNeg ((sa (sa s 221 (Int32.toNatClampNeg (s.1 26)) a1) 222 (Int32.toNatClampNeg ((sa s 221 (Int32.toNatClampNeg (s.1 26)) a1).1 26)) ((sa s 221 (Int32.toNatClampNeg (s.1 26)) a1).1 7)).1 26)) (-1)) 225 (Int32.toNatClampNeg ((sa (sa (sa s 221 (Int32.toNatClampNeg (s.1 26)) a1) 222 (Int32.toNatClampNeg ((sa s 221 (Int32.toNatClampNeg (s.1 26)) a1).1 26)) ((sa s 221 (Int32.toNatClampNeg (s.1 26)) a1).1 7)) 224 (Int32.toNatClampNeg ((sa (sa s 221 (Int32.toNatClampNeg (s.1 26)) a1) 222 (Int32.toNatClampNeg ((sa s 221 (Int32.toNatClampNeg (s.1 26)) a1).1 26)) ((sa s 221 (Int32.toNatClampNeg (s.1 26)) a1).1 7)).1 26)) (-1)).1 26)) (-1)).1 26)) 0) 227 (Int32.toNatClampNeg ((sa (sa (sa (sa (sa s 221 (Int32.toNatClampNeg (s.1 26)) a1) 222 (Int32.toNatClampNeg ((sa s 221 (Int32.toNatClampNeg (s.1 26)) a1).1 26)) ((sa s 221 (Int32.toNatClampNeg (s.1 26)) a1).1 7)) 224 (Int32.toNatClampNeg ((sa (sa s 221 (Int32.toNatClampNeg (s.1 26)) a1) 222 (Int32.toNatClampNeg ((sa s 221 (Int32.toNatClampNeg (s.1 26)) a1).1 26)) ((sa s 221 (Int32.toNatClampNeg (s.1 26)) a1).1 7)).1 26)) (-1)) 225 (Int32.toNatClampNeg ((sa (sa (sa s 221 (Int32.toNatClampNeg (s.1 26)) a1) 222 (Int32.toNatClampNeg ((sa s 221 (Int32.toNatClampNeg (s.1 26)) a1).1 26)) ((sa s 221 (Int32.toNatClampNeg (s.1 26)) a1).1 7)) 224 (Int32.toNatClampNeg ((sa (sa s 221 (Int32.toNatClampNeg (s.1 26)) a1) 222 (Int32.toNatClampNeg ((sa s 221 (Int32.toNatClampNeg (s.1 26)) a1).1 26)) ((sa s 221 (Int32.toNatClampNeg (s.1 26)) a1).1 7)).1 26)) (-1)).1 26)) (-1)) 226 (Int32.toNatClampNeg ((sa (sa (sa (sa s 221 (Int32.toNatClampNeg (s.1 26)) a1) 222 (Int32.toNatClampNeg ((sa s 221 (Int32.toNatClampNeg (s.1 26)) a1).1 26)) ((sa s 221 (Int32.toNatClampNeg (s.1 26)) a1).1 7)) 224 (Int32.toNatClampNeg ((sa (sa s 221 (Int32.toNatClampNeg (s.1 26)) a1) 222 (Int32.toNatClampNeg ((sa s 221 (Int32.toNatClampNeg (s.1 26)) a1).1 26)) ((sa s 221 (Int32.toNatClampNeg (s.1 26)) a1).1 7)).1 26)) (-1)) 225 (Int32.toNatClampNeg ((sa (sa (sa s 221 (Int32.toNatClampNeg (s.1 26)) a1) 222 (Int32.toNatClampNeg ((sa s 221 (Int32.toNatClampNeg (s.1 26)) a1).1 26)) ((sa s 221 (Int32.toNatClampNeg (s.1 26)) a1).1 7)) 224 (Int32.toNatClampNeg ((sa (sa s 221 (Int32.toNatClampNeg (s.1 26)) a1) 222 (Int32.toNatClampNeg ((sa s 221 (Int32.toNatClampNeg (s.1 26)) a1).1 26)) ((sa s 221 (Int32.toNatClampNeg (s.1 26)) a1).1 7)).1 26)) (-1)).1 26)) (-1)).1 26)) 0).1 26)) (-1)) 228 (Int32.toNatClampNeg ((sa (sa (sa (sa (sa (sa s 221 (Int32.toNatClampNeg (s.1 26)) a1) 222 (Int32.toNatClampNeg ((sa s 221 (Int32.toNatClampNeg (s.1 26)) a1).1 26)) ((sa s 221 (Int32.toNatClampNeg (s.1 26)) a1).1 7)) 224 (Int32.toNatClampNeg ((sa (sa s 221 (Int32.toNatClampNeg (s.1 26)) a1) 222 (Int32.toNatClampNeg ((sa s 221 (Int32.toNatClampNeg (s.1 26)) a1).1 26)) ((sa s 221 (Int32.toNatClampNeg (s.1 26)) a1).1 7)).1 26)) (-1)) 225 (Int32.toNatClampNeg ((sa (sa (sa s 221 (Int32.toNatClampNeg (s.1 26)) a1) 222 (Int32.toNatClampNeg ((sa s 221 (Int32.toNatClampNeg (s.1 26)) a1).1 26)) ((sa s 221 (Int32.toNatClampNeg (s.1 26)) a1).1 7)) 224 (Int32.toNatClampNeg ((sa (sa s 221 (Int32.toNatClampNeg (s.1 26)) a1) 222 (Int32.toNatClampNeg ((sa s 221 (Int32.toNatClampNeg (s.1 26)) a1).1 26)) ((sa s 221 (Int32.toNatClampNeg (s.1 26)) a1).1 7)).1 26)) (-1)).1 26)) (-1)) 226 (Int32.toNatClampNeg ((sa (sa (sa (sa s 221 (Int32.toNatClampNeg (s.1 26)) a1) 222 (Int32.toNatClampNeg ((sa s 221 (Int32.toNatClampNeg (s.1 26)) a1).1 26)) ((sa s 221 (Int32.toNatClampNeg (s.1 26)) a1).1 7)) 224 (Int32.toNatClampNeg ((sa (sa s 221 (Int32.toNatClampNeg (s.1 26)) a1) 222 (Int32.toNatClampNeg ((sa s 221 (Int32.toNatClampNeg (s.1 26)) a1).1 26)) ((sa s 221 (Int32.toNatClampNeg (s.1 26)) a1).1 7)).1 26)) (-1)) 225 (Int32.toNatClampNeg ((sa (sa (sa s 221 (Int32.toNatClampNeg (s.1 26)) a1) 222 (Int32.toNatClampNeg ((sa s 221 (Int32.toNatClampNeg (s.1 26)) a1).1 26)) ((sa s 221 (Int32.toNatClampNeg (s.1 26)) a1).1 7)) 224 (Int32.toNatClampNeg ((sa (sa s 221 (Int32.toNatClampNeg (s.1 26)) a1) 222 (Int32.toNatClampNeg ((sa s 221 (Int32.toNatClampNeg (s.1 26)) a1).1 26)) ((sa s 221 (Int32.toNatClampNeg (s.1 26)) a1).1 7)).1 26)) (-1)).1 26)) (-1)).1 26)) 0) 227 (Int32.toNatClampNeg ((sa (sa (sa (sa (sa s 221 (Int32.toNatClampNeg (s.1 26)) a1) 222 (Int32.toNatClampNeg ((sa s 221 (Int32.toNatClampNeg (s.1 26)) a1).1 26)) ((sa s 221 (Int32.toNatClampNeg (s.1 26)) a1).1 7)) 224 (Int32.toNatClampNeg ((sa (sa s 221 (Int32.toNatClampNeg (s.1 26)) a1) 222 (Int32.toNatClampNeg ((sa s 221 (Int32.toNatClampNeg (s.1 26)) a1).1 26)) ((sa s 221 (Int32.toNatClampNeg (s.1 26)) a1).1 7)).1 26)) (-1)) 225 (Int32.toNatClampNeg ((sa (sa (sa s 221 (Int32.toNatClampNeg (s.1 26)) a1) 222 (Int32.toNatClampNeg ((sa s 221 (Int32.toNatClampNeg (s.1 26)) a1).1 26)) ((sa s 221 (Int32.toNatClampNeg (s.1 26)) a1).1 7)) 224 (Int32.toNatClampNeg ((sa (sa s 221 (Int32.toNatClampNeg (s.1 26)) a1) 222 (Int32.toNatClampNeg ((sa s 221 (Int32.toNatClampNeg (s.1 26)) a1).1 26)) ((sa s 221 (Int32.toNatClampNeg (s.1 26)) a1).1 7)).1 26)) (-1)).1 26)) (-1)) 226 (Int32.toNatClampNeg ((sa (sa (sa (sa s 221 (Int32.toNatClampNeg (s.1 26)) a1) 222 (Int32.toNatClampNeg ((sa s 221 (Int32.toNatClampNeg (s.1 26)) a1).1 26)) ((sa s 221 (Int32.toNatClampNeg (s.1 26)) a1).1 7)) 224 (Int32.toNatClampNeg ((sa (sa s 221 (Int32.toNatClampNeg (s.1 26)) a1) 222 (Int32.toNatClampNeg ((sa s 221 (Int32.toNatClampNeg (s.1 26)) a1).1 26)) ((sa s 221 (Int32.toNatClampNeg (s.1 26)) a1).1 7)).1 26)) (-1)) 225 (Int32.toNatClampNeg ((sa (sa (sa s 221 (Int32.toNatClampNeg (s.1 26)) a1) 222 (Int32.toNatClampNeg ((sa s 221 (Int32.toNatClampNeg (s.1 26)) a1).1 26)) ((sa s 221 (Int32.toNatClampNeg (s.1 26)) a1).1 7)) 224 (Int32.toNatClampNeg ((sa (sa s 221 (Int32.toNatClampNeg (s.1 26)) a1) 222 (Int32.toNatClampNeg ((sa s 221 (Int32.toNatClampNeg (s.1 26)) a1).1 26)) ((sa s 221 (Int32.toNatClampNeg (s.1 26)) a1).1 7)).1 26)) (-1)).1 26)) (-1)).1 26)) 0).1 26)) (-1)).1 26)) (-1)) 229 (Int32.toNatClampNeg ((sa (sa (sa (sa (sa (sa (sa s 221 (Int32.toNatClampNeg (s.1 26)) a1) 222 (Int32.toNatClampNeg ((sa s 221 (Int32.toNatClampNeg (s.1 26)) a1).1 26)) ((sa s 221 (Int32.toNatClampNeg (s.1 26)) a1).1 7)) 224 (Int32.toNatClampNeg ((sa (sa s 221 (Int32.toNatClampNeg (s.1 26)) a1) 222 (Int32.toNatClampNeg ((sa s 221 (Int32.toNatClampNeg (s.1 26)) a1).1 26)) ((sa s 221 (Int32.toNatClampNeg (s.1 26)) a1).1 7)).1 26)) (-1)) 225 (Int32.toNatClampNeg ((sa (sa (sa s 221 (Int32.toNatClampNeg (s.1 26)) a1) 222 (Int32.toNatClampNeg ((sa s 221 (Int32.toNatClampNeg (s.1 26)) a1).1 26)) ((sa s 221 (Int32.toNatClampNeg (s.1 26)) a1).1 7)) 224 (Int32.toNatClampNeg ((sa (sa s 221 (Int32.toNatClampNeg (s.1 26)) a1) 222 (Int32.toNatClampNeg ((sa s 221 (Int32.toNatClampNeg (s.1 26)) a1).1 26)) ((sa s 221 (Int32.toNatClampNeg (s.1 26)) a1).1 7)).1 26)) (-1)).1 26)) (-1)) 226 (Int32.toNatClampNeg ((sa (sa (sa (sa s 221 (Int32.toNatClampNeg (s.1 26)) a1) 222 (Int32.toNatClampNeg ((sa s 221 (Int32.toNatClampNeg (s.1 26)) a1).1 26)) ((sa s 221 (Int32.toNatClampNeg (s.1 26)) a1).1 7)) 224 (Int32.toNatClampNeg ((sa (sa s 221 (Int32.toNatClampNeg (s.1 26)) a1) 222 (Int32.toNatClampNeg ((sa s 221 (Int32.toNatClampNeg (s.1 26)) a1).1 26)) ((sa s 221 (Int32.toNatClampNeg (s.1 26)) a1).1 7)).1 26)) (-1)) 225 (Int32.toNatClampNeg ((sa (sa (sa s 221 (Int32.toNatClampNeg (s.1 26)) a1) 222 (Int32.toNatClampNeg ((sa s 221 (Int32.toNatClampNeg (s.1 26)) a1).1 26)) ((sa s 221 (Int32.toNatClampNeg (s.1 26)) a1).1 7)) 224 (Int32.toNatClampNeg ((sa (sa s 221 (Int32.toNatClampNeg (s.1 26)) a1) 222 (Int32.toNatClampNeg ((sa s 221 (Int32.toNatClampNeg (s.1 26)) a1).1 26)) ((sa s 221 (Int32.toNatClampNeg (s.1 26)) a1).1 7)).1 26)) (-1)).1 26)) (-1)).1 26)) 0) 227 (Int32.toNatClampNeg ((sa (sa (sa (sa (sa s 221 (Int32.toNatClampNeg (s.1 26)) a1) 222 (Int32.toNatClampNeg ((sa s 221 (Int32.toNatClampNeg (s.1 26)) a1).1 26)) ((sa s 221 (Int32.toNatClampNeg (s.1 26)) a1).1 7)) 224 (Int32.toNatClampNeg ((sa (sa s 221 (Int32.toNatClampNeg (s.1 26)) a1) 222 (Int32.toNatClampNeg ((sa s 221 (Int32.toNatClampNeg (s.1 26)) a1).1 26)) ((sa s 221 (Int32.toNatClampNeg (s.1 26)) a1).1 7)).1 26)) (-1)) 225 (Int32.toNatClampNeg ((sa (sa (sa s 221 (Int32.toNatClampNeg (s.1 26)) a1) 222 (Int32.toNatClampNeg ((sa s 221 (Int32.toNatClampNeg (s.1 26)) a1).1 26)) ((sa s 221 (Int32.toNatClampNeg (s.1 26)) a1).1 7)) 224 (Int32.toNatClampNeg ((sa (sa s 221 (Int32.toNatClampNeg (s.1 26)) a1) 222 (Int32.toNatClampNeg ((sa s 221 (Int32.toNatClampNeg (s.1 26)) a1).1 26)) ((sa s 221 (Int32.toNatClampNeg (s.1 26)) a1).1 7)).1 26)) (-1)).1 26)) (-1)) 226 (Int32.toNatClampNeg ((sa (sa (sa (sa s 221 (Int32.toNatClampNeg (s.1 26)) a1) 222 (Int32.toNatClampNeg ((sa s 221 (Int32.toNatClampNeg (s.1 26)) a1).1 26)) ((sa s 221 (Int32.toNatClampNeg (s.1 26)) a1).1 7)) 224 (Int32.toNatClampNeg ((sa (sa s 221 (Int32.toNatClampNeg (s.1 26)) a1) 222 (Int32.toNatClampNeg ((sa s 221 (Int32.toNatClampNeg (s.1 26)) a1).1 26)) ((sa s 221 (Int32.toNatClampNeg (s.1 26)) a1).1 7)).1 26)) (-1)) 225 (Int32.toNatClampNeg ((sa (sa (sa s 221 (Int32.toNatClampNeg (s.1 26)) a1) 222 (Int32.toNatClampNeg ((sa s 221 (Int32.toNatClampNeg (s.1 26)) a1).1 26)) ((sa s 221 (Int32.toNatClampNeg (s.1 26)) a1).1 7)) 224 (Int32.toNatClampNeg ((sa (sa s 221 (Int32.toNatClampNeg (s.1 26)) a1) 222 (Int32.toNatClampNeg ((sa s 221 (Int32.toNatClampNeg (s.1 26)) a1).1 26)) ((sa s 221 (Int32.toNatClampNeg (s.1 26)) a1).1 7)).1 26)) (-1)).1 26)) (-1)).1 26)) 0).1 26)) (-1)) 228 (Int32.toNatClampNeg ((sa (sa (sa (sa (sa (sa s 221 (Int32.toNatClampNeg (s.1 26)) a1) 222 (Int32.toNatClampNeg ((sa s 221 (Int32.toNatClampNeg (s.1 26)) a1).1 26)) ((sa s 221 (Int32.toNatClampNeg (s.1 26)) a1).1 7)) 224 (Int32.toNatClampNeg ((sa (sa s 221 (Int32.toNatClampNeg (s.1 26)) a1) 222 (Int32.toNatClampNeg ((sa s 221 (Int32.toNatClampNeg (s.1 26)) a1).1 26)) ((sa s 221 (Int32.toNatClampNeg (s.1 26)) a1).1 7)).1 26)) (-1)) 225 (Int32.toNatClampNeg ((sa (sa (sa s 221 (Int32.toNatClampNeg (s.1 26)) a1) 222 (Int32.toNatClampNeg ((sa s 221 (Int32.toNatClampNeg (s.1 26)) a1).1 26)) ((sa s 221 (Int32.toNatClampNeg (s.1 26)) a1).1 7)) 224 (Int32.toNatClampNeg ((sa (sa s 221 (Int32.toNatClampNeg (s.1 26)) a1) 222 (Int32.toNatClampNeg ((sa s 221 (Int32.toNatClampNeg (s.1 26)) a1).1 26)) ((sa s 221 (Int32.toNatClampNeg (s.1 26)) a1).1 7)).1 26)) (-1)).1 26)) (-1)) 226 (Int32.toNatClampNeg ((sa (sa (sa (sa s 221 (Int32.toNatClampNeg (s.1 26)) a1) 222 (Int32.toNatClampNeg ((sa s 221 (Int32.toNatClampNeg (s.1 26)) a1).1 26)) ((sa s 221 (Int32.toNatClampNeg (s.1 26)) a1).1 7)) 224 (Int32.toNatClampNeg ((sa (sa s 221 (Int32.toNatClampNeg (s.1 26)) a1) 222 (Int32.toNatClampNeg ((sa s 221 (Int32.toNatClampNeg (s.1 26)) a1).1 26)) ((sa s 221 (Int32.toNatClampNeg (s.1 26)) a1).1 7)).1 26)) (-1)) 225 (Int32.toNatClampNeg ((sa (sa (sa s 221 (Int32.toNatClampNeg (s.1 26)) a1) 222 (Int32.toNatClampNeg ((sa s 221 (Int32.toNatClampNeg (s.1 26)) a1).1 26)) ((sa s 221 (Int32.toNatClampNeg (s.1 26)) a1).1 7)) 224 (Int32.toNatClampNeg ((sa (sa s 221 (Int32.toNatClampNeg (s.1 26)) a1) 222 (Int32.toNatClampNeg ((sa s 221 (Int32.toNatClampNeg (s.1 26)) a1).1 26)) ((sa s 221 (Int32.toNatClampNeg (s.1 26)) a1).1 7)).1 26)) (-1)).1 26)) (-1)).1 26)) 0) 227 (Int32.toNatClampNeg ((sa (sa (sa (sa (sa s 221 (Int32.toNatClampNeg (s.1 26)) a1) 222 (Int32.toNatClampNeg ((sa s 221 (Int32.toNatClampNeg (s.1 26)) a1).1 26)) ((sa s 221 (Int32.toNatClampNeg (s.1 26)) a1).1 7)) 224 (Int32.toNatClampNeg ((sa (sa s 221 (Int32.toNatClampNeg (s.1 26)) a1) 222 (Int32.toNatClampNeg ((sa s 221 (Int32.toNatClampNeg (s.1 26)) a1).1 26)) ((sa s 221 (Int32.toNatClampNeg (s.1 26)) a1).1 7)).1 26)) (-1)) 225 (Int32.toNatClampNeg ((sa (sa (sa s 221 (Int32.toNatClampNeg (s.1 26)) a1) 222 (Int32.toNatClampNeg ((sa s 221 (Int32.toNatClampNeg (s.1 26)) a1).1 26)) ((sa s 221 (Int32.toNatClampNeg (s.1 26)) a1).1 7)) 224 (Int32.toNatClampNeg ((sa (sa s 221 (Int32.toNatClampNeg (s.1 26)) a1) 222 (Int32.toNatClampNeg ((sa s 221 (Int32.toNatClampNeg (s.1 26)) a1).1 26)) ((sa s 221 (Int32.toNatClampNeg (s.1 26)) a1).1 7)).1 26)) (-1)).1 26)) (-1)) 226 (Int32.toNatClampNeg ((sa (sa (sa (sa s 221 (Int32.toNatClampNeg (s.1 26)) a1) 222 (Int32.toNatClampNeg ((sa s 221 (Int32.toNatClampNeg (s.1 26)) a1).1 26)) ((sa s 221 (Int32.toNatClampNeg (s.1 26)) a1).1 7)) 224 (Int32.toNatClampNeg ((sa (sa s 221 (Int32.toNatClampNeg (s.1 26)) a1) 222 (Int32.toNatClampNeg ((sa s 221 (Int32.toNatClampNeg (s.1 26)) a1).1 26)) ((sa s 221 (Int32.toNatClampNeg (s.1 26)) a1).1 7)).1 26)) (-1)) 225 (Int32.toNatClampNeg ((sa (sa (sa s 221 (Int32.toNatClampNeg (s.1 26)) a1) 222 (Int32.toNatClampNeg ((sa s 221 (Int32.toNatClampNeg (s.1 26)) a1).1 26)) ((sa s 221 (Int32.toNatClampNeg (s.1 26)) a1).1 7)) 224 (Int32.toNatClampNeg ((sa (sa s 221 (Int32.toNatClampNeg (s.1 26)) a1) 222 (Int32.toNatClampNeg ((sa s 221 (Int32.toNatClampNeg (s.1 26)) a1).1 26)) ((sa s 221 (Int32.toNatClampNeg (s.1 26)) a1).1 7)).1 26)) (-1)).1 26)) (-1)).1 26)) 0).1 26)) (-1)).1 26)) (-1)).1 26)) (-1)).1 26)) 0).1 26) + 1), .ref 213] xo_iadd rfl rfl ?_
  refine g_put rfl rfl rfl ?_
  replace h := h _ rfl
  refine g_ld rfl rfl rfl ?_
  refine g_get rfl rfl ?_
  change Go _ _ _ _ _ _ [.int ((sf (sa (sa (sa (sa (sa (sa (sa (sa (sa s 221 (Int32.toNatClampNeg (s.1 26)) a1) 222 (Int32.toNatClampNeg ((sa s 221 (Int32.toNatClampNeg (s.1 26)) a1).1 26)) ((sa s 221 (Int32.toNatClampNeg (s.1 26)) a1).1 7)) 224 (Int32.toNatClampNeg ((sa (sa s 221 (Int32.toNatClampNeg (s.1 26)) a1) 222 (Int32.toNatClampNeg ((sa s 221 (Int32.toNatClampNeg (s.1 26)) a1).1 26)) ((sa s 221 (Int32.toNatClampNeg (s.1 26)) a1).1 7)).1 26)) (-1)) 225 (Int32.toNatClampNeg ((sa (sa (sa s 221 (Int32.toNatClampNeg (s.1 26)) a1) 222 (Int32.toNatClampNeg ((sa s 221 (Int32.toNatClampNeg (s.1 26)) a1).1 26)) ((sa s 221 (Int32.toNatClampNeg (s.1 26)) a1).1 7)) 224 (Int32.toNatClampNeg ((sa (sa s 221 (Int32.toNatClampNeg (s.1 26)) a1) 222 (Int32.toNatClampNeg ((sa s 221 (Int32.toNatClampNeg (s.1 26)) a1).1 26)) ((sa s 221 (Int32.toNatClampNeg (s.1 26)) a1).1 7)).1 26)) (-1)).1 26)) (-1)) 226 (Int32.toNatClampNeg ((sa (sa (sa (sa s 221 (Int32.toNatClampNeg (s.1 26)) a1) 222 (Int32.toNatClampNeg ((sa s 221 (Int32.toNatClampNeg (s.1 26)) a1).1 26)) ((sa s 221 (Int32.toNatClampNeg (s.1 26)) a1).1 7)) 224 (Int32.toNatClampNeg ((sa (sa s 221 (Int32.toNatClampNeg (s.1 26)) a1) 222 (Int32.toNatClampNeg ((sa s 221 (Int32.toNatClampNeg (s.1 26)) a1).1 26)) ((sa s 221 (Int32.toNatClampNeg (s.1 26)) a1).1 7)).1 26)) (-1)) 225 (Int32.toNatClampNeg ((sa (sa (sa s 221 (Int32.toNatClampNeg (s.1 26)) a1) 222 (Int32.toNatClampNeg ((sa s 221 (Int32.toNatClampNeg (s.1 26)) a1).1 26)) ((sa s 221 (Int32.toNatClampNeg (s.1 26)) a1).1 7)) 224 (Int32.toNatClampNeg ((sa (sa s 221 (Int32.toNatClampNeg (s.1 26)) a1) 222 (Int32.toNatClampNeg ((sa s 221 (Int32.toNatClampNeg (s.1 26)) a1).1 26)) ((sa s 221 (Int32.toNatClampNeg (s.1 26)) a1).1 7)).1 26)) (-1)).1 26)) (-1)).1 26)) 0) 227 (Int32.toNatClampNeg ((sa (sa (sa (sa (sa s 221 (Int32.toNatClampNeg (s.1 26)) a1) 222 (Int32.toNatClampNeg ((sa s 221 (Int32.toNatClampNeg (s.1 26)) a1).1 26)) ((sa s 221 (Int32.toNatClampNeg (s.1 26)) a1).1 7)) 224 (Int32.toNatClampNeg ((sa (sa s 221 (Int32.toNatClampNeg (s.1 26)) a1) 222 (Int32.toNatClampNeg ((sa s 221 (Int32.toNatClampNeg (s.1 26)) a1).1 26)) ((sa s 221 (Int32.toNatClampNeg (s.1 26)) a1).1 7)).1 26)) (-1)) 225 (Int32.toNatClampNeg ((sa (sa (sa s 221 (Int32.toNatClampNeg (s.1 26)) a1) 222 (Int32.toNatClampNeg ((sa s 221 (Int32.toNatClampNeg (s.1 26)) a1).1 26)) ((sa s 221 (Int32.toNatClampNeg (s.1 26)) a1).1 7)) 224 (Int32.toNatClampNeg ((sa (sa s 221 (Int32.toNatClampNeg (s.1 26)) a1) 222 (Int32.toNatClampNeg ((sa s 221 (Int32.toNatClampNeg (s.1 26)) a1).1 26)) ((sa s 221 (Int32.toNatClampNeg (s.1 26)) a1).1 7)).1 26)) (-1)).1 26)) (-1)) 226 (Int32.toNatClampNeg ((sa (sa (sa (sa s 221 (Int32.toNatClampNeg (s.1 26)) a1) 222 (Int32.toNatClampNeg ((sa s 221 (Int32.toNatClampNeg (s.1 26)) a1).1 26)) ((sa s 221 (Int32.toNatClampNeg (s.1 26)) a1).1 7)) 224 (Int32.toNatClampNeg ((sa (sa s 221 (Int32.toNatClampNeg (s.1 26)) a1) 222 (Int32.toNatClampNeg ((sa s 221 (Int32.toNatClampNeg (s.1 26)) a1).1 26)) ((sa s 221 (Int32.toNatClampNeg (s.1 26)) a1).1 7)).1 26)) (-1)) 225 (Int32.toNatClampNeg ((sa (sa (sa s 221 (Int32.toNatClampNeg (s.1 26)) a1) 222 (Int32.toNatClampNeg ((sa s 221 (Int32.toNatClampNeg (s.1 26)) a1).1 26)) ((sa s 221 (Int32.toNatClampNeg (s.1 26)) a1).1 7)) 224 (Int32.toNatClampNeg ((sa (sa s 221 (Int32.toNatClampNeg (s.1 26)) a1) 222 (Int32.toNatClampNeg ((sa s 221 (Int32.toNatClampNeg (s.1 26)) a1).1 26)) ((sa s 221 (Int32.toNatClampNeg (s.1 26)) a1).1 7)).1 26)) (-1)).1 26)) (-1)).1 26)) 0).1 26)) (-1)) 228 (Int32.toNatClampNeg ((sa (sa (sa (sa (sa (sa s 221 (Int32.toNatClampNeg (s.1 26)) a1) 222 (Int32.toNatClampNeg ((sa s 221 (Int32.toNatClampNeg (s.1 26)) a1).1 26)) ((sa s 221 (Int32.toNatClampNeg (s.1 26)) a1).1 7)) 224 (Int32.toNatClampNeg ((sa (sa s 221 (Int32.toNatClampNeg (s.1 26)) a1) 222 (Int32.toNatClampNeg ((sa s 221 (Int32.toNatClampNeg (s.1 26)) a1).1 26)) ((sa s 221 (Int32.toNatClampNeg (s.1 26)) a1).1 7)).1 26)) (-1)) 225 (Int32.toNatClampNeg ((sa (sa (sa s 221 (Int32.toNatClampNeg (s.1 26)) a1) 222 (Int32.toNatClampNeg ((sa s 221 (Int32.toNatClampNeg (s.1 26)) a1).1 26)) ((sa s 221 (Int32.toNatClampNeg (s.1 26)) a1).1 7)) 224 (Int32.toNatClampNeg ((sa (sa s 221 (Int32.toNatClampNeg (s.1 26)) a1) 222 (Int32.toNatClampNeg ((sa s 221 (Int32.toNatClampNeg (s.1 26)) a1).1 26)) ((sa s 221 (Int32.toNatClampNeg (s.1 26)) a1).1 7)).1 26)) (-1)).1 26)) (-1)) 226 (Int32.toNatClampNeg ((sa (sa (sa (sa s 221 (Int32.toNatClampNeg (s.1 26)) a1) 222 (Int32.toNatClampNeg ((sa s 221 (Int32.toNatClampNeg (s.1 26)) a1).1 26)) ((sa s 221 (Int32.toNatClampNeg (s.1 26)) a1).1 7)) 224 (Int32.toNatClampNeg ((sa (sa s 221 (Int32.toNatClampNeg (s.1 26)) a1) 222 (Int32.toNatClampNeg ((sa s 221 (Int32.toNatClampNeg (s.1 26)) a1).1 26)) ((sa s 221 (Int32.toNatClampNeg (s.1 26)) a1).1 7)).1 26)) (-1)) 225 (Int32.toNatClampNeg ((sa (sa (sa s 221 (Int32.toNatClampNeg (s.1 26)) a1) 222 (Int32.toNatClampNeg ((sa s 221 (Int32.toNatClampNeg (s.1 26)) a1).1 26)) ((sa s 221 (Int32.toNatClampNeg (s.1 26)) a1).1 7)) 224 (Int32.toNatClampNeg ((sa (sa s 221 (Int32.toNatClampNeg (s.1 26)) a1) 222 (Int32.toNatClampNeg ((sa s 221 (Int32.toNatClampNeg (s.1 26)) a1).1 26)) ((sa s 221 (Int32.toNatClampNeg (s.1 26)) a1).1 7)).1 26)) (-1)).1 26)) (-1)).1 26)) 0) 227 (Int32.toNatClampNeg ((sa (sa (sa (sa (sa s 221 (Int32.toNatClampNeg (s.1 26)) a1) 222 (Int32.toNatClampNeg ((sa s 221 (Int32.toNatClampNeg (s.1 26)) a1).1 26)) ((sa s 221 (Int32.toNatClampNeg (s.1 26)) a1).1 7)) 224 (Int32.toNatClampNeg ((sa (sa s 221 (Int32.toNatClampNeg (s.1 26)) a1) 222 (Int32.toNatClampNeg ((sa s 221 (Int32.toNatClampNeg (s.1 26)) a1).1 26)) ((sa s 221 (Int32.toNatClampNeg (s.1 26)) a1).1 7)).1 26)) (-1)) 225 (Int32.toNatClampNeg ((sa (sa (sa s 221 (Int32.toNatClampNeg (s.1 26)) a1) 222 (Int32.toNatClampNeg ((sa s 221 (Int32.toNatClampNeg (s.1 26)) a1).1 26)) ((sa s 221 (Int32.toNatClampNeg (s.1 26)) a1).1 7)) 224 (Int32.toNatClampNeg ((sa (sa s 221 (Int32.toNatClampNeg (s.1 26)) a1) 222 (Int32.toNatClampNeg ((sa s 221 (Int32.toNatClampNeg (s.1 26)) a1).1 26)) ((sa s 221 (Int32.toNatClampNeg (s.1 26)) a1).1 7)).1 26)) (-1)).1 26)) (-1)) 226 (Int32.toNatClampNeg ((sa (sa (sa (sa s 221 (Int32.toNatClampNeg (s.1 26)) a1) 222 (Int32.toNatClampNeg ((sa s 221 (Int32.toNatClampNeg (s.1 26)) a1).1 26)) ((sa s 221 (Int32.toNatClampNeg (s.1 26)) a1).1 7)) 224 (Int32.toNatClampNeg ((sa (sa s 221 (Int32.toNatClampNeg (s.1 26)) a1) 222 (Int32.toNatClampNeg ((sa s 221 (Int32.toNatClampNeg (s.1 26)) a1).1 26)) ((sa s 221 (Int32.toNatClampNeg (s.1 26)) a1).1 7)).1 26)) (-1)) 225 (Int32.toNatClampNeg ((sa (sa (sa s 221 (Int32.toNatClampNeg (s.1 26)) a1) 222 (Int32.toNatClampNeg ((sa s 221 (Int32.toNatClampNeg (s.1 26)) a1).1 26)) ((sa s 221 (Int32.toNatClampNeg (s.1 26)) a1).1 7)) 224 (Int32.toNatClampNeg ((sa (sa s 221 (Int32.toNatClampNeg (s.1 26)) a1) 222 (Int32.toNatClampNeg ((sa s 221 (Int32.toNatClampNeg (s.1 26)) a1).1 26)) ((sa s 221 (Int32.toNatClampNeg (s.1 26)) a1).1 7)).1 26)) (-1)).1 26)) (-1)).1 26)) 0).1 26)) (-1)).1 26)) (-1)) 229 (Int32.toNatClampNeg ((sa (sa (sa (sa (sa (sa (sa s 221 (Int32.toNatClampNeg (s.1 26)) a1) 222 (Int32.toNatClampNeg ((sa s 221 (Int32.toNatClampNeg (s.1 26)) a1).1 26)) ((sa s 221 (Int32.toNatClampNeg (s.1 26)) a1).1 7)) 224 (Int32.toNatClampNeg ((sa (sa s 221 (Int32.toNatClampNeg (s.1 26)) a1) 222 (Int32.toNatClampNeg ((sa s 221 (Int32.toNatClampNeg (s.1 26)) a1).1 26)) ((sa s 221 (Int32.toNatClampNeg (s.1 26)) a1).1 7)).1 26)) (-1)) 225 (Int32.toNatClampNeg ((sa (sa (sa s 221 (Int32.toNatClampNeg (s.1 26)) a1) 222 (Int32.toNatClampNeg ((sa s 221 (Int32.toNatClampNeg (s.1 26)) a1).1 26)) ((sa s 221 (Int32.toNatClampNeg (s.1 26)) a1).1 7)) 224 (Int32.toNatClampNeg ((sa (sa s 221 (Int32.toNatClampNeg (s.1 26)) a1) 222 (Int32.toNatClampNeg ((sa s 221 (Int32.toNatClampNeg (s.1 26)) a1).1 26)) ((sa s 221 (Int32.toNatClampNeg (s.1 26)) a1).1 7)).1 26)) (-1)).1 26)) (-1)) 226 (Int32.toNatClampNeg ((sa (sa (sa (sa s 221 (Int32.toNatClampNeg (s.1 26)) a1) 222 (Int32.toNatClampNeg ((sa s 221 (Int32.toNatClampNeg (s.1 26)) a1).1 26)) ((sa s 221 (Int32.toNatClampNeg (s.1 26)) a1).1 7)) 224 (Int32.toNatClampNeg ((sa (sa s 221 (Int32.toNatClampNeg (s.1 26)) a1) 222 (Int32.toNatClampNeg ((sa s 221 (Int32.toNatClampNeg (s.1 26)) a1).1 26)) ((sa s 221 (Int32.toNatClampNeg (s.1 26)) a1).1 7)).1 26)) (-1)) 225 (Int32.toNatClampNeg ((sa (sa (sa s 221 (Int32.toNatClampNeg (s.1 26)) a1) 222 (Int32.toNatClampNeg ((sa s 221 (Int32.toNatClampNeg (s.1 26)) a1).1 26)) ((sa s 221 (Int32.toNatClampNeg (s.1 26)) a1).1 7)) 224 (Int32.toNatClampNeg ((sa (sa s 221 (Int32.toNatClampNeg (s.1 26)) a1) 222 (Int32.toNatClampNeg ((sa s 221 (Int32.toNatClampNeg (s.1 26)) a1).1 26)) ((sa s 221 (Int32.toNatClampNeg (s.1 26)) a1).1 7)).1 26)) (-1)).1 26)) (-1)).1 26)) 0) 227 (Int32.toNatClampNeg ((sa (sa (sa (sa (sa s 221 (Int32.toNatClampNeg (s.1 26)) a1) 222 (Int32.toNatClampNeg ((sa s 221 (Int32.toNatClampNeg (s.1 26)) a1).1 26)) ((sa s 221 (Int32.toNatClampNeg (s.1 26)) a1).1 7)) 224 (Int32.toNatClampNeg ((sa (sa s 221 (Int32.toNatClampNeg (s.1 26)) a1) 222 (Int32.toNatClampNeg ((sa s 221 (Int32.toNatClampNeg (s.1 26)) a1).1 26)) ((sa s 221 (Int32.toNatClampNeg (s.1 26)) a1).1 7)).1 26)) (-1)) 225 (Int32.toNatClampNeg ((sa (sa (sa s 221 (Int32.toNatClampNeg (s.1 26)) a1) 222 (Int32.toNatClampNeg ((sa s 221 (Int32.toNatClampNeg (s.1 26)) a1).1 26)) ((sa s 221 (Int32.toNatClampNeg (s.1 26)) a1).1 7)) 224 (Int32.toNatClampNeg ((sa (sa s 221 (Int32.toNatClampNeg (s.1 26)) a1) 222 (Int32.toNatClampNeg ((sa s 221 (Int32.toNatClampNeg (s.1 26)) a1).1 26)) ((sa s 221 (Int32.toNatClampNeg (s.1 26)) a1).1 7)).1 26)) (-1)).1 26)) (-1)) 226 (Int32.toNatClampNeg ((sa (sa (sa (sa s 221 (Int32.toNatClampNeg (s.1 26)) a1) 222 (Int32.toNatClampNeg ((sa s 221 (Int32.toNatClampNeg (s.1 26)) a1).1 26)) ((sa s 221 (Int32.toNatClampNeg (s.1 26)) a1).1 7)) 224 (Int32.toNatClampNeg ((sa (sa s 221 (Int32.toNatClampNeg (s.1 26)) a1) 222 (Int32.toNatClampNeg ((sa s 221 (Int32.toNatClampNeg (s.1 26)) a1).1 26)) ((sa s 221 (Int32.toNatClampNeg (s.1 26)) a1).1 7)).1 26)) (-1)) 225 (Int32.toNatClampNeg ((sa (sa (sa s 221 (Int32.toNatClampNeg (s.1 26)) a1) 222 (Int32.toNatClampNeg ((sa s 221 (Int32.toNatClampNeg (s.1 26)) a1).1 26)) ((sa s 221 (Int32.toNatClampNeg (s.1 26)) a1).1 7)) 224 (Int32.toNatClampNeg ((sa (sa s 221 (Int32.toNatClampNeg (s.1 26)) a1) 222 (Int32.toNatClampNeg ((sa s 221 (Int32.toNatClampNeg (s.1 26)) a1).1 26)) ((sa s 221 (Int32.toNatClampNeg (s.1 26)) a1).1 7)).1 26)) (-1)).1 26)) (-1)).1 26)) 0).1 26)) (-1)) 228 (Int32.toNatClampNeg ((sa (sa (sa (sa (sa (sa s 221 (Int32.toNatClampNeg (s.1 26)) a1) 222 (Int32.toNatClampNeg ((sa s 221 (Int32.toNatClampNeg (s.1 26)) a1).1 26)) ((sa s 221 (Int32.toNatClampNeg (s.1 26)) a1).1 7)) 224 (Int32.toNatClampNeg ((sa (sa s 221 (Int32.toNatClampNeg (s.1 26)) a1) 222 (Int32.toNatClampNeg ((sa s 221 (Int32.toNatClampNeg (s.1 26)) a1).1 26)) ((sa s 221 (Int32.toNatClampNeg (s.1 26)) a1).1 7)).1 26)) (-1)) 225 (Int32.toNatClampNeg ((sa (sa (sa s 221 (Int32.toNatClampNeg (s.1 26)) a1) 222 (Int32.toNatClampNeg ((sa s 221 (Int32.toNatClampNeg (s.1 26)) a1).1 26)) ((sa s 221 (Int32.toNatClampNeg (s.1 26)) a1).1 7)) 224 (Int32.toNatClampNeg ((sa (sa s 221 (Int32.toNatClampNeg (s.1 26)) a1) 222 (Int32.toNatClampNeg ((sa s 221 (Int32.toNatClampNeg (s.1 26)) a1).1 26)) ((sa s 221 (Int32.toNatClampNeg (s.1 26)) a1).1 7)).1 26)) (-1)).1 26)) (-1)) 226 (Int32.toNatClampNeg ((sa (sa (sa (sa s 221 (Int32.toNatClampNeg (s.1 26)) a1) 222 (Int32.toNatClampNeg ((sa s 221 (Int32.toNatClampNeg (s.1 26)) a1).1 26)) ((sa s 221 (Int32.toNatClampNeg (s.1 26)) a1).1 7)) 224 (Int32.toNatClampNeg ((sa (sa s 221 (Int32.toNatClampNeg (s.1 26)) a1) 222 (Int32.toNatClampNeg ((sa s 221 (Int32.toNatClampNeg (s.1 26)) a1).1 26)) ((sa s 221 (Int32.toNatClampNeg (s.1 26)) a1).1 7)).1 26)) (-1)) 225 (Int32.toNatClampNeg ((sa (sa (sa s 221 (Int32.toNatClampNeg (s.1 26)) a1) 222 (Int32.toNatClampNeg ((sa s 221 (Int32.toNatClampNeg (s.1 26)) a1).1 26)) ((sa s 221 (Int32.toNatClampNeg (s.1 26)) a1).1 7)) 224 (Int32.toNatClampNeg ((sa (sa s 221 (Int32.toNatClampNeg (s.1 26)) a1) 222 (Int32.toNatClampNeg ((sa s 221 (Int32.toNatClampNeg (s.1 26)) a1).1 26)) ((sa s 221 (Int32.toNatClampNeg (s.1 26)) a1).1 7)).1 26)) (-1)).1 26)) (-1)).1 26)) 0) 227 (Int32.toNatClampNeg ((sa (sa (sa (sa (sa s 221 (Int32.toNatClampNeg (s.1 26)) a1) 222 (Int32.toNatClampNeg ((sa s 221 (Int32.toNatClampNeg (s.1 26)) a1).1 26)) ((sa s 221 (Int32.toNatClampNeg (s.1 26)) a1).1 7)) 224 (Int32.toNatClampNeg ((sa (sa s 221 (Int32.toNatClampNeg (s.1 26)) a1) 222 (Int32.toNatClampNeg ((sa s 221 (Int32.toNatClampNeg (s.1 26)) a1).1 26)) ((sa s 221 (Int32.toNatClampNeg (s.1 26)) a1).1 7)).1 26)) (-1)) 225 (Int32.toNatClampNeg ((sa (sa (sa s 221 (Int32.toNatClampNeg (s.1 26)) a1) 222 (Int32.toNatClampNeg ((sa s 221 (Int32.toNatClampNeg (s.1 26)) a1).1 26)) ((sa s 221 (Int32.toNatClampNeg (s.1 26)) a1).1 7)) 224 (Int32.toNatClampNeg ((sa (sa s 221 (Int32.toNatClampNeg (s.1 26)) a1) 222 (Int32.toNatClampNeg ((sa s 221 (Int32.toNatClampNeg (s.1 26)) a1).1 26)) ((sa s 221 (Int32.toNatClampNeg (s.1 26)) a1).1 7)).1 26)) (-1)).1 26)) (-1)) 226 (Int32.toNatClampNeg ((sa (sa (sa (sa s 221 (Int32.toNatClampNeg (s.1 26)) a1) 222 (Int32.toNatClampNeg ((sa s 221 (Int32.toNatClampNeg (s.1 26)) a1).1 26)) ((sa s 221 (Int32.toNatClampNeg (s.1 26)) a1).1 7)) 224 (Int32.toNatClampNeg ((sa (sa s 221 (Int32.toNatClampNeg (s.1 26)) a1) 222 (Int32.toNatClampNeg ((sa s 221 (Int32.toNatClampNeg (s.1 26)) a1).1 26)) ((sa s 221 (Int32.toNatClampNeg (s.1 26)) a1).1 7)).1 26)) (-1)) 225 (Int32.toNatClampNeg ((sa (sa (sa s 221 (Int32.toNatClampNeg (s.1 26)) a1) 222 (Int32.toNatClampNeg ((sa s 221 (Int32.toNatClampNeg (s.1 26)) a1).1 26)) ((sa s 221 (Int32.toNatClampNeg (s.1 26)) a1).1 7)) 224 (Int32.toNatClampNeg ((sa (sa s 221 (Int32.toNatClampNeg (s.1 26)) a1) 222 (Int32.toNatClampNeg ((sa s 221 (Int32.toNatClampNeg (s.1 26)) a1).1 26)) ((sa s 221 (Int32.toNatClampNeg (s.1 26)) a1).1 7)).1 26)) (-1)).1 26)) (-1)).1 26)) 0).1 26)) (-1)).1 26)) (-1)).1 26)) (-1)) 230 (Int32.toNatClampNeg ((sa (sa (sa (sa (sa (sa (sa (sa s 221 (Int32.toNatClampNeg (s.1 26)) a1) 222 (Int32.toNatClampNeg ((sa s 221 (Int32.toNatClampNeg (s.1 26)) a1).1 26)) ((sa s 221 (Int32.toNatClampNeg (s.1 26)) a1).1 7)) 224 (Int32.toNatClampNeg ((sa (sa s 221 (Int32.toNatClampNeg (s.1 26)) a1) 222 (Int32.toNatClampNeg ((sa s 221 (Int32.toNatClampNeg (s.1 26)) a1).1 26)) ((sa s 221 (Int32.toNatClampNeg (s.1 26)) a1).1 7)).1 26)) (-1)) 225 (Int32.toNatClampNeg ((sa (sa (sa s 221 (Int32.toNatClampNeg (s.1 26)) a1) 222 (Int32.toNatClampNeg ((sa s 221 (Int32.toNatClampNeg (s.1 26)) a1).1 26)) ((sa s 221 (Int32.toNatClampNeg (s.1 26)) a1).1 7)) 224 (Int32.toNatClampNeg ((sa (sa s 221 (Int32.toNatClampNeg (s.1 26)) a1) 222 (Int32.toNatClampNeg ((sa s 221 (Int32.toNatClampNeg (s.1 26)) a1).1 26)) ((sa s 221 (Int32.toNatClampNeg (s.1 26)) a1).1 7)).1 26)) (-1)).1 26)) (-1)) 226 (Int32.toNatClampNeg ((sa (sa (sa (sa s 221 (Int32.toNatClampNeg (s.1 26)) a1) 222 (Int32.toNatClampNeg ((sa s 221 (Int32.toNatClampNeg (s.1 26)) a1).1 26)) ((sa s 221 (Int32.toNatClampNeg (s.1 26)) a1).1 7)) 224 (Int32.toNatClampNeg ((sa (sa s 221 (Int32.toNatClampNeg (s.1 26)) a1) 222 (Int32.toNatClampNeg ((sa s 221 (Int32.toNatClampNeg (s.1 26)) a1).1 26)) ((sa s 221 (Int32.toNatClampNeg (s.1 26)) a1).1 7)).1 26)) (-1)) 225 (Int32.toNatClampNeg ((sa (sa (sa s 221 (Int32.toNatClampNeg (s.1 26)) a1) 222 (Int32.toNatClampNeg ((sa s 221 (Int32.toNatClampNeg (s.1 26)) a1).1 26)) ((sa s 221 (Int32.toNatClampNeg (s.1 26)) a1).1 7)) 224 (Int32.toNatClampNeg ((sa (sa s 221 (Int32.toNatClampNeg (s.1 26)) a1) 222 (Int32.toNatClampNeg ((sa s 221 (Int32.toNatClampNeg (s.1 26)) a1).1 26)) ((sa s 221 (Int32.toNatClampNeg (s.1 26)) a1).1 7)).1 26)) (-1)).1 26)) (-1)).1 26)) 0) 227 (Int32.toNatClampNeg ((sa (sa (sa (sa (sa s 221 (Int32.toNatClampNeg (s.1 26)) a1) 222 (Int32.toNatClampNeg ((sa s 221 (Int32.toNatClampNeg (s.1 26)) a1).1 26)) ((sa s 221 (Int32.toNatClampNeg (s.1 26)) a1).1 7)) 224 (Int32.toNatClampNeg ((sa (sa s 221 (Int32.toNatClampNeg (s.1 26)) a1) 222 (Int32.toNatClampNeg ((sa s 221 (Int32.toNatClampNeg (s.1 26)) a1).1 26)) ((sa s 221 (Int32.toNatClampNeg (s.1 26)) a1).1 7)).1 26)) (-1)) 225 (Int32.toNatClampNeg ((sa (sa (sa s 221 (Int32.toNatClampNeg (s.1 26)) a1) 222 (Int32.toNatClampNeg ((sa s 221 (Int32.toNatClampNeg (s.1 26)) a1).1 26)) ((sa s 221 (Int32.toNatClampNeg (s.1 26)) a1).1 7)) 224 (Int32.toNatClampNeg ((sa (sa s 221 (Int32.toNatClampNeg (s.1 26)) a1) 222 (Int32.toNatClampNeg ((sa s 221 (Int32.toNatClampNeg (s.1 26)) a1).1 26)) ((sa s 221 (Int32.toNatClampNeg (s.1 26)) a1).1 7)).1 26)) (-1)).1 26)) (-1)) 226 (Int32.toNatClampNeg ((sa (sa (sa (sa s 221 (Int32.toNatClampNeg (s.1 26)) a1) 222 (Int32.toNatClampNeg ((sa s 221 (Int32.toNatClampNeg (s.1 26)) a1).1 26)) ((sa s 221 (Int32.toNatClampNeg (s.1 26)) a1).1 7)) 224 (Int32.toNatClampNeg ((sa (sa s 221 (Int32.toNatClampNeg (s.1 26)) a1) 222 (Int32.toNatClampNeg ((sa s 221 (Int32.toNatClampNeg (s.1 26)) a1).1 26)) ((sa s 221 (Int32.toNatClampNeg (s.1 26)) a1).1 7)).1 26)) (-1)) 225 (Int32.toNatClampNeg ((sa (sa (sa s 221 (Int32.toNatClampNeg (s.1 26)) a1) 222 (Int32.toNatClampNeg ((sa s 221 (Int32.toNatClampNeg (s.1 26)) a1).1 26)) ((sa s 221 (Int32.toNatClampNeg (s.1 26)) a1).1 7)) 224 (Int32.toNatClampNeg ((sa (sa s 221 (Int32.toNatClampNeg (s.1 26)) a1) 222 (Int32.toNatClampNeg ((sa s 221 (Int32.toNatClampNeg (s.1 26)) a1).1 26)) ((sa s 221 (Int32.toNatClampNeg (s.1 26)) a1).1 7)).1 26)) (-1)).1 26)) (-1)).1 26)) 0).1 26)) (-1)) 228 (Int32.toNatClampNeg ((sa (sa (sa (sa (sa (sa s 221 (Int32.toNatClampNeg (s.1 26)) a1) 222 (Int32.toNatClampNeg ((sa s 221 (Int32.toNatClampNeg (s.1 26)) a1).1 26)) ((sa s 221 (Int32.toNatClampNeg (s.1 26)) a1).1 7)) 224 (Int32.toNatClampNeg ((sa (sa s 221 (Int32.toNatClampNeg (s.1 26)) a1) 222 (Int32.toNatClampNeg ((sa s 221 (Int32.toNatClampNeg (s.1 26)) a1).1 26)) ((sa s 221 (Int32.toNatClampNeg (s.1 26)) a1).1 7)).1 26)) (-1)) 225 (Int32.toNatClampNeg ((sa (sa (sa s 221 (Int32.toNatClampNeg (s.1 26)) a1) 222 (Int32.toNatClampNeg ((sa s 221 (Int32.toNatClampNeg (s.1 26)) a1).1 26)) ((sa s 221 (Int32.toNatClampNeg (s.1 26)) a1).1 7)) 224 (Int32.toNatClampNeg ((sa (sa s 221 (Int32.toNatClampNeg (s.1 26)) a1) 222 (Int32.toNatClampNeg ((sa s 221 (Int32.toNatClampNeg (s.1 26)) a1).1 26)) ((sa s 221 (Int32.toNatClampNeg (s.1 26)) a1).1 7)).1 26)) (-1)).1 26)) (-1)) 226 (Int32.toNatClampNeg ((sa (sa (sa (sa s 221 (Int32.toNatClampNeg (s.1 26)) a1) 222 (Int32.toNatClampNeg ((sa s 221 (Int32.toNatClampNeg (s.1 26)) a1).1 26)) ((sa s 221 (Int32.toNatClampNeg (s.1 26)) a1).1 7)) 224 (Int32.toNatClampNeg ((sa (sa s 221 (Int32.toNatClampNeg (s.1 26)) a1) 222 (Int32.toNatClampNeg ((sa s 221 (Int32.toNatClampNeg (s.1 26)) a1).1 26)) ((sa s 221 (Int32.toNatClampNeg (s.1 26)) a1).1 7)).1 26)) (-1)) 225 (Int32.toNatClampNeg ((sa (sa (sa s 221 (Int32.toNatClampNeg (s.1 26)) a1) 222 (Int32.toNatClampNeg ((sa s 221 (Int32.toNatClampNeg (s.1 26)) a1).1 26)) ((sa s 221 (Int32.toNatClampNeg (s.1 26)) a1).1 7)) 224 (Int32.toNatClampNeg ((sa (sa s 221 (Int32.toNatClampNeg (s.1 26)) a1) 222 (Int32.toNatClampNeg ((sa s 221 (Int32.toNatClampNeg (s.1 26)) a1).1 26)) ((sa s 221 (Int32.toNatClampNeg (s.1 26)) a1).1 7)).1 26)) (-1)).1 26)) (-1)).1 26)) 0) 227 (Int32.toNatClampNeg ((sa (sa (sa (sa (sa s 221 (Int32.toNatClampNeg (s.1 26)) a1) 222 (Int32.toNatClampNeg ((sa s 221 (Int32.toNatClampNeg (s.1 26)) a1).1 26)) ((sa s 221 (Int32.toNatClampNeg (s.1 26)) a1).1 7)) 224 (Int32.toNatClampNeg ((sa (sa s 221 (Int32.toNatClampNeg (s.1 26)) a1) 222 (Int32.toNatClampNeg ((sa s 221 (Int32.toNatClampNeg (s.1 26)) a1).1 26)) ((sa s 221 (Int32.toNatClampNeg (s.1 26)) a1).1 7)).1 26)) (-1)) 225 (Int32.toNatClampNeg ((sa (sa (sa s 221 (Int32.toNatClampNeg (s.1 26)) a1) 222 (Int32.toNatClampNeg ((sa s 221 (Int32.toNatClampNeg (s.1 26)) a1).1 26)) ((sa s 221 (Int32.toNatClampNeg (s.1 26)) a1).1 7)) 224 (Int32.toNatClampNeg ((sa (sa s 221 (Int32.toNatClampNeg (s.1 26)) a1) 222 (Int32.toNatClampNeg ((sa s 221 (Int32.toNatClampNeg (s.1 26)) a1).1 26)) ((sa s 221 (Int32.toNatClampNeg (s.1 26)) a1).1 7)).1 26)) (-1)).1 26)) (-1)) 226 (Int32.toNatClampNeg ((sa (sa (sa (sa s 221 (Int32.toNatClampNeg (s.1 26)) a1) 222 (Int32.toNatClampNeg ((sa s 221 (Int32.toNatClampNeg (s.1 26)) a1).1 26)) ((sa s 221 (Int32.toNatClampNeg (s.1 26)) a1).1 7)) 224 (Int32.toNatClampNeg ((sa (sa s 221 (Int32.toNatClampNeg (s.1 26)) a1) 222 (Int32.toNatClampNeg ((sa s 221 (Int32.toNatClampNeg (s.1 26)) a1).1 26)) ((sa s 221 (Int32.toNatClampNeg (s.1 26)) a1).1 7)).1 26)) (-1)) 225 (Int32.toNatClampNeg ((sa (sa (sa s 221 (Int32.toNatClampNeg (s.1 26)) a1) 222 (Int32.toNatClampNeg ((sa s 221 (Int32.toNatClampNeg (s.1 26)) a1).1 26)) ((sa s 221 (Int32.toNatClampNeg (s.1 26)) a1).1 7)) 224 (Int32.toNatClampNeg ((sa (sa s 221 (Int32.toNatClampNeg (s.1 26)) a1) 222 (Int32.toNatClampNeg ((sa s 221 (Int32.toNatClampNeg (s.1 26)) a1).1 26)) ((sa s 221 (Int32.toNatClampNeg (s.1 26)) a1).1 7)).1 26)) (-1)).1 26)) (-1)).1 26)) 0).1 26)) (-1)).1 26)) (-1)) 229 (Int32.toNatClampNeg ((sa (sa (sa (sa (sa (sa (sa s 221 (Int32.toNatClampNeg (s.1 26)) a1) 222 (Int32.toNatClampNeg ((sa s 221 (Int32.toNatClampNeg (s.1 26)) a1).1 26)) ((sa s 221 (Int32.toNatClampNeg (s.1 26)) a1).1 7)) 224 (Int32.toNatClampNeg ((sa (sa s 221 (Int32.toNatClampNeg (s.1 26)) a1) 222 (Int32.toNatClampNeg ((sa s 221 (Int32.toNatClampNeg (s.1 26)) a1).1 26)) ((sa s 221 (Int32.toNatClampNeg (s.1 26)) a1).1 7)).1 26)) (-1)) 225 (Int32.toNatClampNeg ((sa (sa (sa s 221 (Int32.toNatClampNeg (s.1 26)) a1) 222 (Int32.toNatClampNeg ((sa s 221 (Int32.toNatClampNeg (s.1 26)) a1).1 26)) ((sa s 221 (Int32.toNatClampNeg (s.1 26)) a1).1 7)) 224 (Int32.toNatClampNeg ((sa (sa s 221 (Int32.toNatClampNeg (s.1 26)) a1) 222 (Int32.toNatClampNeg ((sa s 221 (Int32.toNatClampNeg (s.1 26)) a1).1 26)) ((sa s 221 (Int32.toNatClampNeg (s.1 26)) a1).1 7)).1 26)) (-1)).1 26)) (-1)) 226 (Int32.toNatClampNeg ((sa (sa (sa (sa s 221 (Int32.toNatClampNeg (s.1 26)) a1) 222 (Int32.toNatClampNeg ((sa s 221 (Int32.toNatClampNeg (s.1 26)) a1).1 26)) ((sa s 221 (Int32.toNatClampNeg (s.1 26)) a1).1 7)) 224 (Int32.toNatClampNeg ((sa (sa s 221 (Int32.toNatClampNeg (s.1 26)) a1) 222 (Int32.toNatClampNeg ((sa s 221 (Int32.toNatClampNeg (s.1 26)) a1).1 26)) ((sa s 221 (Int32.toNatClampNeg (s.1 26)) a1).1 7)).1 26)) (-1)) 225 (Int32.toNatClampNeg ((sa (sa (sa s 221 (Int32.toNatClampNeg (s.1 26)) a1) 222 (Int32.toNatClampNeg ((sa s 221 (Int32.toNatClampNeg (s.1 26)) a1).1 26)) ((sa s 221 (Int32.toNatClampNeg (s.1 26)) a1).1 7)) 224 (Int32.toNatClampNeg ((sa (sa s 221 (Int32.toNatClampNeg (s.1 26)) a1) 222 (Int32.toNatClampNeg ((sa s 221 (Int32.toNatClampNeg (s.1 26)) a1).1 26)) ((sa s 221 (Int32.toNatClampNeg (s.1 26)) a1).1 7)).1 26)) (-1)).1 26)) (-1)).1 26)) 0) 227 (Int32.toNatClampNeg ((sa (sa (sa (sa (sa s 221 (Int32.toNatClampNeg (s.1 26)) a1) 222 (Int32.toNatClampNeg ((sa s 221 (Int32.toNatClampNeg (s.1 26)) a1).1 26)) ((sa s 221 (Int32.toNatClampNeg (s.1 26)) a1).1 7)) 224 (Int32.toNatClampNeg ((sa (sa s 221 (Int32.toNatClampNeg (s.1 26)) a1) 222 (Int32.toNatClampNeg ((sa s 221 (Int32.toNatClampNeg (s.1 26)) a1).1 26)) ((sa s 221 (Int32.toNatClampNeg (s.1 26)) a1).1 7)).1 26)) (-1)) 225 (Int32.toNatClampNeg ((sa (sa (sa s 221 (Int32.toNatClampNeg (s.1 26)) a1) 222 (Int32.toNatClampNeg ((sa s 221 (Int32.toNatClampNeg (s.1 26)) a1).1 26)) ((sa s 221 (Int32.toNatClampNeg (s.1 26)) a1).1 7)) 224 (Int32.toNatClampNeg ((sa (sa s 221 (Int32.toNatClampNeg (s.1 26)) a1) 222 (Int32.toNatClampNeg ((sa s 221 (Int32.toNatClampNeg (s.1 26)) a1).1 26)) ((sa s 221 (Int32.toNatClampNeg (s.1 26)) a1).1 7)).1 26)) (-1)).1 26)) (-1)) 226 (Int32.toNatClampNeg ((sa (sa (sa (sa s 221 (Int32.toNatClampNeg (s.1 26)) a1) 222 (Int32.toNatClampNeg ((sa s 221 (Int32.toNatClampNeg (s.1 26)) a1).1 26)) ((sa s 221 (Int32.toNatClampNeg (s.1 26)) a1).1 7)) 224 (Int32.toNatClampNeg ((sa (sa s 221 (Int32.toNatClampNeg (s.1 26)) a1) 222 (Int32.toNatClampNeg ((sa s 221 (Int32.toNatClampNeg (s.1 26)) a1).1 26)) ((sa s 221 (Int32.toNatClampNeg (s.1 26)) a1).1 7)).1 26)) (-1)) 225 (Int32.toNatClampNeg ((sa (sa (sa s 221 (Int32.toNatClampNeg (s.1 26)) a1) 222 (Int32.toNatClampNeg ((sa s 221 (Int32.toNatClampNeg (s.1 26)) a1).1 26)) ((sa s 221 (Int32.toNatClampNeg (s.1 26)) a1).1 7)) 224 (Int32.toNatClampNeg ((sa (sa s 221 (Int32.toNatClampNeg (s.1 26)) a1) 222 (Int32.toNatClampNeg ((sa s 221 (Int32.toNatClampNeg (s.1 26)) a1).1 26)) ((sa s 221 (Int32.toNatClampNeg (s.1 26)) a1).1 7)).1 26)) (-1)).1 26)) (-1)).1 26)) 0).1 26)) (-1)) 228 (Int32.toNatClampNeg ((sa (sa (sa (sa (sa (sa s 221 (Int32.toNatClampNeg (s.1 26)) a1) 222 (Int32.toNatClampNeg ((sa s 221 (Int32.toNatClampNeg (s.1 26)) a1).1 26)) ((sa s 221 (Int32.toNatClampNeg (s.1 26)) a1).1 7)) 224 (Int32.toNatClampNeg ((sa (sa s 221 (Int32.toNatClampNeg (s.1 26)) a1) 222 (Int32.toNatClampNeg ((sa s 221 (Int32.toNatClampNeg (s.1 26)) a1).1 26)) ((sa s 221 (Int32.toNatClampNeg (s.1 26)) a1).1 7)).1 26)) (-1)) 225 (Int32.toNatClampNeg ((sa (sa (sa s 221 (Int32.toNatClampNeg (s.1 26)) a1) 222 (Int32.toNatClampNeg ((sa s 221 (Int32.toNatClampNeg (s.1 26)) a1).1 26)) ((sa s 221 (Int32.toNatClampNeg (s.1 26)) a1).1 7)) 224 (Int32.toNatClampNeg ((sa (sa s 221 (Int32.toNatClampNeg (s.1 26)) a1) 222 (Int32.toNatClampNeg ((sa s 221 (Int32.toNatClampNeg (s.1 26)) a1).1 26)) ((sa s 221 (Int32.toNatClampNeg (s.1 26)) a1).1 7)).1 26)) (-1)).1 26)) (-1)) 226 (Int32.toNatClampNeg ((sa (sa (sa (sa s 221 (Int32.toNatClampNeg (s.1 26)) a1) 222 (Int32.toNatClampNeg ((sa s 221 (Int32.toNatClampNeg (s.1 26)) a1).1 26)) ((sa s 221 (Int32.toNatClampNeg (s.1 26)) a1).1 7)) 224 (Int32.toNatClampNeg ((sa (sa s 221 (Int32.toNatClampNeg (s.1 26)) a1) 222 (Int32.toNatClampNeg ((sa s 221 (Int32.toNatClampNeg (s.1 26)) a1).1 26)) ((sa s 221 (Int32.toNatClampNeg (s.1 26)) a1).1 7)).1 26)) (-1)) 225 (Int32.toNatClampNeg ((sa (sa (sa s 221 (Int32.toNatClampNeg (s.1 26)) a1) 222 (Int32.toNatClampNeg ((sa s 221 (Int32.toNatClampNeg (s.1 26)) a1).1 26)) ((sa s 221 (Int32.toNatClampNeg (s.1 26)) a1).1 7)) 224 (Int32.toNatClampNeg ((sa (sa s 221 (Int32.toNatClampNeg (s.1 26)) a1) 222 (Int32.toNatClampNeg ((sa s 221 (Int32.toNatClampNeg (s.1 26)) a1).1 26)) ((sa s 221 (Int32.toNatClampNeg (s.1 26)) a1).1 7)).1 26)) (-1)).1 26)) (-1)).1 26)) 0) 227 (Int32.toNatClampNeg ((sa (sa (sa (sa (sa s 221 (Int32.toNatClampNeg (s.1 26)) a1) 222 (Int32.toNatClampNeg ((sa s 221 (Int32.toNatClampNeg (s.1 26)) a1).1 26)) ((sa s 221 (Int32.toNatClampNeg (s.1 26)) a1).1 7)) 224 (Int32.toNatClampNeg ((sa (sa s 221 (Int32.toNatClampNeg (s.1 26)) a1) 222 (Int32.toNatClampNeg ((sa s 221 (Int32.toNatClampNeg (s.1 26)) a1).1 26)) ((sa s 221 (Int32.toNatClampNeg (s.1 26)) a1).1 7)).1 26)) (-1)) 225 (Int32.toNatClampNeg ((sa (sa (sa s 221 (Int32.toNatClampNeg (s.1 26)) a1) 222 (Int32.toNatClampNeg ((sa s 221 (Int32.toNatClampNeg (s.1 26)) a1).1 26)) ((sa s 221 (Int32.toNatClampNeg (s.1 26)) a1).1 7)) 224 (Int32.toNatClampNeg ((sa (sa s 221 (Int32.toNatClampNeg (s.1 26)) a1) 222 (Int32.toNatClampNeg ((sa s 221 (Int32.toNatClampNeg (s.1 26)) a1).1 26)) ((sa s 221 (Int32.toNatClampNeg (s.1 26)) a1).1 7)).1 26)) (-1)).1 26)) (-1)) 226 (Int32.toNatClampNeg ((sa (sa (sa (sa s 221 (Int32.toNatClampNeg (s.1 26)) a1) 222 (Int32.toNatClampNeg ((sa s 221 (Int32.toNatClampNeg (s.1 26)) a1).1 26)) ((sa s 221 (Int32.toNatClampNeg (s.1 26)) a1).1 7)) 224 (Int32.toNatClampNeg ((sa (sa s 221 (Int32.toNatClampNeg (s.1 26)) a1) 222 (Int32.toNatClampNeg ((sa s 221 (Int32.toNatClampNeg (s.1 26)) a1).1 26)) ((sa s 221 (Int32.toNatClampNeg (s.1 26)) a1).1 7)).1 26)) (-1)) 225 (Int32.toNatClampNeg ((sa (sa (sa s 221 (Int32.toNatClampNeg (s.1 26)) a1) 222 (Int32.toNatClampNeg ((sa s 221 (Int32.toNatClampNeg (s.1 26)) a1).1 26)) ((sa s 221 (Int32.toNatClampNeg (s.1 26)) a1).1 7)) 224 (Int32.toNatClampNeg ((sa (sa s 221 (Int32.toNatClampNeg (s.1 26)) a1) 222 (Int32.toNatClampNeg ((sa s 221 (Int32.toNatClampNeg (s.1 26)) a1).1 26)) ((sa s 221 (Int32.toNatClampNeg (s.1 26)) a1).1 7)).1 26)) (-1)).1 26)) (-1)).1 26)) 0).1 26)) (-1)).1 26)) (-1)).1 26)) (-1)).1 26)) 0) 26 (((sa (sa (sa (sa (sa (sa (sa (sa (sa s 221 (Int32.toNatClampNeg (s.1 26)) a1) 222 (Int32.toNatClampNeg ((sa s 221 (Int32.toNatClampNeg (s.1 26)) a1).1 26)) ((sa s 221 (Int32.toNatClampNeg (s.1 26)) a1).1 7)) 224 (Int32.toNatClampNeg ((sa (sa s 221 (Int32.toNatClampNeg (s.1 26)) a1) 222 (Int32.toNatClampNeg ((sa s 221 (Int32.toNatClampNeg (s.1 26)) a1).1 26)) ((sa s 221 (Int32.toNatClampNeg (s.1 26)) a1).1 7)).1 26)) (-1)) 225 (Int32.toNatClampNeg ((sa (sa (sa s 221 (Int32.toNatClampNeg (s.1 26)) a1) 222 (Int32.toNatClampNeg ((sa s 221 (Int32.toNatClampNeg (s.1 26)) a1).1 26)) ((sa s 221 (Int32.toNatClampNeg (s.1 26)) a1).1 7)) 224 (Int32.toNatClampNeg ((sa (sa s 221 (Int32.toNatClampNeg (s.1 26)) a1) 222 (Int32.toNatClampNeg ((sa s 221 (Int32.toNatClampNeg (s.1 26)) a1).1 26)) ((sa s 221 (Int32.toNatClampNeg (s.1 26)) a1).1 7)).1 26)) (-1)).1 26)) (-1)) 226 (Int32.toNatClampNeg ((sa (sa (sa (sa s 221 (Int32.toNatClampNeg (s.1 26)) a1) 222 (Int32.toNatClampNeg ((sa s 221 (Int32.toNatClampNeg (s.1 26)) a1).1 26)) ((sa s 221 (Int32.toNatClampNeg (s.1 26)) a1).1 7)) 224 (Int32.toNatClampNeg ((sa (sa s 221 (Int32.toNatClampNeg (s.1 26)) a1) 222 (Int32.toNatClampNeg ((sa s 221 (Int32.toNatClampNeg (s.1 26)) a1).1 26)) ((sa s 221 (Int32.toNatClampNeg (s.1 26)) a1).1 7)).1 26)) (-1)) 225 (Int32.toNatClampNeg ((sa (sa (sa s 221 (Int32.toNatClampNeg (s.1 26)) a1) 222 (Int32.toNatClampNeg ((sa s 221 (Int32.toNatClampNeg (s.1 26)) a1).1 26)) ((sa s 221 (Int32.toNatClampNeg (s.1 26)) a1).1 7)) 224 (Int32.toNatClampNeg ((sa (sa s 221 (Int32.toNatClampNeg (s.1 26)) a1) 222 (Int32.toNatClampNeg ((sa s 221 (Int32.toNatClampNeg (s.1 26)) a1).1 26)) ((sa s 221 (Int32.toNatClampNeg (s.1 26)) a1).1 7)).1 26)) (-1)).1 26)) (-1)).1 26)) 0) 227 (Int32.toNatClampNeg ((sa (sa (sa (sa (sa s 221 (Int32.toNatClampNeg (s.1 26)) a1) 222 (Int32.toNatClampNeg ((sa s 221 (Int32.toNatClampNeg (s.1 26)) a1).1 26)) ((sa s 221 (Int32.toNatClampNeg (s.1 26)) a1).1 7)) 224 (Int32.toNatClampNeg ((sa (sa s 221 (Int32.toNatClampNeg (s.1 26)) a1) 222 (Int32.toNatClampNeg ((sa s 221 (Int32.toNatClampNeg (s.1 26)) a1).1 26)) ((sa s 221 (Int32.toNatClampNeg (s.1 26)) a1).1 7)).1 26)) (-1)) 225 (Int32.toNatClampNeg ((sa (sa (sa s 221 (Int32.toNatClampNeg (s.1 26)) a1) 222 (Int32.toNatClampNeg ((sa s 221 (Int32.toNatClampNeg (s.1 26)) a1).1 26)) ((sa s 221 (Int32.toNatClampNeg (s.1 26)) a1).1 7)) 224 (Int32.toNatClampNeg ((sa (sa s 221 (Int32.toNatClampNeg (s.1 26)) a1) 222 (Int32.toNatClampNeg ((sa s 221 (Int32.toNatClampNeg (s.1 26)) a1).1 26)) ((sa s 221 (Int32.toNatClampNeg (s.1 26)) a1).1 7)).1 26)) (-1)).1 26)) (-1)) 226 (Int32.toNatClampNeg ((sa (sa (sa (sa s 221 (Int32.toNatClampNeg (s.1 26)) a1) 222 (Int32.toNatClampNeg ((sa s 221 (Int32.toNatClampNeg (s.1 26)) a1).1 26)) ((sa s 221 (Int32.toNatClampNeg (s.1 26)) a1).1 7)) 224 (Int32.toNatClampNeg ((sa (sa s 221 (Int32.toNatClampNeg (s.1 26)) a1) 222 (Int32.toNatClampNeg ((sa s 221 (Int32.toNatClampNeg (s.1 26)) a1).1 26)) ((sa s 221 (Int32.toNatClampNeg (s.1 26)) a1).1 7)).1 26)) (-1)) 225 (Int32.toNatClampNeg ((sa (sa (sa s 221 (Int32.toNatClampNeg (s.1 26)) a1) 222 (Int32.toNatClampNeg ((sa s 221 (Int32.toNatClampNeg (s.1 26)) a1).1 26)) ((sa s 221 (Int32.toNatClampNeg (s.1 26)) a1).1 7)) 224 (Int32.toNatClampNeg ((sa (sa s 221 (Int32.toNatClampNeg (s.1 26)) a1) 222 (Int32.toNatClampNeg ((sa s 221 (Int32.toNatClampNeg (s.1 26)) a1).1 26)) ((sa s 221 (Int32.toNatClampNeg (s.1 26)) a1).1 7)).1 26)) (-1)).1 26)) (-1)).1 26)) 0).1 26)) (-1)) 228 (Int32.toNatClampNeg ((sa (sa (sa (sa (sa (sa s 221 (Int32.toNatClampNeg (s.1 26)) a1) 222 (Int32.toNatClampNeg ((sa s 221 (Int32.toNatClampNeg (s.1 26)) a1).1 26)) ((sa s 221 (Int32.toNatClampNeg (s.1 26)) a1).1 7)) 224 (Int32.toNatClampNeg ((sa (sa s 221 (Int32.toNatClampNeg (s.1 26)) a1) 222 (Int32.toNatClampNeg ((sa s 221 (Int32.toNatClampNeg (s.1 26)) a1).1 26)) ((sa s 221 (Int32.toNatClampNeg (s.1 26)) a1).1 7)).1 26)) (-1)) 225 (Int32.toNatClampNeg ((sa (sa (sa s 221 (Int32.toNatClampNeg (s.1 26)) a1) 222 (Int32.toNatClampNeg ((sa s 221 (Int32.toNatClampNeg (s.1 26)) a1).1 26)) ((sa s 221 (Int32.toNatClampNeg (s.1 26)) a1).1 7)) 224 (Int32.toNatClampNeg ((sa (sa s 221 (Int32.toNatClampNeg (s.1 26)) a1) 222 (Int32.toNatClampNeg ((sa s 221 (Int32.toNatClampNeg (s.1 26)) a1).1 26)) ((sa s 221 (Int32.toNatClampNeg (s.1 26)) a1).1 7)).1 26)) (-1)).1 26)) (-1)) 226 (Int32.toNatClampNeg ((sa (sa (sa (sa s 221 (Int32.toNatClampNeg (s.1 26)) a1) 222 (Int32.toNatClampNeg ((sa s 221 (Int32.toNatClampNeg (s.1 26)) a1).1 26)) ((sa s 221 (Int32.toNatClampNeg (s.1 26)) a1).1 7)) 224 (Int32.toNatClampNeg ((sa (sa s 221 (Int32.toNatClampNeg (s.1 26)) a1) 222 (Int32.toNatClampNeg ((sa s 221 (Int32.toNatClampNeg (s.1 26)) a1).1 26)) ((sa s 221 (Int32.toNatClampNeg (s.1 26)) a1).1 7)).1 26)) (-1)) 225 (Int32.toNatClampNeg ((sa (sa (sa s 221 (Int32.toNatClampNeg (s.1 26)) a1) 222 (Int32.toNatClampNeg ((sa s 221 (Int32.toNatClampNeg (s.1 26)) a1).1 26)) ((sa s 221 (Int32.toNatClampNeg (s.1 26)) a1).1 7)) 224 (Int32.toNatClampNeg ((sa (sa s 221 (Int32.toNatClampNeg (s.1 26)) a1) 222 (Int32.toNatClampNeg ((sa s 221 (Int32.toNatClampNeg (s.1 26)) a1).1 26)) ((sa s 221 (Int32.toNatClampNeg (s.1 26)) a1).1 7)).1 26)) (-1)).1 26)) (-1)).1 26)) 0) 227 (Int32.toNatClampNeg ((sa (sa (sa (sa (sa s 221 (Int32.toNatClampNeg (s.1 26)) a1) 222 (Int32.toNatClampNeg ((sa s 221 (Int32.toNatClampNeg (s.1 26)) a1).1 26)) ((sa s 221 (Int32.toNatClampNeg (s.1 26)) a1).1 7)) 224 (Int32.toNatClampNeg ((sa (sa s 221 (Int32.toNatClampNeg (s.1 26)) a1) 222 (Int32.toNatClampNeg ((sa s 221 (Int32.toNatClampNeg (s.1 26)) a1).1 26)) ((sa s 221 (Int32.toNatClampNeg (s.1 26)) a1).1 7)).1 26)) (-1)) 225 (Int32.toNatClampNeg ((sa (sa (sa s 221 (Int32.toNatClampNeg (s.1 26)) a1) 222 (Int32.toNatClampNeg ((sa s 221 (Int32.toNatClampNeg (s.1 26)) a1).1 26)) ((sa s 221 (Int32.toNatClampNeg (s.1 26)) a1).1 7)) 224 (Int32.toNatClampNeg ((sa (sa s 221 (Int32.toNatClampNeg (s.1 26)) a1) 222 (Int32.toNatClampNeg ((sa s 221 (Int32.toNatClampNeg (s.1 26)) a1).1 26)) ((sa s 221 (Int32.toNatClampNeg (s.1 26)) a1).1 7)).1 26)) (-1)).1 26)) (-1)) 226 (Int32.toNatClampNeg ((sa (sa (sa (sa s 221 (Int32.toNatClampNeg (s.1 26)) a1) 222 (Int32.toNatClampNeg ((sa s 221 (Int32.toNatClampNeg (s.1 26)) a1).1 26)) ((sa s 221 (Int32.toNatClampNeg (s.1 26)) a1).1 7)) 224 (Int32.toNatClampNeg ((sa (sa s 221 (Int32.toNatClampNeg (s.1 26)) a1) 222 (Int32.toNatClampNeg ((sa s 221 (Int32.toNatClampNeg (s.1 26)) a1).1 26)) ((sa s 221 (Int32.toNatClampNeg (s.1 26)) a1).1 7)).1 26)) (-1)) 225 (Int32.toNatClampNeg ((sa (sa (sa s 221 (Int32.toNatClampNeg (s.1 26)) a1) 222 (Int32.toNatClampNeg ((sa s 221 (Int32.toNatClampNeg (s.1 26)) a1).1 26)) ((sa s 221 (Int32.toNatClampNeg (s.1 26)) a1).1 7)) 224 (Int32.toNatClampNeg ((sa (sa s 221 (Int32.toNatClampNeg (s.1 26)) a1) 222 (Int32.toNatClampNeg ((sa s 221 (Int32.toNatClampNeg (s.1 26)) a1).1 26)) ((sa s 221 (Int32.toNatClampNeg (s.1 26)) a1).1 7)).1 26)) (-1)).1 26)) (-1)).1 26)) 0).1 26)) (-1)).1 26)) (-1)) 229 (Int32.toNatClampNeg ((sa (sa (sa (sa (sa (sa (sa s 221 (Int32.toNatClampNeg (s.1 26)) a1) 222 (Int32.toNatClampNeg ((sa s 221 (Int32.toNatClampNeg (s.1 26)) a1).1 26)) ((sa s 221 (Int32.toNatClampNeg (s.1 26)) a1).1 7)) 224 (Int32.toNatClampNeg ((sa (sa s 221 (Int32.toNatClampNeg (s.1 26)) a1) 222 (Int32.toNatClampNeg ((sa s 221 (Int32.toNatClampNeg (s.1 26)) a1).1 26)) ((sa s 221 (Int32.toNatClampNeg (s.1 26)) a1).1 7)).1 26)) (-1)) 225 (Int32.toNatClampNeg ((sa (sa (sa s 221 (Int32.toNatClampNeg (s.1 26)) a1) 222 (Int32.toNatClampNeg ((sa s 221 (Int32.toNatClampNeg (s.1 26)) a1).1 26)) ((sa s 221 (Int32.toNatClampNeg (s.1 26)) a1).1 7)) 224 (Int32.toNatClampNeg ((sa (sa s 221 (Int32.toNatClampNeg (s.1 26)) a1) 222 (Int32.toNatClampNeg ((sa s 221 (Int32.toNatClampNeg (s.1 26)) a1).1 26)) ((sa s 221 (Int32.toNatClampNeg (s.1 26)) a1).1 7)).1 26)) (-1)).1 26)) (-1)) 226 (Int32.toNatClampNeg ((sa (sa (sa (sa s 221 (Int32.toNatClampNeg (s.1 26)) a1) 222 (Int32.toNatClampNeg ((sa s 221 (Int32.toNatClampNeg (s.1 26)) a1).1 26)) ((sa s 221 (Int32.toNatClampNeg (s.1 26)) a1).1 7)) 224 (Int32.toNatClampNeg ((sa (sa s 221 (Int32.toNatClampNeg (s.1 26)) a1) 222 (Int32.toNatClampNeg ((sa s 221 (Int32.toNatClampNeg (s.1 26)) a1).1 26)) ((sa s 221 (Int32.toNatClampNeg (s.1 26)) a1).1 7)).1 26)) (-1)) 225 (Int32.toNatClampNeg ((sa (sa (sa s 221 (Int32.toNatClampNeg (s.1 26)) a1) 222 (Int32.toNatClampNeg ((sa s 221 (Int32.toNatClampNeg (s.1 26)) a1).1 26)) ((sa s 221 (Int32.toNatClampNeg (s.1 26)) a1).1 7)) 224 (Int32.toNatClampNeg ((sa (sa s 221 (Int32.toNatClampNeg (s.1 26)) a1) 222 (Int32.toNatClampNeg ((sa s 221 (Int32.toNatClampNeg (s.1 26)) a1).1 26)) ((sa s 221 (Int32.toNatClampNeg (s.1 26)) a1).1 7)).1 26)) (-1)).1 26)) (-1)).1 26)) 0) 227 (Int32.toNatClampNeg ((sa (sa (sa (sa (sa s 221 (Int32.toNatClampNeg (s.1 26)) a1) 222 (Int32.toNatClampNeg ((sa s 221 (Int32.toNatClampNeg (s.1 26)) a1).1 26)) ((sa s 221 (Int32.toNatClampNeg (s.1 26)) a1).1 7)) 224 (Int32.toNatClampNeg ((sa (sa s 221 (Int32.toNatClampNeg (s.1 26)) a1) 222 (Int32.toNatClampNeg ((sa s 221 (Int32.toNatClampNeg (s.1 26)) a1).1 26)) ((sa s 221 (Int32.toNatClampNeg (s.1 26)) a1).1 7)).1 26)) (-1)) 225 (Int32.toNatClampNeg ((sa (sa (sa s 221 (Int32.toNatClampNeg (s.1 26)) a1) 222 (Int32.toNatClampNeg ((sa s 221 (Int32.toNatClampNeg (s.1 26)) a1).1 26)) ((sa s 221 (Int32.toNatClampNeg (s.1 26)) a1).1 7)) 224 (Int32.toNatClampNeg ((sa (sa s 221 (Int32.toNatClampNeg (s.1 26)) a1) 222 (Int32.toNatClampNeg ((sa s 221 (Int32.toNatClampNeg (s.1 26)) a1).1 26)) ((sa s 221 (Int32.toNatClampNeg (s.1 26)) a1).1 7)).1 26)) (-1)).1 26)) (-1)) 226 (Int32.toNatClampNeg ((sa (sa (sa (sa s 221 (Int32.toNatClampNeg (s.1 26)) a1) 222 (Int32.toNatClampNeg ((sa s 221 (Int32.toNatClampNeg (s.1 26)) a1).1 26)) ((sa s 221 (Int32.toNatClampNeg (s.1 26)) a1).1 7)) 224 (Int32.toNatClampNeg ((sa (sa s 221 (Int32.toNatClampNeg (s.1 26)) a1) 222 (Int32.toNatClampNeg ((sa s 221 (Int32.toNatClampNeg (s.1 26)) a1).1 26)) ((sa s 221 (Int32.toNatClampNeg (s.1 26)) a1).1 7)).1 26)) (-1)) 225 (Int32.toNatClampNeg ((sa (sa (sa s 221 (Int32.toNatClampNeg (s.1 26)) a1) 222 (Int32.toNatClampNeg ((sa s 221 (Int32.toNatClampNeg (s.1 26)) a1).1 26)) ((sa s 221 (Int32.toNatClampNeg (s.1 26)) a1).1 7)) 224 (Int32.toNatClampNeg ((sa (sa s 221 (Int32.toNatClampNeg (s.1 26)) a1) 222 (Int32.toNatClampNeg ((sa s 221 (Int32.toNatClampNeg (s.1 26)) a1).1 26)) ((sa s 221 (Int32.toNatClampNeg (s.1 26)) a1).1 7)).1 26)) (-1)).1 26)) (-1)).1 26)) 0).1 26)) (-1)) 228 (Int32.toNatClampNeg ((sa (sa (sa (sa (sa (sa s 221 (Int32.toNatClampNeg (s.1 26)) a1) 222 (Int32.toNatClampNeg ((sa s 221 (Int32.toNatClampNeg (s.1 26)) a1).1 26)) ((sa s 221 (Int32.toNatClampNeg (s.1 26)) a1).1 7)) 224 (Int32.toNatClampNeg ((sa (sa s 221 (Int32.toNatClampNeg (s.1 26)) a1) 222 (Int32.toNatClampNeg ((sa s 221 (Int32.toNatClampNeg (s.1 26)) a1).1 26)) ((sa s 221 (Int32.toNatClampNeg (s.1 26)) a1).1 7)).1 26)) (-1)) 225 (Int32.toNatClampNeg ((sa (sa (sa s 221 (Int32.toNatClampNeg (s.1 26)) a1) 222 (Int32.toNatClampNeg ((sa s 221 (Int32.toNatClampNeg (s.1 26)) a1).1 26)) ((sa s 221 (Int32.toNatClampNeg (s.1 26)) a1).1 7)) 224 (Int32.toNatClampNeg ((sa (sa s 221 (Int32.toNatClampNeg (s.1 26)) a1) 222 (Int32.toNatClampNeg ((sa s 221 (Int32.toNatClampNeg (s.1 26)) a1).1 26)) ((sa s 221 (Int32.toNatClampNeg (s.1 26)) a1).1 7)).1 26)) (-1)).1 26)) (-1)) 226 (Int32.toNatClampNeg ((sa (sa (sa (sa s 221 (Int32.toNatClampNeg (s.1 26)) a1) 222 (Int32.toNatClampNeg ((sa s 221 (Int32.toNatClampNeg (s.1 26)) a1).1 26)) ((sa s 221 (Int32.toNatClampNeg (s.1 26)) a1).1 7)) 224 (Int32.toNatClampNeg ((sa (sa s 221 (Int32.toNatClampNeg (s.1 26)) a1) 222 (Int32.toNatClampNeg ((sa s 221 (Int32.toNatClampNeg (s.1 26)) a1).1 26)) ((sa s 221 (Int32.toNatClampNeg (s.1 26)) a1).1 7)).1 26)) (-1)) 225 (Int32.toNatClampNeg ((sa (sa (sa s 221 (Int32.toNatClampNeg (s.1 26)) a1) 222 (Int32.toNatClampNeg ((sa s 221 (Int32.toNatClampNeg (s.1 26)) a1).1 26)) ((sa s 221 (Int32.toNatClampNeg (s.1 26)) a1).1 7)) 224 (Int32.toNatClampNeg ((sa (sa s 221 (Int32.toNatClampNeg (s.1 26)) a1) 222 (Int32.toNatClampNeg ((sa s 221 (Int32.toNatClampNeg (s.1 26)) a1).1 26)) ((sa s 221 (Int32.toNatClampNeg (s.1 26)) a1).1 7)).1 26)) (-1)).1 26)) (-1)).1 26)) 0) 227 (Int32.toNatClampNeg ((sa (sa (sa (sa (sa s 221 (Int32.toNatClampNeg (s.1 26)) a1) 222 (Int32.toNatClampNeg ((sa s 221 (Int32.toNatClampNeg (s.1 26)) a1).1 26)) ((sa s 221 (Int32.toNatClampNeg (s.1 26)) a1).1 7)) 224 (Int32.toNatClampNeg ((sa (sa s 221 (Int32.toNatClampNeg (s.1 26)) a1) 222 (Int32.toNatClampNeg ((sa s 221 (Int32.toNatClampNeg (s.1 26)) a1).1 26)) ((sa s 221 (Int32.toNatClampNeg (s.1 26)) a1).1 7)).1 26)) (-1)) 225 (Int32.toNatClampNeg ((sa (sa (sa s 221 (Int32.toNatClampNeg (s.1 26)) a1) 222 (Int32.toNatClampNeg ((sa s 221 (Int32.toNatClampNeg (s.1 26)) a1).1 26)) ((sa s 221 (Int32.toNatClampNeg (s.1 26)) a1).1 7)) 224 (Int32.toNatClampNeg ((sa (sa s 221 (Int32.toNatClampNeg (s.1 26)) a1) 222 (Int32.toNatClampNeg ((sa s 221 (Int32.toNatClampNeg (s.1 26)) a1).1 26)) ((sa s 221 (Int32.toNatClampNeg (s.1 26)) a1).1 7)).1 26)) (-1)).1 26)) (-1)) 226 (Int32.toNatClampNeg ((sa (sa (sa (sa s 221 (Int32.toNatClampNeg (s.1 26)) a1) 222 (Int32.toNatClampNeg ((sa s 221 (Int32.toNatClampNeg (s.1 26)) a1).1 26)) ((sa s 221 (Int32.toNatClampNeg (s.1 26)) a1).1 7)) 224 (Int32.toNatClampNeg ((sa (sa s 221 (Int32.toNatClampNeg (s.1 26)) a1) 222 (Int32.toNatClampNeg ((sa s 221 (Int32.toNatClampNeg (s.1 26)) a1).1 26)) ((sa s 221 (Int32.toNatClampNeg (s.1 26)) a1).1 7)).1 26)) (-1)) 225 (Int32.toNatClampNeg ((sa (sa (sa s 221 (Int32.toNatClampNeg (s.1 26)) a1) 222 (Int32.toNatClampNeg ((sa s 221 (Int32.toNatClampNeg (s.1 26)) a1).1 26)) ((sa s 221 (Int32.toNatClampNeg (s.1 26)) a1).1 7)) 224 (Int32.toNatClampNeg ((sa (sa s 221 (Int32.toNatClampNeg (s.1 26)) a1) 222 (Int32.toNatClampNeg ((sa s 221 (Int32.toNatClampNeg (s.1 26)) a1).1 26)) ((sa s 221 (Int32.toNatClampNeg (s.1 26)) a1).1 7)).1 26)) (-1)).1 26)) (-1)).1 26)) 0).1 26)) (-1)).1 26)) (-1)).1 26)) (-1)) 230 (Int32.toNatClampNeg ((sa (sa (sa (sa (sa (sa (sa (sa s 221 (Int32.toNatClampNeg (s.1 26)) a1) 222 (Int32.toNatClampNeg ((sa s 221 (Int32.toNatClampNeg (s.1 26)) a1).1 26)) ((sa s 221 (Int32.toNatClampNeg (s.1 26)) a1).1 7)) 224 (Int32.toNatClampNeg ((sa (sa s 221 (Int32.toNatClampNeg (s.1 26)) a1) 222 (Int32.toNatClampNeg ((sa s 221 (Int32.toNatClampNeg (s.1 26)) a1).1 26)) ((sa s 221 (Int32.toNatClampNeg (s.1 26)) a1).1 7)).1 26)) (-1)) 225 (Int32.toNatClampNeg ((sa (sa (sa s 221 (Int32.toNatClampNeg (s.1 26)) a1) 222 (Int32.toNatClampNeg ((sa s 221 (Int32.toNatClampNeg (s.1 26)) a1).1 26)) ((sa s 221 (Int32.toNatClampNeg (s.1 26)) a1).1 7)) 224 (Int32.toNatClampNeg ((sa (sa s 221 (Int32.toNatClampNeg (s.1 26)) a1) 222 (Int32.toNatClampNeg ((sa s 221 (Int32.toNatClampNeg (s.1 26)) a1).1 26)) ((sa s 221 (Int32.toNatClampNeg (s.1 26)) a1).1 7)).1 26)) (-1)).1 26)) (-1)) 226 (Int32.toNatClampNeg ((sa (sa (sa (sa s 221 (Int32.toNatClampNeg (s.1 26)) a1) 222 (Int32.toNatClampNeg ((sa s 221 (Int32.toNatClampNeg (s.1 26)) a1).1 26)) ((sa s 221 (Int32.toNatClampNeg (s.1 26)) a1).1 7)) 224 (Int32.toNatClampNeg ((sa (sa s 221 (Int32.toNatClampNeg (s.1 26)) a1) 222 (Int32.toNatClampNeg ((sa s 221 (Int32.toNatClampNeg (s.1 26)) a1).1 26)) ((sa s 221 (Int32.toNatClampNeg (s.1 26)) a1).1 7)).1 26)) (-1)) 225 (Int32.toNatClampNeg ((sa (sa (sa s 221 (Int32.toNatClampNeg (s.1 26)) a1) 222 (Int32.toNatClampNeg ((sa s 221 (Int32.toNatClampNeg (s.1 26)) a1).1 26)) ((sa s 221 (Int32.toNatClampNeg (s.1 26)) a1).1 7)) 224 (Int32.toNatClampNeg ((sa (sa s 221 (Int32.toNatClampNeg (s.1 26)) a1) 222 (Int32.toNatClampNeg ((sa s 221 (Int32.toNatClampNeg (s.1 26)) a1).1 26)) ((sa s 221 (Int32.toNatClampNeg (s.1 26)) a1).1 7)).1 26)) (-1)).1 26)) (-1)).1 26)) 0) 227 (Int32.toNatClampNeg ((sa (sa (sa (sa (sa s 221 (Int32.toNatClampNeg (s.1 26)) a1) 222 (Int32.toNatClampNeg ((sa s 221 (Int32.toNatClampNeg (s.1 26)) a1).1 26)) ((sa s 221 (Int32.toNatClampNeg (s.1 26)) a1).1 7)) 224 (Int32.toNatClampNeg ((sa (sa s 221 (Int32.toNatClampNeg (s.1 26)) a1) 222 (Int32.toNatClampNeg ((sa s 221 (Int32.toNatClampNeg (s.1 26)) a1).1 26)) ((sa s 221 (Int32.toNatClampNeg (s.1 26)) a1).1 7)).1 26)) (-1)) 225 (Int32.toNatClampNeg ((sa (sa (sa s 221 (Int32.toNatClampNeg (s.1 26)) a1) 222 (Int32.toNatClampNeg ((sa s 221 (Int32.toNatClampNeg (s.1 26)) a1).1 26)) ((sa s 221 (Int32.toNatClampNeg (s.1 26)) a1).1 7)) 224 (Int32.toNatClampNeg ((sa (sa s 221 (Int32.toNatClampNeg (s.1 26)) a1) 222 (Int32.toNatClampNeg ((sa s 221 (Int32.toNatClampNeg (s.1 26)) a1).1 26)) ((sa s 221 (Int32.toNatClampNeg (s.1 26)) a1).1 7)).1 26)) (-1)).1 26)) (-1)) 226 (Int32.toNatClampNeg ((sa (sa (sa (sa s 221 (Int32.toNatClampNeg (s.1 26)) a1) 222 (Int32.toNatClampNeg ((sa s 221 (Int32.toNatClampNeg (s.1 26)) a1).1 26)) ((sa s 221 (Int32.toNatClampNeg (s.1 26)) a1).1 7)) 224 (Int32.toNatClampNeg ((sa (sa s 221 (Int32.toNatClampNeg (s.1 26)) a1) 222 (Int32.toNatClampNeg ((sa s 221 (Int32.toNatClampNeg (s.1 26)) a1).1 26)) ((sa s 221 (Int32.toNatClampNeg (s.1 26)) a1).1 7)).1 26)) (-1)) 225 (Int32.toNatClampNeg ((sa (sa (sa s 221 (Int32.toNatClampNeg (s.1 26)) a1) 222 (Int32.toNatClampNeg ((sa s 221 (Int32.toNatClampNeg (s.1 26)) a1).1 26)) ((sa s 221 (Int32.toNatClampNeg (s.1 26)) a1).1 7)) 224 (Int32.toNatClampNeg ((sa (sa s 221 (Int32.toNatClampNeg (s.1 26)) a1) 222 (Int32.toNatClampNeg ((sa s 221 (Int32.toNatClampNeg (s.1 26)) a1).1 26)) ((sa s 221 (Int32.toNatClampNeg (s.1 26)) a1).1 7)).1 26)) (-1)).1 26)) (-1)).1 26)) 0).1 26)) (-1)) 228 (Int32.toNatClampNeg ((sa (sa (sa (sa (sa (sa s 221 (Int32.toNatClampNeg (s.1 26)) a1) 222 (Int32.toNatClampNeg ((sa s 221 (Int32.toNatClampNeg (s.1 26)) a1).1 26)) ((sa s 221 (Int32.toNatClampNeg (s.1 26)) a1).1 7)) 224 (Int32.toNatClampNeg ((sa (sa s 221 (Int32.toNatClampNeg (s.1 26)) a1) 222 (Int32.toNatClampNeg ((sa s 221 (Int32.toNatClampNeg (s.1 26)) a1).1 26)) ((sa s 221 (Int32.toNatClampNeg (s.1 26)) a1).1 7)).1 26)) (-1)) 225 (Int32.toNatClampNeg ((sa (sa (sa s 221 (Int32.toNatClampNeg (s.1 26)) a1) 222 (Int32.toNatClampNeg ((sa s 221 (Int32.toNatClampNeg (s.1 26)) a1).1 26)) ((sa s 221 (Int32.toNatClampNeg (s.1 26)) a1).1 7)) 224 (Int32.toNatClampNeg ((sa (sa s 221 (Int32.toNatClampNeg (s.1 26)) a1) 222 (Int32.toNatClampNeg ((sa s 221 (Int32.toNatClampNeg (s.1 26)) a1).1 26)) ((sa s 221 (Int32.toNatClampNeg (s.1 26)) a1).1 7)).1 26)) (-1)).1 26)) (-1)) 226 (Int32.toNatClampNeg ((sa (sa (sa (sa s 221 (Int32.toNatClampNeg (s.1 26)) a1) 222 (Int32.toNatClampNeg ((sa s 221 (Int32.toNatClampNeg (s.1 26)) a1).1 26)) ((sa s 221 (Int32.toNatClampNeg (s.1 26)) a1).1 7)) 224 (Int32.toNatClampNeg ((sa (sa s 221 (Int32.toNatClampNeg (s.1 26)) a1) 222 (Int32.toNatClampNeg ((sa s 221 (Int32.toNatClampNeg (s.1 26)) a1).1 26)) ((sa s 221 (Int32.toNatClampNeg (s.1 26)) a1).1 7)).1 26)) (-1)) 225 (Int32.toNatClampNeg ((sa (sa (sa s 221 (Int32.toNatClampNeg (s.1 26)) a1) 222 (Int32.toNatClampNeg ((sa s 221 (Int32.toNatClampNeg (s.1 26)) a1).1 26)) ((sa s 221 (Int32.toNatClampNeg (s.1 26)) a1).1 7)) 224 (Int32.toNatClampNeg ((sa (sa s 221 (Int32.toNatClampNeg (s.1 26)) a1) 222 (Int32.toNatClampNeg ((sa s 221 (Int32.toNatClampNeg (s.1 26)) a1).1 26)) ((sa s 221 (Int32.toNatClampNeg (s.1 26)) a1).1 7)).1 26)) (-1)).1 26)) (-1)).1 26)) 0) 227 (Int32.toNatClampNeg ((sa (sa (sa (sa (sa s 221 (Int32.toNatClampNeg (s.1 26)) a1) 222 (Int32.toNatClampNeg ((sa s 221 (Int32.toNatClampNeg (s.1 26)) a1).1 26)) ((sa s 221 (Int32.toNatClampNeg (s.1 26)) a1).1 7)) 224 (Int32.toNatClampNeg ((sa (sa s 221 (Int32.toNatClampNeg (s.1 26)) a1) 222 (Int32.toNatClampNeg ((sa s 221 (Int32.toNatClampNeg (s.1 26)) a1).1 26)) ((sa s 221 (Int32.toNatClampNeg (s.1 26)) a1).1 7)).1 26)) (-1)) 225 (Int32.toNatClampNeg ((sa (sa (sa s 221 (Int32.toNatClampNeg (s.1 26)) a1) 222 (Int32.toNatClampNeg ((sa s 221 (Int32.toNatClampNeg (s.1 26)) a1).1 26)) ((sa s 221 (Int32.toNatClampNeg (s.1 26)) a1).1 7)) 224 (Int32.toNatClampNeg ((sa (sa s 221 (Int32.toNatClampNeg (s.1 26)) a1) 222 (Int32.toNatClampNeg ((sa s 221 (Int32.toNatClampNeg (s.1 26)) a1).1 26)) ((sa s 221 (Int32.toNatClampNeg (s.1 26)) a1).1 7)).1 26)) (-1)).1 26)) (-1)) 226 (Int32.toNatClampNeg ((sa (sa (sa (sa s 221 (Int32.toNatClampNeg (s.1 26)) a1) 222 (Int32.toNatClampNeg ((sa s 221 (Int32.toNatClampNeg (s.1 26)) a1).1 26)) ((sa s 221 (Int32.toNatClampNeg (s.1 26)) a1).1 7)) 224 (Int32.toNatClampNeg ((sa (sa s 221 (Int32.toNatClampNeg (s.1 26)) a1) 222 (Int32.toNatClampNeg ((sa s 221 (Int32.toNatClampNeg (s.1 26)) a1).1 26)) ((sa s 221 (Int32.toNatClampNeg (s.1 26)) a1).1 7)).1 26)) (-1)) 225 (Int32.toNatClampNeg ((sa (sa (sa s 221 (Int32.toNatClampNeg (s.1 26)) a1) 222 (Int32.toNatClampNeg ((sa s 221 (Int32.toNatClampNeg (s.1 26)) a1).1 26)) ((sa s 221 (Int32.toNatClampNeg (s.1 26)) a1).1 7)) 224 (Int32.toNatClampNeg ((sa (sa s 221 (Int32.toNatClampNeg (s.1 26)) a1) 222 (Int32.toNatClampNeg ((sa s 221 (Int32.toNatClampNeg (s.1 26)) a1).1 26)) ((sa s 221 (Int32.toNatClampNeg (s.1 26)) a1).1 7)).1 26)) (-1)).1 26)) (-1)).1 26)) 0).1 26)) (-1)).1 26)) (-1)) 229 (Int32.toNatClampNeg ((sa (sa (sa (sa (sa (sa (sa s 221 (Int32.toNatClampNeg (s.1 26)) a1) 222 (Int32.toNatClampNeg ((sa s 221 (Int32.toNatClampNeg (s.1 26)) a1).1 26)) ((sa s 221 (Int32.toNatClampNeg (s.1 26)) a1).1 7)) 224 (Int32.toNatClampNeg ((sa (sa s 221 (Int32.toNatClampNeg (s.1 26)) a1) 222 (Int32.toNatClampNeg ((sa s 221 (Int32.toNatClampNeg (s.1 26)) a1).1 26)) ((sa s 221 (Int32.toNatClampNeg (s.1 26)) a1).1 7)).1 26)) (-1)) 225 (Int32.toNatClampNeg ((sa (sa (sa s 221 (Int32.toNatClampNeg (s.1 26)) a1) 222 (Int32.toNatClampNeg ((sa s 221 (Int32.toNatClampNeg (s.1 26)) a1).1 26)) ((sa s 221 (Int32.toNatClampNeg (s.1 26)) a1).1 7)) 224 (Int32.toNatClampNeg ((sa (sa s 221 (Int32.toNatClampNeg (s.1 26)) a1) 222 (Int32.toNatClampNeg ((sa s 221 (Int32.toNatClampNeg (s.1 26)) a1).1 26)) ((sa s 221 (Int32.toNatClampNeg (s.1 26)) a1).1 7)).1 26)) (-1)).1 26)) (-1)) 226 (Int32.toNatClampNeg ((sa (sa (sa (sa s 221 (Int32.toNatClampNeg (s.1 26)) a1) 222 (Int32.toNatClampNeg ((sa s 221 (Int32.toNatClampNeg (s.1 26)) a1).1 26)) ((sa s 221 (Int32.toNatClampNeg (s.1 26)) a1).1 7)) 224 (Int32.toNatClampNeg ((sa (sa s 221 (Int32.toNatClampNeg (s.1 26)) a1) 222 (Int32.toNatClampNeg ((sa s 221 (Int32.toNatClampNeg (s.1 26)) a1).1 26)) ((sa s 221 (Int32.toNatClampNeg (s.1 26)) a1).1 7)).1 26)) (-1)) 225 (Int32.toNatClampNeg ((sa (sa (sa s 221 (Int32.toNatClampNeg (s.1 26)) a1) 222 (Int32.toNatClampNeg ((sa s 221 (Int32.toNatClampNeg (s.1 26)) a1).1 26)) ((sa s 221 (Int32.toNatClampNeg (s.1 26)) a1).1 7)) 224 (Int32.toNatClampNeg ((sa (sa s 221 (Int32.toNatClampNeg (s.1 26)) a1) 222 (Int32.toNatClampNeg ((sa s 221 (Int32.toNatClampNeg (s.1 26)) a1).1 26)) ((sa s 221 (Int32.toNatClampNeg (s.1 26)) a1).1 7)).1 26)) (-1)).1 26)) (-1)).1 26)) 0) 227 (Int32.toNatClampNeg ((sa (sa (sa (sa (sa s 221 (Int32.toNatClampNeg (s.1 26)) a1) 222 (Int32.toNatClampNeg ((sa s 221 (Int32.toNatClampNeg (s.1 26)) a1).1 26)) ((sa s 221 (Int32.toNatClampNeg (s.1 26)) a1).1 7)) 224 (Int32.toNatClampNeg ((sa (sa s 221 (Int32.toNatClampNeg (s.1 26)) a1) 222 (Int32.toNatClampNeg ((sa s 221 (Int32.toNatClampNeg (s.1 26)) a1).1 26)) ((sa s 221 (Int32.toNatClampNeg (s.1 26)) a1).1 7)).1 26)) (-1)) 225 (Int32.toNatClampNeg ((sa (sa (sa s 221 (Int32.toNatClampNeg (s.1 26)) a1) 222 (Int32.toNatClampNeg ((sa s 221 (Int32.toNatClampNeg (s.1 26)) a1).1 26)) ((sa s 221 (Int32.toNatClampNeg (s.1 26)) a1).1 7)) 224 (Int32.toNatClampNeg ((sa (sa s 221 (Int32.toNatClampNeg (s.1 26)) a1) 222 (Int32.toNatClampNeg ((sa s 221 (Int32.toNatClampNeg (s.1 26)) a1).1 26)) ((sa s 221 (Int32.toNatClampNeg (s.1 26)) a1).1 7)).1 26)) (-1)).1 26)) (-1)) 226 (Int32.toNatClampNeg ((sa (sa (sa (sa s 221 (Int32.toNatClampNeg (s.1 26)) a1) 222 (Int32.toNatClampNeg ((sa s 221 (Int32.toNatClampNeg (s.1 26)) a1).1 26)) ((sa s 221 (Int32.toNatClampNeg (s.1 26)) a1).1 7)) 224 (Int32.toNatClampNeg ((sa (sa s 221 (Int32.toNatClampNeg (s.1 26)) a1) 222 (Int32.toNatClampNeg ((sa s 221 (Int32.toNatClampNeg (s.1 26)) a1).1 26)) ((sa s 221 (Int32.toNatClampNeg (s.1 26)) a1).1 7)).1 26)) (-1)) 225 (Int32.toNatClampNeg ((sa (sa (sa s 221 (Int32.toNatClampNeg (s.1 26)) a1) 222 (Int32.toNatClampNeg ((sa s 221 (Int32.toNatClampNeg (s.1 26)) a1).1 26)) ((sa s 221 (Int32.toNatClampNeg (s.1 26)) a1).1 7)) 224 (Int32.toNatClampNeg ((sa (sa s 221 (Int32.toNatClampNeg (s.1 26)) a1) 222 (Int32.toNatClampNeg ((sa s 221 (Int32.toNatClampNeg (s.1 26)) a1).1 26)) ((sa s 221 (Int32.toNatClampNeg (s.1 26)) a1).1 7)).1 26)) (-1)).1 26)) (-1)).1 26)) 0).1 26)) (-1)) 228 (Int32.toNatClampNeg ((sa (sa (sa (sa (sa (sa s 221 (Int32.toNatClampNeg (s.1 26)) a1) 222 (Int32.toNatClampNeg ((sa s 221 (Int32.toNatClampNeg (s.1 26)) a1).1 26)) ((sa s 221 (Int32.toNatClampNeg (s.1 26)) a1).1 7)) 224 (Int32.toNatClampNeg ((sa (sa s 221 (Int32.toNatClampNeg (s.1 26)) a1) 222 (Int32.toNatClampNeg ((sa s 221 (Int32.toNatClampNeg (s.1 26)) a1).1 26)) ((sa s 221 (Int32.toNatClampNeg (s.1 26)) a1).1 7)).1 26)) (-1)) 225 (Int32.toNatClampNeg ((sa (sa (sa s 221 (Int32.toNatClampNeg (s.1 26)) a1) 222 (Int32.toNatClampNeg ((sa s 221 (Int32.toNatClampNeg (s.1 26)) a1).1 26)) ((sa s 221 (Int32.toNatClampNeg (s.1 26)) a1).1 7)) 224 (Int32.toNatClampNeg ((sa (sa s 221 (Int32.toNatClampNeg (s.1 26)) a1) 222 (Int32.toNatClampNeg ((sa s 221 (Int32.toNatClampNeg (s.1 26)) a1).1 26)) ((sa s 221 (Int32.toNatClampNeg (s.1 26)) a1).1 7)).1 26)) (-1)).1 26)) (-1)) 226 (Int32.toNatClampNeg ((sa (sa (sa (sa s 221 (Int32.toNatClampNeg (s.1 26)) a1) 222 (Int32.toNatClampNeg ((sa s 221 (Int32.toNatClampNeg (s.1 26)) a1).1 26)) ((sa s 221 (Int32.toNatClampNeg (s.1 26)) a1).1 7)) 224 (Int32.toNatClampNeg ((sa (sa s 221 (Int32.toNatClampNeg (s.1 26)) a1) 222 (Int32.toNatClampNeg ((sa s 221 (Int32.toNatClampNeg (s.1 26)) a1).1 26)) ((sa s 221 (Int32.toNatClampNeg (s.1 26)) a1).1 7)).1 26)) (-1)) 225 (Int32.toNatClampNeg ((sa (sa (sa s 221 (Int32.toNatClampNeg (s.1 26)) a1) 222 (Int32.toNatClampNeg ((sa s 221 (Int32.toNatClampNeg (s.1 26)) a1).1 26)) ((sa s 221 (Int32.toNatClampNeg (s.1 26)) a1).1 7)) 224 (Int32.toNatClampNeg ((sa (sa s 221 (Int32.toNatClampNeg (s.1 26)) a1) 222 (Int32.toNatClampNeg ((sa s 221 (Int32.toNatClampNeg (s.1 26)) a1).1 26)) ((sa s 221 (Int32.toNatClampNeg (s.1 26)) a1).1 7)).1 26)) (-1)).1 26)) (-1)).1 26)) 0) 227 (Int32.toNatClampNeg ((sa (sa (sa (sa (sa s 221 (Int32.toNatClampNeg (s.1 26)) a1) 222 (Int32.toNatClampNeg ((sa s 221 (Int32.toNatClampNeg (s.1 26)) a1).1 26)) ((sa s 221 (Int32.toNatClampNeg (s.1 26)) a1).1 7)) 224 (Int32.toNatClampNeg ((sa (sa s 221 (Int32.toNatClampNeg (s.1 26)) a1) 222 (Int32.toNatClampNeg ((sa s 221 (Int32.toNatClampNeg (s.1 26)) a1).1 26)) ((sa s 221 (Int32.toNatClampNeg (s.1 26)) a1).1 7)).1 26)) (-1)) 225 (Int32.toNatClampNeg ((sa (sa (sa s 221 (Int32.toNatClampNeg (s.1 26)) a1) 222 (Int32.toNatClampNeg ((sa s 221 (Int32.toNatClampNeg (s.1 26)) a1).1 26)) ((sa s 221 (Int32.toNatClampNeg (s.1 26)) a1).1 7)) 224 (Int32.toNatClampNeg ((sa (sa s 221 (Int32.toNatClampNeg (s.1 26)) a1) 222 (Int32.toNatClampNeg ((sa s 221 (Int32.toNatClampNeg (s.1 26)) a1).1 26)) ((sa s 221 (Int32.toNatClampNeg (s.1 26)) a1).1 7)).1 26)) (-1)).1 26)) (-1)) 226 (Int32.toNatClampNeg ((sa (sa (sa (sa s 221 (Int32.toNatClampNeg (s.1 26)) a1) 222 (Int32.toNatClampNeg ((sa s 221 (Int32.toNatClampNeg (s.1 26)) a1).1 26)) ((sa s 221 (Int32.toNatClampNeg (s.1 26)) a1).1 7)) 224 (Int32.toNatClampNeg ((sa (sa s 221 (Int32.toNatClampNeg (s.1 26)) a1) 222 (Int32.toNatClampNeg ((sa s 221 (Int32.toNatClampNeg (s.1 26)) a1).1 26)) ((sa s 221 (Int32.toNatClampNeg (s.1 26)) a1).1 7)).1 26)) (-1)) 225 (Int32.toNatClampNeg ((sa (sa (sa s 221 (Int32.toNatClampNeg (s.1 26)) a1) 222 (Int32.toNatClampNeg ((sa s 221 (Int32.toNatClampNeg (s.1 26)) a1).1 26)) ((sa s 221 (Int32.toNatClampNeg (s.1 26)) a1).1 7)) 224 (Int32.toNatClampNeg ((sa (sa s 221 (Int32.toNatClampNeg (s.1 26)) a1) 222 (Int32.toNatClampNeg ((sa s 221 (Int32.toNatClampNeg (s.1 26)) a1).1 26)) ((sa s 221 (Int32.toNatClampNeg (s.1 26)) a1).1 7)).1 26)) (-1)).1 26)) (-1)).1 26)) 0).1 26)) (-1)).1 26)) (-1)).1 26)) (-1)).1 26)) 0).1 26) + 1)).1 26)] _ _
  refine g_c [.int 1, .int ((sf (sa (sa (sa (sa (sa (sa (sa (sa (sa s 221 (Int32.toNatClampNeg (s.1 26)) a1) 222 (Int32.toNatClampNeg ((sa s 221 (Int32.toNatClampNeg (s.1 26)) a1).1 26)) ((sa s 221 (Int32.toNatClampNeg (s.1 26)) a1).1 7)) 224 (Int32.toNatClampNeg ((sa (sa s 221 (Int32.toNatClampNeg (s.1 26)) a1) 222 (Int32.toNatClampNeg ((sa s 221 (Int32.toNatClampNeg (s.1 26)) a1).1 26)) ((sa s 221 (Int32.toNatClampNeg (s.1 26)) a1).1 7)).1 26)) (-1)) 225 (Int32.toNatClampNeg ((sa (sa (sa s 221 (Int32.toNatClampNeg (s.1 26)) a1) 222 (Int32.toNatClampNeg ((sa s 221 (Int32.toNatClampNeg (s.1 26)) a1).1 26)) ((sa s 221 (Int32.toNatClampNeg (s.1 26)) a1).1 7)) 224 (Int32.toNatClampNeg ((sa (sa s 221 (Int32.toNatClampNeg (s.1 26)) a1) 222 (Int32.toNatClampNeg ((sa s 221 (Int32.toNatClampNeg (s.1 26)) a1).1 26)) ((sa s 221 (Int32.toNatClampNeg (s.1 26)) a1).1 7)).1 26)) (-1)).1 26)) (-1)) 226 (Int32.toNatClampNeg ((sa (sa (sa (sa s 221 (Int32.toNatClampNeg (s.1 26)) a1) 222 (Int32.toNatClampNeg ((sa s 221 (Int32.toNatClampNeg (s.1 26)) a1).1 26)) ((sa s 221 (Int32.toNatClampNeg (s.1 26)) a1).1 7)) 224 (Int32.toNatClampNeg ((sa (sa s 221 (Int32.toNatClampNeg (s.1 26)) a1) 222 (Int32.toNatClampNeg ((sa s 221 (Int32.toNatClampNeg (s.1 26)) a1).1 26)) ((sa s 221 (Int32.toNatClampNeg (s.1 26)) a1).1 7)).1 26)) (-1)) 225 (Int32.toNatClampNeg ((sa (sa (sa s 221 (Int32.toNatClampNeg (s.1 26)) a1) 222 (Int32.toNatClampNeg ((sa s 221 (Int32.toNatClampNeg (s.1 26)) a1).1 26)) ((sa s 221 (Int32.toNatClampNeg (s.1 26)) a1).1 7)) 224 (Int32.toNatClampNeg ((sa (sa s 221 (Int32.toNatClampNeg (s.1 26)) a1) 222 (Int32.toNatClampNeg ((sa s 221 (Int32.toNatClampNeg (s.1 26)) a1).1 26)) ((sa s 221 (Int32.toNatClampNeg (s.1 26)) a1).1 7)).1 26)) (-1)).1 26)) (-1)).1 26)) 0) 227 (Int32.toNatClampNeg ((sa (sa (sa (sa (sa s 221 (Int32.toNatClampNeg (s.1 26)) a1) 222 (Int32.toNatClampNeg ((sa s 221 (Int32.toNatClampNeg (s.1 26)) a1).1 26)) ((sa s 221 (Int32.toNatClampNeg (s.1 26)) a1).1 7)) 224 (Int32.toNatClampNeg ((sa (sa s 221 (Int32.toNatClampNeg (s.1 26)) a1) 222 (Int32.toNatClampNeg ((sa s 221 (Int32.toNatClampNeg (s.1 26)) a1).1 26)) ((sa s 221 (Int32.toNatClampNeg (s.1 26)) a1).1 7)).1 26)) (-1)) 225 (Int32.toNatClampNeg ((sa (sa (sa s 221 (Int32.toNatClampNeg (s.1 26)) a1) 222 (Int32.toNatClampNeg ((sa s 221 (Int32.toNatClampNeg (s.1 26)) a1).1 26)) ((sa s 221 (Int32.toNatClampNeg (s.1 26)) a1).1 7)) 224 (Int32.toNatClampNeg ((sa (sa s 221 (Int32.toNatClampNeg (s.1 26)) a1) 222 (Int32.toNatClampNeg ((sa s 221 (Int32.toNatClampNeg (s.1 26)) a1).1 26)) ((sa s 221 (Int32.toNatClampNeg (s.1 26)) a1).1 7)).1 26)) (-1)).1 26)) (-1)) 226 (Int32.toNatClampNeg ((sa (sa (sa (sa s 221 (Int32.toNatClampNeg (s.1 26)) a1) 222 (Int32.toNatClampNeg ((sa s 221 (Int32.toNatClampNeg (s.1 26)) a1).1 26)) ((sa s 221 (Int32.toNatClampNeg (s.1 26)) a1).1 7)) 224 (Int32.toNatClampNeg ((sa (sa s 221 (Int32.toNatClampNeg (s.1 26)) a1) 222 (Int32.toNatClampNeg ((sa s 221 (Int32.toNatClampNeg (s.1 26)) a1).1 26)) ((sa s 221 (Int32.toNatClampNeg (s.1 26)) a1).1 7)).1 26)) (-1)) 225 (Int32.toNatClampNeg ((sa (sa (sa s 221 (Int32.toNatClampNeg (s.1 26)) a1) 222 (Int32.toNatClampNeg ((sa s 221 (Int32.toNatClampNeg (s.1 26)) a1).1 26)) ((sa s 221 (Int32.toNatClampNeg (s.1 26)) a1).1 7)) 224 (Int32.toNatClampNeg ((sa (sa s 221 (Int32.toNatClampNeg (s.1 26)) a1) 222 (Int32.toNatClampNeg ((sa s 221 (Int32.toNatClampNeg (s.1 26)) a1).1 26)) ((sa s 221 (Int32.toNatClampNeg (s.1 26)) a1).1 7)).1 26)) (-1)).1 26)) (-1)).1 26)) 0).1 26)) (-1)) 228 (Int32.toNatClampNeg ((sa (sa (sa (sa (sa (sa s 221 (Int32.toNatClampNeg (s.1 26)) a1) 222 (Int32.toNatClampNeg ((sa s 221 (Int32.toNatClampNeg (s.1 26)) a1).1 26)) ((sa s 221 (Int32.toNatClampNeg (s.1 26)) a1).1 7)) 224 (Int32.toNatClampNeg ((sa (sa s 221 (Int32.toNatClampNeg (s.1 26)) a1) 222 (Int32.toNatClampNeg ((sa s 221 (Int32.toNatClampNeg (s.1 26)) a1).1 26)) ((sa s 221 (Int32.toNatClampNeg (s.1 26)) a1).1 7)).1 26)) (-1)) 225 (Int32.toNatClampNeg ((sa (sa (sa s 221 (Int32.toNatClampNeg (s.1 26)) a1) 222 (Int32.toNatClampNeg ((sa s 221 (Int32.toNatClampNeg (s.1 26)) a1).1 26)) ((sa s 221 (Int32.toNatClampNeg (s.1 26)) a1).1 7)) 224 (Int32.toNatClampNeg ((sa (sa s 221 (Int32.toNatClampNeg (s.1 26)) a1) 222 (Int32.toNatClampNeg ((sa s 221 (Int32.toNatClampNeg (s.1 26)) a1).1 26)) ((sa s 221 (Int32.toNatClampNeg (s.1 26)) a1).1 7)).1 26)) (-1)).1 26)) (-1)) 226 (Int32.toNatClampNeg ((sa (sa (sa (sa s 221 (Int32.toNatClampNeg (s.1 26)) a1) 222 (Int32.toNatClampNeg ((sa s 221 (Int32.toNatClampNeg (s.1 26)) a1).1 26)) ((sa s 221 (Int32.toNatClampNeg (s.1 26)) a1).1 7)) 224 (Int32.toNatClampNeg ((sa (sa s 221 (Int32.toNatClampNeg (s.1 26)) a1) 222 (Int32.toNatClampNeg ((sa s 221 (Int32.toNatClampNeg (s.1 26)) a1).1 26)) ((sa s 221 (Int32.toNatClampNeg (s.1 26)) a1).1 7)).1 26)) (-1)) 225 (Int32.toNatClampNeg ((sa (sa (sa s 221 (Int32.toNatClampNeg (s.1 26)) a1) 222 (Int32.toNatClampNeg ((sa s 221 (Int32.toNatClampNeg (s.1 26)) a1).1 26)) ((sa s 221 (Int32.toNatClampNeg (s.1 26)) a1).1 7)) 224 (Int32.toNatClampNeg ((sa (sa s 221 (Int32.toNatClampNeg (s.1 26)) a1) 222 (Int32.toNatClampNeg ((sa s 221 (Int32.toNatClampNeg (s.1 26)) a1).1 26)) ((sa s 221 (Int32.toNatClampNeg (s.1 26)) a1).1 7)).1 26)) (-1)).1 26)) (-1)).1 26)) 0) 227 (Int32.toNatClampNeg ((sa (sa (sa (sa (sa s 221 (Int32.toNatClampNeg (s.1 26)) a1) 222 (Int32.toNatClampNeg ((sa s 221 (Int32.toNatClampNeg (s.1 26)) a1).1 26)) ((sa s 221 (Int32.toNatClampNeg (s.1 26)) a1).1 7)) 224 (Int32.toNatClampNeg ((sa (sa s 221 (Int32.toNatClampNeg (s.1 26)) a1) 222 (Int32.toNatClampNeg ((sa s 221 (Int32.toNatClampNeg (s.1 26)) a1).1 26)) ((sa s 221 (Int32.toNatClampNeg (s.1 26)) a1).1 7)).1 26)) (-1)) 225 (Int32.toNatClampNeg ((sa (sa (sa s 221 (Int32.toNatClampNeg (s.1 26)) a1) 222 (Int32.toNatClampNeg ((sa s 221 (Int32.toNatClampNeg (s.1 26)) a1).1 26)) ((sa s 221 (Int32.toNatClampNeg (s.1 26)) a1).1 7)) 224 (Int32.toNatClampNeg ((sa (sa s 221 (Int32.toNatClampNeg (s.1 26)) a1) 222 (Int32.toNatClampNeg ((sa s 221 (Int32.toNatClampNeg (s.1 26)) a1).1 26)) ((sa s 221 (Int32.toNatClampNeg (s.1 26)) a1).1 7)).1 26)) (-1)).1 26)) (-1)) 226 (Int32.toNatClampNeg ((sa (sa (sa (sa s 221 (Int32.toNatClampNeg (s.1 26)) a1) 222 (Int32.toNatClampNeg ((sa s 221 (Int32.toNatClampNeg (s.1 26)) a1).1 26)) ((sa s 221 (Int32.toNatClampNeg (s.1 26)) a1).1 7)) 224 (Int32.toNatClampNeg ((sa (sa s 221 (Int32.toNatClampNeg (s.1 26)) a1) 222 (Int32.toNatClampNeg ((sa s 221 (Int32.toNatClampNeg (s.1 26)) a1).1 26)) ((sa s 221 (Int32.toNatClampNeg (s.1 26)) a1).1 7)).1 26)) (-1)) 225 (Int32.toNatClampNeg ((sa (sa (sa s 221 (Int32.toNatClampNeg (s.1 26)) a1) 222 (Int32.toNatClampNeg ((sa s 221 (Int32.toNatClampNeg (s.1 26)) a1).1 26)) ((sa s 221 (Int32.toNatClampNeg (s.1 26)) a1).1 7)) 224 (Int32.toNatClampNeg ((sa (sa s 221 (Int32.toNatClampNeg (s.1 26)) a1) 222 (Int32.toNatClampNeg ((sa s 221 (Int32.toNatClampNeg (s.1 26)) a1).1 26)) ((sa s 221 (Int32.toNatClampNeg (s.1 26)) a1).1 7)).1 26)) (-1)).1 26)) (-1)).1 26)) 0).1 26)) (-1)).1 26)) (-1)) 229 (Int32.toNatClampNeg ((sa (sa (sa (sa (sa (sa (sa s 221 (Int32.toNatClampNeg (s.1 26)) a1) 222 (Int32.toNatClampNeg ((sa s 221 (Int32.toNatClampNeg (s.1 26)) a1).1 26)) ((sa s 221 (Int32.toNatClampNeg (s.1 26)) a1).1 7)) 224 (Int32.toNatClampNeg ((sa (sa s 221 (Int32.toNatClampNeg (s.1 26)) a1) 222 (Int32.toNatClampNeg ((sa s 221 (Int32.toNatClampNeg (s.1 26)) a1).1 26)) ((sa s 221 (Int32.toNatClampNeg (s.1 26)) a1).1 7)).1 26)) (-1)) 225 (Int32.toNatClampNeg ((sa (sa (sa s 221 (Int32.toNatClampNeg (s.1 26)) a1) 222 (Int32.toNatClampNeg ((sa s 221 (Int32.toNatClampNeg (s.1 26)) a1).1 26)) ((sa s 221 (Int32.toNatClampNeg (s.1 26)) a1).1 7)) 224 (Int32.toNatClampNeg ((sa (sa s 221 (Int32.toNatClampNeg (s.1 26)) a1) 222 (Int32.toNatClampNeg ((sa s 221 (Int32.toNatClampNeg (s.1 26)) a1).1 26)) ((sa s 221 (Int32.toNatClampNeg (s.1 26)) a1).1 7)).1 26)) (-1)).1 26)) (-1)) 226 (Int32.toNatClampNeg ((sa (sa (sa (sa s 221 (Int32.toNatClampNeg (s.1 26)) a1) 222 (Int32.toNatClampNeg ((sa s 221 (Int32.toNatClampNeg (s.1 26)) a1).1 26)) ((sa s 221 (Int32.toNatClampNeg (s.1 26)) a1).1 7)) 224 (Int32.toNatClampNeg ((sa (sa s 221 (Int32.toNatClampNeg (s.1 26)) a1) 222 (Int32.toNatClampNeg ((sa s 221 (Int32.toNatClampNeg (s.1 26)) a1).1 26)) ((sa s 221 (Int32.toNatClampNeg (s.1 26)) a1).1 7)).1 26)) (-1)) 225 (Int32.toNatClampNeg ((sa (sa (sa s 221 (Int32.toNatClampNeg (s.1 26)) a1) 222 (Int32.toNatClampNeg ((sa s 221 (Int32.toNatClampNeg (s.1 26)) a1).1 26)) ((sa s 221 (Int32.toNatClampNeg (s.1 26)) a1).1 7)) 224 (Int32.toNatClampNeg ((sa (sa s 221 (Int32.toNatClampNeg (s.1 26)) a1) 222 (Int32.toNatClampNeg ((sa s 221 (Int32.toNatClampNeg (s.1 26)) a1).1 26)) ((sa s 221 (Int32.toNatClampNeg (s.1 26)) a1).1 7)).1 26)) (-1)).1 26)) (-1)).1 26)) 0) 227 (Int32.toNatClampNeg ((sa (sa (sa (sa (sa s 221 (Int32.toNatClampNeg (s.1 26)) a1) 222 (Int32.toNatClampNeg ((sa s 221 (Int32.toNatClampNeg (s.1 26)) a1).1 26)) ((sa s 221 (Int32.toNatClampNeg (s.1 26)) a1).1 7)) 224 (Int32.toNatClampNeg ((sa (sa s 221 (Int32.toNatClampNeg (s.1 26)) a1) 222 (Int32.toNatClampNeg ((sa s 221 (Int32.toNatClampNeg (s.1 26)) a1).1 26)) ((sa s 221 (Int32.toNatClampNeg (s.1 26)) a1).1 7)).1 26)) (-1)) 225 (Int32.toNatClampNeg ((sa (sa (sa s 221 (Int32.toNatClampNeg (s.1 26)) a1) 222 (Int32.toNatClampNeg ((sa s 221 (Int32.toNatClampNeg (s.1 26)) a1).1 26)) ((sa s 221 (Int32.toNatClampNeg (s.1 26)) a1).1 7)) 224 (Int32.toNatClampNeg ((sa (sa s 221 (Int32.toNatClampNeg (s.1 26)) a1) 222 (Int32.toNatClampNeg ((sa s 221 (Int32.toNatClampNeg (s.1 26)) a1).1 26)) ((sa s 221 (Int32.toNatClampNeg (s.1 26)) a1).1 7)).1 26)) (-1)).1 26)) (-1)) 226 (Int32.toNatClampNeg ((sa (sa (sa (sa s 221 (Int32.toNatClampNeg (s.1 26)) a1) 222 (Int32.toNatClampNeg ((sa s 221 (Int32.toNatClampNeg (s.1 26)) a1).1 26)) ((sa s 221 (Int32.toNatClampNeg (s.1 26)) a1).1 7)) 224 (Int32.toNatClampNeg ((sa (sa s 221 (Int32.toNatClampNeg (s.1 26)) a1) 222 (Int32.toNatClampNeg ((sa s 221 (Int32.toNatClampNeg (s.1 26)) a1).1 26)) ((sa s 221 (Int32.toNatClampNeg (s.1 26)) a1).1 7)).1 26)) (-1)) 225 (Int32.toNatClampNeg ((sa (sa (sa s 221 (Int32.toNatClampNeg (s.1 26)) a1) 222 (Int32.toNatClampNeg ((sa s 221 (Int32.toNatClampNeg (s.1 26)) a1).1 26)) ((sa s 221 (Int32.toNatClampNeg (s.1 26)) a1).1 7)) 224 (Int32.toNatClampNeg ((sa (sa s 221 (Int32.toNatClampNeg (s.1 26)) a1) 222 (Int32.toNatClampNeg ((sa s 221 (Int32.toNatClampNeg (s.1 26)) a1).1 26)) ((sa s 221 (Int32.toNatClampNeg (s.1 26)) a1).1 7)).1 26)) (-1)).1 26)) (-1)).1 26)) 0).1 26)) (-1)) 228 (Int32.toNatClampNeg ((sa (sa (sa (sa (sa (sa s 221 (Int32.toNatClampNeg (s.1 26)) a1) 222 (Int32.toNatClampNeg ((sa s 221 (Int32.toNatClampNeg (s.1 26)) a1).1 26)) ((sa s 221 (Int32.toNatClampNeg (s.1 26)) a1).1 7)) 224 (Int32.toNatClampNeg ((sa (sa s 221 (Int32.toNatClampNeg (s.1 26)) a1) 222 (Int32.toNatClampNeg ((sa s 221 (Int32.toNatClampNeg (s.1 26)) a1).1 26)) ((sa s 221 (Int32.toNatClampNeg (s.1 26)) a1).1 7)).1 26)) (-1)) 225 (Int32.toNatClampNeg ((sa (sa (sa s 221 (Int32.toNatClampNeg (s.1 26)) a1) 222 (Int32.toNatClampNeg ((sa s 221 (Int32.toNatClampNeg (s.1 26)) a1).1 26)) ((sa s 221 (Int32.toNatClampNeg (s.1 26)) a1).1 7)) 224 (Int32.toNatClampNeg ((sa (sa s 221 (Int32.toNatClampNeg (s.1 26)) a1) 222 (Int32.toNatClampNeg ((sa s 221 (Int32.toNatClampNeg (s.1 26)) a1).1 26)) ((sa s 221 (Int32.toNatClampNeg (s.1 26)) a1).1 7)).1 26)) (-1)).1 26)) (-1)) 226 (Int32.toNatClampNeg ((sa (sa (sa (sa s 221 (Int32.toNatClampNeg (s.1 26)) a1) 222 (Int32.toNatClampNeg ((sa s 221 (Int32.toNatClampNeg (s.1 26)) a1).1 26)) ((sa s 221 (Int32.toNatClampNeg (s.1 26)) a1).1 7)) 224 (Int32.toNatClampNeg ((sa (sa s 221 (Int32.toNatClampNeg (s.1 26)) a1) 222 (Int32.toNatClampNeg ((sa s 221 (Int32.toNatClampNeg (s.1 26)) a1).1 26)) ((sa s 221 (Int32.toNatClampNeg (s.1 26)) a1).1 7)).1 26)) (-1)) 225 (Int32.toNatClampNeg ((sa (sa (sa s 221 (Int32.toNatClampNeg (s.1 26)) a1) 222 (Int32.toNatClampNeg ((sa s 221 (Int32.toNatClampNeg (s.1 26)) a1).1 26)) ((sa s 221 (Int32.toNatClampNeg (s.1 26)) a1).1 7)) 224 (Int32.toNatClampNeg ((sa (sa s 221 (Int32.toNatClampNeg (s.1 26)) a1) 222 (Int32.toNatClampNeg ((sa s 221 (Int32.toNatClampNeg (s.1 26)) a1).1 26)) ((sa s 221 (Int32.toNatClampNeg (s.1 26)) a1).1 7)).1 26)) (-1)).1 26)) (-1)).1 26)) 0) 227 (Int32.toNatClampNeg ((sa (sa (sa (sa (sa s 221 (Int32.toNatClampNeg (s.1 26)) a1) 222 (Int32.toNatClampNeg ((sa s 221 (Int32.toNatClampNeg (s.1 26)) a1).1 26)) ((sa s 221 (Int32.toNatClampNeg (s.1 26)) a1).1 7)) 224 (Int32.toNatClampNeg ((sa (sa s 221 (Int32.toNatClampNeg (s.1 26)) a1) 222 (Int32.toNatClampNeg ((sa s 221 (Int32.toNatClampNeg (s.1 26)) a1).1 26)) ((sa s 221 (Int32.toNatClampNeg (s.1 26)) a1).1 7)).1 26)) (-1)) 225 (Int32.toNatClampNeg ((sa (sa (sa s 221 (Int32.toNatClampNeg (s.1 26)) a1) 222 (Int32.toNatClampNeg ((sa s 221 (Int32.toNatClampNeg (s.1 26)) a1).1 26)) ((sa s 221 (Int32.toNatClampNeg (s.1 26)) a1).1 7)) 224 (Int32.toNatClampNeg ((sa (sa s 221 (Int32.toNatClampNeg (s.1 26)) a1) 222 (Int32.toNatClampNeg ((sa s 221 (Int32.toNatClampNeg (s.1 26)) a1).1 26)) ((sa s 221 (Int32.toNatClampNeg (s.1 26)) a1).1 7)).1 26)) (-1)).1 26)) (-1)) 226 (Int32.toNatClampNeg ((sa (sa (sa (sa s 221 (Int32.toNatClampNeg (s.1 26)) a1) 222 (Int32.toNatClampNeg ((sa s 221 (Int32.toNatClampNeg (s.1 26)) a1).1 26)) ((sa s 221 (Int32.toNatClampNeg (s.1 26)) a1).1 7)) 224 (Int32.toNatClampNeg ((sa (sa s 221 (Int32.toNatClampNeg (s.1 26)) a1) 222 (Int32.toNatClampNeg ((sa s 221 (Int32.toNatClampNeg (s.1 26)) a1).1 26)) ((sa s 221 (Int32.toNatClampNeg (s.1 26)) a1).1 7)).1 26)) (-1)) 225 (Int32.toNatClampNeg ((sa (sa (sa s 221 (Int32.toNatClampNeg (s.1 26)) a1) 222 (Int32.toNatClampNeg ((sa s 221 (Int32.toNatClampNeg (s.1 26)) a1).1 26)) ((sa s 221 (Int32.toNatClampNeg (s.1 26)) a1).1 7)) 224 (Int32.toNatClampNeg ((sa (sa s 221 (Int32.toNatClampNeg (s.1 26)) a1) 222 (Int32.toNatClampNeg ((sa s 221 (Int32.toNatClampNeg (s.1 26)) a1).1 26)) ((sa s 221 (Int32.toNatClampNeg (s.1 26)) a1).1 7)).1 26)) (-1)).1 26)) (-1)).1 26)) 0).1 26)) (-1)).1 26)) (-1)).1 26)) (-1)) 230 (Int32.toNatClampNeg ((sa (sa (sa (sa (sa (sa (sa (sa s 221 (Int32.toNatClampNeg (s.1 26)) a1) 222 (Int32.toNatClampNeg ((sa s 221 (Int32.toNatClampNeg (s.1 26)) a1).1 26)) ((sa s 221 (Int32.toNatClampNeg (s.1 26)) a1).1 7)) 224 (Int32.toNatClampNeg ((sa (sa s 221 (Int32.toNatClampNeg (s.1 26)) a1) 222 (Int32.toNatClampNeg ((sa s 221 (Int32.toNatClampNeg (s.1 26)) a1).1 26)) ((sa s 221 (Int32.toNatClampNeg (s.1 26)) a1).1 7)).1 26)) (-1)) 225 (Int32.toNatClampNeg ((sa (sa (sa s 221 (Int32.toNatClampNeg (s.1 26)) a1) 222 (Int32.toNatClampNeg ((sa s 221 (Int32.toNatClampNeg (s.1 26)) a1).1 26)) ((sa s 221 (Int32.toNatClampNeg (s.1 26)) a1).1 7)) 224 (Int32.toNatClampNeg ((sa (sa s 221 (Int32.toNatClampNeg (s.1 26)) a1) 222 (Int32.toNatClampNeg ((sa s 221 (Int32.toNatClampNeg (s.1 26)) a1).1 26)) ((sa s 221 (Int32.toNatClampNeg (s.1 26)) a1).1 7)).1 26)) (-1)).1 26)) (-1)) 226 (Int32.toNatClampNeg ((sa (sa (sa (sa s 221 (Int32.toNatClampNeg (s.1 26)) a1) 222 (Int32.toNatClampNeg ((sa s 221 (Int32.toNatClampNeg (s.1 26)) a1).1 26)) ((sa s 221 (Int32.toNatClampNeg (s.1 26)) a1).1 7)) 224 (Int32.toNatClampNeg ((sa (sa s 221 (Int32.toNatClampNeg (s.1 26)) a1) 222 (Int32.toNatClampNeg ((sa s 221 (Int32.toNatClampNeg (s.1 26)) a1).1 26)) ((sa s 221 (Int32.toNatClampNeg (s.1 26)) a1).1 7)).1 26)) (-1)) 225 (Int32.toNatClampNeg ((sa (sa (sa s 221 (Int32.toNatClampNeg (s.1 26)) a1) 222 (Int32.toNatClampNeg ((sa s 221 (Int32.toNatClampNeg (s.1 26)) a1).1 26)) ((sa s 221 (Int32.toNatClampNeg (s.1 26)) a1).1 7)) 224 (Int32.toNatClampNeg ((sa (sa s 221 (Int32.toNatClampNeg (s.1 26)) a1) 222 (Int32.toNatClampNeg ((sa s 221 (Int32.toNatClampNeg (s.1 26)) a1).1 26)) ((sa s 221 (Int32.toNatClampNeg (s.1 26)) a1).1 7)).1 26)) (-1)).1 26)) (-1)).1 26)) 0) 227 (Int32.toNatClampNeg ((sa (sa (sa (sa (sa s 221 (Int32.toNatClampNeg (s.1 26)) a1) 222 (Int32.toNatClampNeg ((sa s 221 (Int32.toNatClampNeg (s.1 26)) a1).1 26)) ((sa s 221 (Int32.toNatClampNeg (s.1 26)) a1).1 7)) 224 (Int32.toNatClampNeg ((sa (sa s 221 (Int32.toNatClampNeg (s.1 26)) a1) 222 (Int32.toNatClampNeg ((sa s 221 (Int32.toNatClampNeg (s.1 26)) a1).1 26)) ((sa s 221 (Int32.toNatClampNeg (s.1 26)) a1).1 7)).1 26)) (-1)) 225 (Int32.toNatClampNeg ((sa (sa (sa s 221 (Int32.toNatClampNeg (s.1 26)) a1) 222 (Int32.toNatClampNeg ((sa s 221 (Int32.toNatClampNeg (s.1 26)) a1).1 26)) ((sa s 221 (Int32.toNatClampNeg (s.1 26)) a1).1 7)) 224 (Int32.toNatClampNeg ((sa (sa s 221 (Int32.toNatClampNeg (s.1 26)) a1) 222 (Int32.toNatClampNeg ((sa s 221 (Int32.toNatClampNeg (s.1 26)) a1).1 26)) ((sa s 221 (Int32.toNatClampNeg (s.1 26)) a1).1 7)).1 26)) (-1)).1 26)) (-1)) 226 (Int32.toNatClampNeg ((sa (sa (sa (sa s 221 (Int32.toNatClampNeg (s.1 26)) a1) 222 (Int32.toNatClampNeg ((sa s 221 (Int32.toNatClampNeg (s.1 26)) a1).1 26)) ((sa s 221 (Int32.toNatClampNeg (s.1 26)) a1).1 7)) 224 (Int32.toNatClampNeg ((sa (sa s 221 (Int32.toNatClampNeg (s.1 26)) a1) 222 (Int32.toNatClampNeg ((sa s 221 (Int32.toNatClampNeg (s.1 26)) a1).1 26)) ((sa s 221 (Int32.toNatClampNeg (s.1 26)) a1).1 7)).1 26)) (-1)) 225 (Int32.toNatClampNeg ((sa (sa (sa s 221 (Int32.toNatClampNeg (s.1 26)) a1) 222 (Int32.toNatClampNeg ((sa s 221 (Int32.toNatClampNeg (s.1 26)) a1).1 26)) ((sa s 221 (Int32.toNatClampNeg (s.1 26)) a1).1 7)) 224 (Int32.toNatClampNeg ((sa (sa s 221 (Int32.toNatClampNeg (s.1 26)) a1) 222 (Int32.toNatClampNeg ((sa s 221 (Int32.toNatClampNeg (s.1 26)) a1).1 26)) ((sa s 221 (Int32.toNatClampNeg (s.1 26)) a1).1 7)).1 26)) (-1)).1 26)) (-1)).1 26)) 0).1 26)) (-1)) 228 (Int32.toNatClampNeg ((sa (sa (sa (sa (sa (sa s 221 (Int32.toNatClampNeg (s.1 26)) a1) 222 (Int32.toNatClampNeg ((sa s 221 (Int32.toNatClampNeg (s.1 26)) a1).1 26)) ((sa s 221 (Int32.toNatClampNeg (s.1 26)) a1).1 7)) 224 (Int32.toNatClampNeg ((sa (sa s 221 (Int32.toNatClampNeg (s.1 26)) a1) 222 (Int32.toNatClampNeg ((sa s 221 (Int32.toNatClampNeg (s.1 26)) a1).1 26)) ((sa s 221 (Int32.toNatClampNeg (s.1 26)) a1).1 7)).1 26)) (-1)) 225 (Int32.toNatClampNeg ((sa (sa (sa s 221 (Int32.toNatClampNeg (s.1 26)) a1) 222 (Int32.toNatClampNeg ((sa s 221 (Int32.toNatClampNeg (s.1 26)) a1).1 26)) ((sa s 221 (Int32.toNatClampNeg (s.1 26)) a1).1 7)) 224 (Int32.toNatClampNeg ((sa (sa s 221 (Int32.toNatClampNeg (s.1 26)) a1) 222 (Int32.toNatClampNeg ((sa s 221 (Int32.toNatClampNeg (s.1 26)) a1).1 26)) ((sa s 221 (Int32.toNatClampNeg (s.1 26)) a1).1 7)).1 26)) (-1)).1 26)) (-1)) 226 (Int32.toNatClampNeg ((sa (sa (sa (sa s 221 (Int32.toNatClampNeg (s.1 26)) a1) 222 (Int32.toNatClampNeg ((sa s 221 (Int32.toNatClampNeg (s.1 26)) a1).1 26)) ((sa s 221 (Int32.toNatClampNeg (s.1 26)) a1).1 7)) 224 (Int32.toNatClampNeg ((sa (sa s 221 (Int32.toNatClampNeg (s.1 26)) a1) 222 (Int32.toNatClampNeg ((sa s 221 (Int32.toNatClampNeg (s.1 26)) a1).1 26)) ((sa s 221 (Int32.toNatClampNeg (s.1 26)) a1).1 7)).1 26)) (-1)) 225 (Int32.toNatClampNeg ((sa (sa (sa s 221 (Int32.toNatClampNeg (s.1 26)) a1) 222 (Int32.toNatClampNeg ((sa s 221 (Int32.toNatClampNeg (s.1 26)) a1).1 26)) ((sa s 221 (Int32.toNatClampNeg (s.1 26)) a1).1 7)) 224 (Int32.toNatClampNeg ((sa (sa s 221 (Int32.toNatClampNeg (s.1 26)) a1) 222 (Int32.toNatClampNeg ((sa s 221 (Int32.toNatClampNeg (s.1 26)) a1).1 26)) ((sa s 221 (Int32.toNatClampNeg (s.1 26)) a1).1 7)).1 26)) (-1)).1 26)) (-1)).1 26)) 0) 227 (Int32.toNatClampNeg ((sa (sa (sa (sa (sa s 221 (Int32.toNatClampNeg (s.1 26)) a1) 222 (Int32.toNatClampNeg ((sa s 221 (Int32.toNatClampNeg (s.1 26)) a1).1 26)) ((sa s 221 (Int32.toNatClampNeg (s.1 26)) a1).1 7)) 224 (Int32.toNatClampNeg ((sa (sa s 221 (Int32.toNatClampNeg (s.1 26)) a1) 222 (Int32.toNatClampNeg ((sa s 221 (Int32.toNatClampNeg (s.1 26)) a1).1 26)) ((sa s 221 (Int32.toNatClampNeg (s.1 26)) a1).1 7)).1 26)) (-1)) 225 (Int32.toNatClampNeg ((sa (sa (sa s 221 (Int32.toNatClampNeg (s.1 26)) a1) 222 (Int32.toNatClampNeg ((sa s 221 (Int32.toNatClampNeg (s.1 26)) a1).1 26)) ((sa s 221 (Int32.toNatClampNeg (s.1 26)) a1).1 7)) 224 (Int32.toNatClampNeg ((sa (sa s 221 (Int32.toNatClampNeg (s.1 26)) a1) 222 (Int32.toNatClampNeg ((sa s 221 (Int32.toNatClampNeg (s.1 26)) a1).1 26)) ((sa s 221 (Int32.toNatClampNeg (s.1 26)) a1).1 7)).1 26)) (-1)).1 26)) (-1)) 226 (Int32.toNatClampNeg ((sa (sa (sa (sa s 221 (Int32.toNatClampNeg (s.1 26)) a1) 222 (Int32.toNatClampNeg ((sa s 221 (Int32.toNatClampNeg (s.1 26)) a1).1 26)) ((sa s 221 (Int32.toNatClampNeg (s.1 26)) a1).1 7)) 224 (Int32.toNatClampNeg ((sa (sa s 221 (Int32.toNatClampNeg (s.1 26)) a1) 222 (Int32.toNatClampNeg ((sa s 221 (Int32.toNatClampNeg (s.1 26)) a1).1 26)) ((sa s 221 (Int32.toNatClampNeg (s.1 26)) a1).1 7)).1 26)) (-1)) 225 (Int32.toNatClampNeg ((sa (sa (sa s 221 (Int32.toNatClampNeg (s.1 26)) a1) 222 (Int32.toNatClampNeg ((sa s 221 (Int32.toNatClampNeg (s.1 26)) a1).1 26)) ((sa s 221 (Int32.toNatClampNeg (s.1 26)) a1).1 7)) 224 (Int32.toNatClampNeg ((sa (sa s 221 (Int32.toNatClampNeg (s.1 26)) a1) 222 (Int32.toNatClampNeg ((sa s 221 (Int32.toNatClampNeg (s.1 26)) a1).1 26)) ((sa s 221 (Int32.toNatClampNeg (s.1 26)) a1).1 7)).1 26)) (-1)).1 26)) (-1)).1 26)) 0).1 26)) (-1)).1 26)) (-1)) 229 (Int32.toNatClampNeg ((sa (sa (sa (sa (sa (sa (sa s 221 (Int32.toNatClampNeg (s.1 26)) a1) 222 (Int32.toNatClampNeg ((sa s 221 (Int32.toNatClampNeg (s.1 26)) a1).1 26)) ((sa s 221 (Int32.toNatClampNeg (s.1 26)) a1).1 7)) 224 (Int32.toNatClampNeg ((sa (sa s 221 (Int32.toNatClampNeg (s.1 26)) a1) 222 (Int32.toNatClampNeg ((sa s 221 (Int32.toNatClampNeg (s.1 26)) a1).1 26)) ((sa s 221 (Int32.toNatClampNeg (s.1 26)) a1).1 7)).1 26)) (-1)) 225 (Int32.toNatClampNeg ((sa (sa (sa s 221 (Int32.toNatClampNeg (s.1 26)) a1) 222 (Int32.toNatClampNeg ((sa s 221 (Int32.toNatClampNeg (s.1 26)) a1).1 26)) ((sa s 221 (Int32.toNatClampNeg (s.1 26)) a1).1 7)) 224 (Int32.toNatClampNeg ((sa (sa s 221 (Int32.toNatClampNeg (s.1 26)) a1) 222 (Int32.toNatClampNeg ((sa s 221 (Int32.toNatClampNeg (s.1 26)) a1).1 26)) ((sa s 221 (Int32.toNatClampNeg (s.1 26)) a1).1 7)).1 26)) (-1)).1 26)) (-1)) 226 (Int32.toNatClampNeg ((sa (sa (sa (sa s 221 (Int32.toNatClampNeg (s.1 26)) a1) 222 (Int32.toNatClampNeg ((sa s 221 (Int32.toNatClampNeg (s.1 26)) a1).1 26)) ((sa s 221 (Int32.toNatClampNeg (s.1 26)) a1).1 7)) 224 (Int32.toNatClampNeg ((sa (sa s 221 (Int32.toNatClampNeg (s.1 26)) a1) 222 (Int32.toNatClampNeg ((sa s 221 (Int32.toNatClampNeg (s.1 26)) a1).1 26)) ((sa s 221 (Int32.toNatClampNeg (s.1 26)) a1).1 7)).1 26)) (-1)) 225 (Int32.toNatClampNeg ((sa (sa (sa s 221 (Int32.toNatClampNeg (s.1 26)) a1) 222 (Int32.toNatClampNeg ((sa s 221 (Int32.toNatClampNeg (s.1 26)) a1).1 26)) ((sa s 221 (Int32.toNatClampNeg (s.1 26)) a1).1 7)) 224 (Int32.toNatClampNeg ((sa (sa s 221 (Int32.toNatClampNeg (s.1 26)) a1) 222 (Int32.toNatClampNeg ((sa s 221 (Int32.toNatClampNeg (s.1 26)) a1).1 26)) ((sa s 221 (Int32.toNatClampNeg (s.1 26)) a1).1 7)).1 26)) (-1)).1 26)) (-1)).1 26)) 0) 227 (Int32.toNatClampNeg ((sa (sa (sa (sa (sa s 221 (Int32.toNatClampNeg (s.1 26)) a1) 222 (Int32.toNatClampNeg ((sa s 221 (Int32.toNatClampNeg (s.1 26)) a1).1 26)) ((sa s 221 (Int32.toNatClampNeg (s.1 26)) a1).1 7)) 224 (Int32.toNatClampNeg ((sa (sa s 221 (Int32.toNatClampNeg (s.1 26)) a1) 222 (Int32.toNatClampNeg ((sa s 221 (Int32.toNatClampNeg (s.1 26)) a1).1 26)) ((sa s 221 (Int32.toNatClampNeg (s.1 26)) a1).1 7)).1 26)) (-1)) 225 (Int32.toNatClampNeg ((sa (sa (sa s 221 (Int32.toNatClampNeg (s.1 26)) a1) 222 (Int32.toNatClampNeg ((sa s 221 (Int32.toNatClampNeg (s.1 26)) a1).1 26)) ((sa s 221 (Int32.toNatClampNeg (s.1 26)) a1).1 7)) 224 (Int32.toNatClampNeg ((sa (sa s 221 (Int32.toNatClampNeg (s.1 26)) a1) 222 (Int32.toNatClampNeg ((sa s 221 (Int32.toNatClampNeg (s.1 26)) a1).1 26)) ((sa s 221 (Int32.toNatClampNeg (s.1 26)) a1).1 7)).1 26)) (-1)).1 26)) (-1)) 226 (Int32.toNatClampNeg ((sa (sa (sa (sa s 221 (Int32.toNatClampNeg (s.1 26)) a1) 222 (Int32.toNatClampNeg ((sa s 221 (Int32.toNatClampNeg (s.1 26)) a1).1 26)) ((sa s 221 (Int32.toNatClampNeg (s.1 26)) a1).1 7)) 224 (Int32.toNatClampNeg ((sa (sa s 221 (Int32.toNatClampNeg (s.1 26)) a1) 222 (Int32.toNatClampNeg ((sa s 221 (Int32.toNatClampNeg (s.1 26)) a1).1 26)) ((sa s 221 (Int32.toNatClampNeg (s.1 26)) a1).1 7)).1 26)) (-1)) 225 (Int32.toNatClampNeg ((sa (sa (sa s 221 (Int32.toNatClampNeg (s.1 26)) a1) 222 (Int32.toNatClampNeg ((sa s 221 (Int32.toNatClampNeg (s.1 26)) a1).1 26)) ((sa s 221 (Int32.toNatClampNeg (s.1 26)) a1).1 7)) 224 (Int32.toNatClampNeg ((sa (sa s 221 (Int32.toNatClampNeg (s.1 26)) a1) 222 (Int32.toNatClampNeg ((sa s 221 (Int32.toNatClampNeg (s.1 26)) a1).1 26)) ((sa s 221 (Int32.toNatClampNeg (s.1 26)) a1).1 7)).1 26)) (-1)).1 26)) (-1)).1 26)) 0).1 26)) (-1)) 228 (Int32.toNatClampNeg ((sa (sa (sa (sa (sa (sa s 221 (Int32.toNatClampNeg (s.1 26)) a1) 222 (Int32.toNatClampNeg ((sa s 221 (Int32.toNatClampNeg (s.1 26)) a1).1 26)) ((sa s 221 (Int32.toNatClampNeg (s.1 26)) a1).1 7)) 224 (Int32.toNatClampNeg ((sa (sa s 221 (Int32.toNatClampNeg (s.1 26)) a1) 222 (Int32.toNatClampNeg ((sa s 221 (Int32.toNatClampNeg (s.1 26)) a1).1 26)) ((sa s 221 (Int32.toNatClampNeg (s.1 26)) a1).1 7)).1 26)) (-1)) 225 (Int32.toNatClampNeg ((sa (sa (sa s 221 (Int32.toNatClampNeg (s.1 26)) a1) 222 (Int32.toNatClampNeg ((sa s 221 (Int32.toNatClampNeg (s.1 26)) a1).1 26)) ((sa s 221 (Int32.toNatClampNeg (s.1 26)) a1).1 7)) 224 (Int32.toNatClampNeg ((sa (sa s 221 (Int32.toNatClampNeg (s.1 26)) a1) 222 (Int32.toNatClampNeg ((sa s 221 (Int32.toNatClampNeg (s.1 26)) a1).1 26)) ((sa s 221 (Int32.toNatClampNeg (s.1 26)) a1).1 7)).1 26)) (-1)).1 26)) (-1)) 226 (Int32.toNatClampNeg ((sa (sa (sa (sa s 221 (Int32.toNatClampNeg (s.1 26)) a1) 222 (Int32.toNatClampNeg ((sa s 221 (Int32.toNatClampNeg (s.1 26)) a1).1 26)) ((sa s 221 (Int32.toNatClampNeg (s.1 26)) a1).1 7)) 224 (Int32.toNatClampNeg ((sa (sa s 221 (Int32.toNatClampNeg (s.1 26)) a1) 222 (Int32.toNatClampNeg ((sa s 221 (Int32.toNatClampNeg (s.1 26)) a1).1 26)) ((sa s 221 (Int32.toNatClampNeg (s.1 26)) a1).1 7)).1 26)) (-1)) 225 (Int32.toNatClampNeg ((sa (sa (sa s 221 (Int32.toNatClampNeg (s.1 26)) a1) 222 (Int32.toNatClampNeg ((sa s 221 (Int32.toNatClampNeg (s.1 26)) a1).1 26)) ((sa s 221 (Int32.toNatClampNeg (s.1 26)) a1).1 7)) 224 (Int32.toNatClampNeg ((sa (sa s 221 (Int32.toNatClampNeg (s.1 26)) a1) 222 (Int32.toNatClampNeg ((sa s 221 (Int32.toNatClampNeg (s.1 26)) a1).1 26)) ((sa s 221 (Int32.toNatClampNeg (s.1 26)) a1).1 7)).1 26)) (-1)).1 26)) (-1)).1 26)) 0) 227 (Int32.toNatClampNeg ((sa (sa (sa (sa (sa s 221 (Int32.toNatClampNeg (s.1 26)) a1) 222 (Int32.toNatClampNeg ((sa s 221 (Int32.toNatClampNeg (s.1 26)) a1).1 26)) ((sa s 221 (Int32.toNatClampNeg (s.1 26)) a1).1 7)) 224 (Int32.toNatClampNeg ((sa (sa s 221 (Int32.toNatClampNeg (s.1 26)) a1) 222 (Int32.toNatClampNeg ((sa s 221 (Int32.toNatClampNeg (s.1 26)) a1).1 26)) ((sa s 221 (Int32.toNatClampNeg (s.1 26)) a1).1 7)).1 26)) (-1)) 225 (Int32.toNatClampNeg ((sa (sa (sa s 221 (Int32.toNatClampNeg (s.1 26)) a1) 222 (Int32.toNatClampNeg ((sa s 221 (Int32.toNatClampNeg (s.1 26)) a1).1 26)) ((sa s 221 (Int32.toNatClampNeg (s.1 26)) a1).1 7)) 224 (Int32.toNatClampNeg ((sa (sa s 221 (Int32.toNatClampNeg (s.1 26)) a1) 222 (Int32.toNatClampNeg ((sa s 221 (Int32.toNatClampNeg (s.1 26)) a1).1 26)) ((sa s 221 (Int32.toNatClampNeg (s.1 26)) a1).1 7)).1 26)) (-1)).1 26)) (-1)) 226 (Int32.toNatClampNeg ((sa (sa (sa (sa s 221 (Int32.toNatClampNeg (s.1 26)) a1) 222 (Int32.toNatClampNeg ((sa s 221 (Int32.toNatClampNeg (s.1 26)) a1).1 26)) ((sa s 221 (Int32.toNatClampNeg (s.1 26)) a1).1 7)) 224 (Int32.toNatClampNeg ((sa (sa s 221 (Int32.toNatClampNeg (s.1 26)) a1) 222 (Int32.toNatClampNeg ((sa s 221 (Int32.toNatClampNeg (s.1 26)) a1).1 26)) ((sa s 221 (Int32.toNatClampNeg (s.1 26)) a1).1 7)).1 26)) (-1)) 225 (Int32.toNatClampNeg ((sa (sa (sa s 221 (Int32.toNatClampNeg (s.1 26)) a1) 222 (Int32.toNatClampNeg ((sa s 221 (Int32.toNatClampNeg (s.1 26)) a1).1 26)) ((sa s 221 (Int32.toNatClampNeg (s.1 26)) a1).1 7)) 224 (Int32.toNatClampNeg ((sa (sa s 221 (Int32.toNatClampNeg (s.1 26)) a1) 222 (Int32.toNatClampNeg ((sa s 221 (Int32.toNatClampNeg (s.1 26)) a1).1 26)) ((sa s 221 (Int32.toNatClampNeg (s.1 26)) a1).1 7)).1 26)) (-1)).1 26)) (-1)).1 26)) 0).1 26)) (-1)).1 26)) (-1)).1 26)) (-1)).1 26)) 0) 26 (((sa (sa (sa (sa (sa (sa (sa (sa (sa s 221 (Int32.toNatClampNeg (s.1 26)) a1) 222 (Int32.toNatClampNeg ((sa s 221 (Int32.toNatClampNeg (s.1 26)) a1).1 26)) ((sa s 221 (Int32.toNatClampNeg (s.1 26)) a1).1 7)) 224 (Int32.toNatClampNeg ((sa (sa s 221 (Int32.toNatClampNeg (s.1 26)) a1) 222 (Int32.toNatClampNeg ((sa s 221 (Int32.toNatClampNeg (s.1 26)) a1).1 26)) ((sa s 221 (Int32.toNatClampNeg (s.1 26)) a1).1 7)).1 26)) (-1)) 225 (Int32.toNatClampNeg ((sa (sa (sa s 221 (Int32.toNatClampNeg (s.1 26)) a1) 222 (Int32.toNatClampNeg ((sa s 221 (Int32.toNatClampNeg (s.1 26)) a1).1 26)) ((sa s 221 (Int32.toNatClampNeg (s.1 26)) a1).1 7)) 224 (Int32.toNatClampNeg ((sa (sa s 221 (Int32.toNatClampNeg (s.1 26)) a1) 222 (Int32.toNatClampNeg ((sa s 221 (Int32.toNatClampNeg (s.1 26)) a1).1 26)) ((sa s 221 (Int32.toNatClampNeg (s.1 26)) a1).1 7)).1 26)) (-1)).1 26)) (-1)) 226 (Int32.toNatClampNeg ((sa (sa (sa (sa s 221 (Int32.toNatClampNeg (s.1 26)) a1) 222 (Int32.toNatClampNeg ((sa s 221 (Int32.toNatClampNeg (s.1 26)) a1).1 26)) ((sa s 221 (Int32.toNatClampNeg (s.1 26)) a1).1 7)) 224 (Int32.toNatClampNeg ((sa (sa s 221 (Int32.toNatClampNeg (s.1 26)) a1) 222 (Int32.toNatClampNeg ((sa s 221 (Int32.toNatClampNeg (s.1 26)) a1).1 26)) ((sa s 221 (Int32.toNatClampNeg (s.1 26)) a1).1 7)).1 26)) (-1)) 225 (Int32.toNatClampNeg ((sa (sa (sa s 221 (Int32.toNatClampNeg (s.1 26)) a1) 222 (Int32.toNatClampNeg ((sa s 221 (Int32.toNatClampNeg (s.1 26)) a1).1 26)) ((sa s 221 (Int32.toNatClampNeg (s.1 26)) a1).1 7)) 224 (Int32.toNatClampNeg ((sa (sa s 221 (Int32.toNatClampNeg (s.1 26)) a1) 222 (Int32.toNatClampNeg ((sa s 221 (Int32.toNatClampNeg (s.1 26)) a1).1 26)) ((sa s 221 (Int32.toNatClampNeg (s.1 26)) a1).1 7)).1 26)) (-1)).1 26)) (-1)).1 26)) 0) 227 (Int32.toNatClampNeg ((sa (sa (sa (sa (sa s 221 (Int32.toNatClampNeg (s.1 26)) a1) 222 (Int32.toNatClampNeg ((sa s 221 (Int32.toNatClampNeg (s.1 26)) a1).1 26)) ((sa s 221 (Int32.toNatClampNeg (s.1 26)) a1).1 7)) 224 (Int32.toNatClampNeg ((sa (sa s 221 (Int32.toNatClampNeg (s.1 26)) a1) 222 (Int32.toNatClampNeg ((sa s 221 (Int32.toNatClampNeg (s.1 26)) a1).1 26)) ((sa s 221 (Int32.toNatClampNeg (s.1 26)) a1).1 7)).1 26)) (-1)) 225 (Int32.toNatClampNeg ((sa (sa (sa s 221 (Int32.toNatClampNeg (s.1 26)) a1) 222 (Int32.toNatClampNeg ((sa s 221 (Int32.toNatClampNeg (s.1 26)) a1).1 26)) ((sa s 221 (Int32.toNatClampNeg (s.1 26)) a1).1 7)) 224 (Int32.toNatClampNeg ((sa (sa s 221 (Int32.toNatClampNeg (s.1 26)) a1) 222 (Int32.toNatClampNeg ((sa s 221 (Int32.toNatClampNeg (s.1 26)) a1).1 26)) ((sa s 221 (Int32.toNatClampNeg (s.1 26)) a1).1 7)).1 26)) (-1)).1 26)) (-1)) 226 (Int32.toNatClampNeg ((sa (sa (sa (sa s 221 (Int32.toNatClampNeg (s.1 26)) a1) 222 (Int32.toNatClampNeg ((sa s 221 (Int32.toNatClampNeg (s.1 26)) a1).1 26)) ((sa s 221 (Int32.toNatClampNeg (s.1 26)) a1).1 7)) 224 (Int32.toNatClampNeg ((sa (sa s 221 (Int32.toNatClampNeg (s.1 26)) a1) 222 (Int32.toNatClampNeg ((sa s 221 (Int32.toNatClampNeg (s.1 26)) a1).1 26)) ((sa s 221 (Int32.toNatClampNeg (s.1 26)) a1).1 7)).1 26)) (-1)) 225 (Int32.toNatClampNeg ((sa (sa (sa s 221 (Int32.toNatClampNeg (s.1 26)) a1) 222 (Int32.toNatClampNeg ((sa s 221 (Int32.toNatClampNeg (s.1 26)) a1).1 26)) ((sa s 221 (Int32.toNatClampNeg (s.1 26)) a1).1 7)) 224 (Int32.toNatClampNeg ((sa (sa s 221 (Int32.toNatClampNeg (s.1 26)) a1) 222 (Int32.toNatClampNeg ((sa s 221 (Int32.toNatClampNeg (s.1 26)) a1).1 26)) ((sa s 221 (Int32.toNatClampNeg (s.1 26)) a1).1 7)).1 26)) (-1)).1 26)) (-1)).1 26)) 0).1 26)) (-1)) 228 (Int32.toNatClampNeg ((sa (sa (sa (sa (sa (sa s 221 (Int32.toNatClampNeg (s.1 26)) a1) 222 (Int32.toNatClampNeg ((sa s 221 (Int32.toNatClampNeg (s.1 26)) a1).1 26)) ((sa s 221 (Int32.toNatClampNeg (s.1 26)) a1).1 7)) 224 (Int32.toNatClampNeg ((sa (sa s 221 (Int32.toNatClampNeg (s.1 26)) a1) 222 (Int32.toNatClampNeg ((sa s 221 (Int32.toNatClampNeg (s.1 26)) a1).1 26)) ((sa s 221 (Int32.toNatClampNeg (s.1 26)) a1).1 7)).1 26)) (-1)) 225 (Int32.toNatClampNeg ((sa (sa (sa s 221 (Int32.toNatClampNeg (s.1 26)) a1) 222 (Int32.toNatClampNeg ((sa s 221 (Int32.toNatClampNeg (s.1 26)) a1).1 26)) ((sa s 221 (Int32.toNatClampNeg (s.1 26)) a1).1 7)) 224 (Int32.toNatClampNeg ((sa (sa s 221 (Int32.toNatClampNeg (s.1 26)) a1) 222 (Int32.toNatClampNeg ((sa s 221 (Int32.toNatClampNeg (s.1 26)) a1).1 26)) ((sa s 221 (Int32.toNatClampNeg (s.1 26)) a1).1 7)).1 26)) (-1)).1 26)) (-1)) 226 (Int32.toNatClampNeg ((sa (sa (sa (sa s 221 (Int32.toNatClampNeg (s.1 26)) a1) 222 (Int32.toNatClampNeg ((sa s 221 (Int32.toNatClampNeg (s.1 26)) a1).1 26)) ((sa s 221 (Int32.toNatClampNeg (s.1 26)) a1).1 7)) 224 (Int32.toNatClampNeg ((sa (sa s 221 (Int32.toNatClampNeg (s.1 26)) a1) 222 (Int32.toNatClampNeg ((sa s 221 (Int32.toNatClampNeg (s.1 26)) a1).1 26)) ((sa s 221 (Int32.toNatClampNeg (s.1 26)) a1).1 7)).1 26)) (-1)) 225 (Int32.toNatClampNeg ((sa (sa (sa s 221 (Int32.toNatClampNeg (s.1 26)) a1) 222 (Int32.toNatClampNeg ((sa s 221 (Int32.toNatClampNeg (s.1 26)) a1).1 26)) ((sa s 221 (Int32.toNatClampNeg (s.1 26)) a1).1 7)) 224 (Int32.toNatClampNeg ((sa (sa s 221 (Int32.toNatClampNeg (s.1 26)) a1) 222 (Int32.toNatClampNeg ((sa s 221 (Int32.toNatClampNeg (s.1 26)) a1).1 26)) ((sa s 221 (Int32.toNatClampNeg (s.1 26)) a1).1 7)).1 26)) (-1)).1 26)) (-1)).1 26)) 0) 227 (Int32.toNatClampNeg ((sa (sa (sa (sa (sa s 221 (Int32.toNatClampNeg (s.1 26)) a1) 222 (Int32.toNatClampNeg ((sa s 221 (Int32.toNatClampNeg (s.1 26)) a1).1 26)) ((sa s 221 (Int32.toNatClampNeg (s.1 26)) a1).1 7)) 224 (Int32.toNatClampNeg ((sa (sa s 221 (Int32.toNatClampNeg (s.1 26)) a1) 222 (Int32.toNatClampNeg ((sa s 221 (Int32.toNatClampNeg (s.1 26)) a1).1 26)) ((sa s 221 (Int32.toNatClampNeg (s.1 26)) a1).1 7)).1 26)) (-1)) 225 (Int32.toNatClampNeg ((sa (sa (sa s 221 (Int32.toNatClampNeg (s.1 26)) a1) 222 (Int32.toNatClampNeg ((sa s 221 (Int32.toNatClampNeg (s.1 26)) a1).1 26)) ((sa s 221 (Int32.toNatClampNeg (s.1 26)) a1).1 7)) 224 (Int32.toNatClampNeg ((sa (sa s 221 (Int32.toNatClampNeg (s.1 26)) a1) 222 (Int32.toNatClampNeg ((sa s 221 (Int32.toNatClampNeg (s.1 26)) a1).1 26)) ((sa s 221 (Int32.toNatClampNeg (s.1 26)) a1).1 7)).1 26)) (-1)).1 26)) (-1)) 226 (Int32.toNatClampNeg ((sa (sa (sa (sa s 221 (Int32.toNatClampNeg (s.1 26)) a1) 222 (Int32.toNatClampNeg ((sa s 221 (Int32.toNatClampNeg (s.1 26)) a1).1 26)) ((sa s 221 (Int32.toNatClampNeg (s.1 26)) a1).1 7)) 224 (Int32.toNatClampNeg ((sa (sa s 221 (Int32.toNatClampNeg (s.1 26)) a1) 222 (Int32.toNatClampNeg ((sa s 221 (Int32.toNatClampNeg (s.1 26)) a1).1 26)) ((sa s 221 (Int32.toNatClampNeg (s.1 26)) a1).1 7)).1 26)) (-1)) 225 (Int32.toNatClampNeg ((sa (sa (sa s 221 (Int32.toNatClampNeg (s.1 26)) a1) 222 (Int32.toNatClampNeg ((sa s 221 (Int32.toNatClampNeg (s.1 26)) a1).1 26)) ((sa s 221 (Int32.toNatClampNeg (s.1 26)) a1).1 7)) 224 (Int32.toNatClampNeg ((sa (sa s 221 (Int32.toNatClampNeg (s.1 26)) a1) 222 (Int32.toNatClampNeg ((sa s 221 (Int32.toNatClampNeg (s.1 26)) a1).1 26)) ((sa s 221 (Int32.toNatClampNeg (s.1 26)) a1).1 7)).1 26)) (-1)).1 26)) (-1)).1 26)) 0).1 26)) (-1)).1 26)) (-1)) 229 (Int32.toNatClampNeg ((sa (sa (sa (sa (sa (sa (sa s 221 (Int32.toNatClampNeg (s.1 26)) a1) 222 (Int32.toNatClampNeg ((sa s 221 (Int32.toNatClampNeg (s.1 26)) a1).1 26)) ((sa s 221 (Int32.toNatClampNeg (s.1 26)) a1).1 7)) 224 (Int32.toNatClampNeg ((sa (sa s 221 (Int32.toNatClampNeg (s.1 26)) a1) 222 (Int32.toNatClampNeg ((sa s 221 (Int32.toNatClampNeg (s.1 26)) a1).1 26)) ((sa s 221 (Int32.toNatClampNeg (s.1 26)) a1).1 7)).1 26)) (-1)) 225 (Int32.toNatClampNeg ((sa (sa (sa s 221 (Int32.toNatClampNeg (s.1 26)) a1) 222 (Int32.toNatClampNeg ((sa s 221 (Int32.toNatClampNeg (s.1 26)) a1).1 26)) ((sa s 221 (Int32.toNatClampNeg (s.1 26)) a1).1 7)) 224 (Int32.toNatClampNeg ((sa (sa s 221 (Int32.toNatClampNeg (s.1 26)) a1) 222 (Int32.toNatClampNeg ((sa s 221 (Int32.toNatClampNeg (s.1 26)) a1).1 26)) ((sa s 221 (Int32.toNatClampNeg (s.1 26)) a1).1 7)).1 26)) (-1)).1 26)) (-1)) 226 (Int32.toNatClampNeg ((sa (sa (sa (sa s 221 (Int32.toNatClampNeg (s.1 26)) a1) 222 (Int32.toNatClampNeg ((sa s 221 (Int32.toNatClampNeg (s.1 26)) a1).1 26)) ((sa s 221 (Int32.toNatClampNeg (s.1 26)) a1).1 7)) 224 (Int32.toNatClampNeg ((sa (sa s 221 (Int32.toNatClampNeg (s.1 26)) a1) 222 (Int32.toNatClampNeg ((sa s 221 (Int32.toNatClampNeg (s.1 26)) a1).1 26)) ((sa s 221 (Int32.toNatClampNeg (s.1 26)) a1).1 7)).1 26)) (-1)) 225 (Int32.toNatClampNeg ((sa (sa (sa s 221 (Int32.toNatClampNeg (s.1 26)) a1) 222 (Int32.toNatClampNeg ((sa s 221 (Int32.toNatClampNeg (s.1 26)) a1).1 26)) ((sa s 221 (Int32.toNatClampNeg (s.1 26)) a1).1 7)) 224 (Int32.toNatClampNeg ((sa (sa s 221 (Int32.toNatClampNeg (s.1 26)) a1) 222 (Int32.toNatClampNeg ((sa s 221 (Int32.toNatClampNeg (s.1 26)) a1).1 26)) ((sa s 221 (Int32.toNatClampNeg (s.1 26)) a1).1 7)).1 26)) (-1)).1 26)) (-1)).1 26)) 0) 227 (Int32.toNatClampNeg ((sa (sa (sa (sa (sa s 221 (Int32.toNatClampNeg (s.1 26)) a1) 222 (Int32.toNatClampNeg ((sa s 221 (Int32.toNatClampNeg (s.1 26)) a1).1 26)) ((sa s 221 (Int32.toNatClampNeg (s.1 26)) a1).1 7)) 224 (Int32.toNatClampNeg ((sa (sa s 221 (Int32.toNatClampNeg (s.1 26)) a1) 222 (Int32.toNatClampNeg ((sa s 221 (Int32.toNatClampNeg (s.1 26)) a1).1 26)) ((sa s 221 (Int32.toNatClampNeg (s.1 26)) a1).1 7)).1 26)) (-1)) 225 (Int32.toNatClampNeg ((sa (sa (sa s 221 (Int32.toNatClampNeg (s.1 26)) a1) 222 (Int32.toNatClampNeg ((sa s 221 (Int32.toNatClampNeg (s.1 26)) a1).1 26)) ((sa s 221 (Int32.toNatClampNeg (s.1 26)) a1).1 7)) 224 (Int32.toNatClampNeg ((sa (sa s 221 (Int32.toNatClampNeg (s.1 26)) a1) 222 (Int32.toNatClampNeg ((sa s 221 (Int32.toNatClampNeg (s.1 26)) a1).1 26)) ((sa s 221 (Int32.toNatClampNeg (s.1 26)) a1).1 7)).1 26)) (-1)).1 26)) (-1)) 226 (Int32.toNatClampNeg ((sa (sa (sa (sa s 221 (Int32.toNatClampNeg (s.1 26)) a1) 222 (Int32.toNatClampNeg ((sa s 221 (Int32.toNatClampNeg (s.1 26)) a1).1 26)) ((sa s 221 (Int32.toNatClampNeg (s.1 26)) a1).1 7)) 224 (Int32.toNatClampNeg ((sa (sa s 221 (Int32.toNatClampNeg (s.1 26)) a1) 222 (Int32.toNatClampNeg ((sa s 221 (Int32.toNatClampNeg (s.1 26)) a1).1 26)) ((sa s 221 (Int32.toNatClampNeg (s.1 26)) a1).1 7)).1 26)) (-1)) 225 (Int32.toNatClampNeg ((sa (sa (sa s 221 (Int32.toNatClampNeg (s.1 26)) a1) 222 (Int32.toNatClampNeg ((sa s 221 (Int32.toNatClampNeg (s.1 26)) a1).1 26)) ((sa s 221 (Int32.toNatClampNeg (s.1 26)) a1).1 7)) 224 (Int32.toNatClampNeg ((sa (sa s 221 (Int32.toNatClampNeg (s.1 26)) a1) 222 (Int32.toNatClampNeg ((sa s 221 (Int32.toNatClampNeg (s.1 26)) a1).1 26)) ((sa s 221 (Int32.toNatClampNeg (s.1 26)) a1).1 7)).1 26)) (-1)).1 26)) (-1)).1 26)) 0).1 26)) (-1)) 228 (Int32.toNatClampNeg ((sa (sa (sa (sa (sa (sa s 221 (Int32.toNatClampNeg (s.1 26)) a1) 222 (Int32.toNatClampNeg ((sa s 221 (Int32.toNatClampNeg (s.1 26)) a1).1 26)) ((sa s 221 (Int32.toNatClampNeg (s.1 26)) a1).1 7)) 224 (Int32.toNatClampNeg ((sa (sa s 221 (Int32.toNatClampNeg (s.1 26)) a1) 222 (Int32.toNatClampNeg ((sa s 221 (Int32.toNatClampNeg (s.1 26)) a1).1 26)) ((sa s 221 (Int32.toNatClampNeg (s.1 26)) a1).1 7)).1 26)) (-1)) 225 (Int32.toNatClampNeg ((sa (sa (sa s 221 (Int32.toNatClampNeg (s.1 26)) a1) 222 (Int32.toNatClampNeg ((sa s 221 (Int32.toNatClampNeg (s.1 26)) a1).1 26)) ((sa s 221 (Int32.toNatClampNeg (s.1 26)) a1).1 7)) 224 (Int32.toNatClampNeg ((sa (sa s 221 (Int32.toNatClampNeg (s.1 26)) a1) 222 (Int32.toNatClampNeg ((sa s 221 (Int32.toNatClampNeg (s.1 26)) a1).1 26)) ((sa s 221 (Int32.toNatClampNeg (s.1 26)) a1).1 7)).1 26)) (-1)).1 26)) (-1)) 226 (Int32.toNatClampNeg ((sa (sa (sa (sa s 221 (Int32.toNatClampNeg (s.1 26)) a1) 222 (Int32.toNatClampNeg ((sa s 221 (Int32.toNatClampNeg (s.1 26)) a1).1 26)) ((sa s 221 (Int32.toNatClampNeg (s.1 26)) a1).1 7)) 224 (Int32.toNatClampNeg ((sa (sa s 221 (Int32.toNatClampNeg (s.1 26)) a1) 222 (Int32.toNatClampNeg ((sa s 221 (Int32.toNatClampNeg (s.1 26)) a1).1 26)) ((sa s 221 (Int32.toNatClampNeg (s.1 26)) a1).1 7)).1 26)) (-1)) 225 (Int32.toNatClampNeg ((sa (sa (sa s 221 (Int32.toNatClampNeg (s.1 26)) a1) 222 (Int32.toNatClampNeg ((sa s 221 (Int32.toNatClampNeg (s.1 26)) a1).1 26)) ((sa s 221 (Int32.toNatClampNeg (s.1 26)) a1).1 7)) 224 (Int32.toNatClampNeg ((sa (sa s 221 (Int32.toNatClampNeg (s.1 26)) a1) 222 (Int32.toNatClampNeg ((sa s 221 (Int32.toNatClampNeg (s.1 26)) a1).1 26)) ((sa s 221 (Int32.toNatClampNeg (s.1 26)) a1).1 7)).1 26)) (-1)).1 26)) (-1)).1 26)) 0) 227 (Int32.toNatClampNeg ((sa (sa (sa (sa (sa s 221 (Int32.toNatClampNeg (s.1 26)) a1) 222 (Int32.toNatClampNeg ((sa s 221 (Int32.toNatClampNeg (s.1 26)) a1).1 26)) ((sa s 221 (Int32.toNatClampNeg (s.1 26)) a1).1 7)) 224 (Int32.toNatClampNeg ((sa (sa s 221 (Int32.toNatClampNeg (s.1 26)) a1) 222 (Int32.toNatClampNeg ((sa s 221 (Int32.toNatClampNeg (s.1 26)) a1).1 26)) ((sa s 221 (Int32.toNatClampNeg (s.1 26)) a1).1 7)).1 26)) (-1)) 225 (Int32.toNatClampNeg ((sa (sa (sa s 221 (Int32.toNatClampNeg (s.1 26)) a1) 222 (Int32.toNatClampNeg ((sa s 221 (Int32.toNatClampNeg (s.1 26)) a1).1 26)) ((sa s 221 (Int32.toNatClampNeg (s.1 26)) a1).1 7)) 224 (Int32.toNatClampNeg ((sa (sa s 221 (Int32.toNatClampNeg (s.1 26)) a1) 222 (Int32.toNatClampNeg ((sa s 221 (Int32.toNatClampNeg (s.1 26)) a1).1 26)) ((sa s 221 (Int32.toNatClampNeg (s.1 26)) a1).1 7)).1 26)) (-1)).1 26)) (-1)) 226 (Int32.toNatClampNeg ((sa (sa (sa (sa s 221 (Int32.toNatClampNeg (s.1 26)) a1) 222 (Int32.toNatClampNeg ((sa s 221 (Int32.toNatClampNeg (s.1 26)) a1).1 26)) ((sa s 221 (Int32.toNatClampNeg (s.1 26)) a1).1 7)) 224 (Int32.toNatClampNeg ((sa (sa s 221 (Int32.toNatClampNeg (s.1 26)) a1) 222 (Int32.toNatClampNeg ((sa s 221 (Int32.toNatClampNeg (s.1 26)) a1).1 26)) ((sa s 221 (Int32.toNatClampNeg (s.1 26)) a1).1 7)).1 26)) (-1)) 225 (Int32.toNatClampNeg ((sa (sa (sa s 221 (Int32.toNatClampNeg (s.1 26)) a1) 222 (Int32.toNatClampNeg ((sa s 221 (Int32.toNatClampNeg (s.1 26)) a1).1 26)) ((sa s 221 (Int32.toNatClampNeg (s.1 26)) a1).1 7)) 224 (Int32.toNatClampNeg ((sa (sa s 221 (Int32.toNatClampNeg (s.1 26)) a1) 222 (Int32.toNatClampNeg ((sa s 221 (Int32.toNatClampNeg (s.1 26)) a1).1 26)) ((sa s 221 (Int32.toNatClampNeg (s.1 26)) a1).1 7)).1 26)) (-1)).1 26)) (-1)).1 26)) 0).1 26)) (-1)).1 26)) (-1)).1 26)) (-1)) 230 (Int32.toNatClampNeg ((sa (sa (sa (sa (sa (sa (sa (sa s 221 (Int32.toNatClampNeg (s.1 26)) a1) 222 (Int32.toNatClampNeg ((sa s 221 (Int32.toNatClampNeg (s.1 26)) a1).1 26)) ((sa s 221 (Int32.toNatClampNeg (s.1 26)) a1).1 7)) 224 (Int32.toNatClampNeg ((sa (sa s 221 (Int32.toNatClampNeg (s.1 26)) a1) 222 (Int32.toNatClampNeg ((sa s 221 (Int32.toNatClampNeg (s.1 26)) a1).1 26)) ((sa s 221 (Int32.toNatClampNeg (s.1 26)) a1).1 7)).1 26)) (-1)) 225 (Int32.toNatClampNeg ((sa (sa (sa s 221 (Int32.toNatClampNeg (s.1 26)) a1) 222 (Int32.toNatClampNeg ((sa s 221 (Int32.toNatClampNeg (s.1 26)) a1).1 26)) ((sa s 221 (Int32.toNatClampNeg (s.1 26)) a1).1 7)) 224 (Int32.toNatClampNeg ((sa (sa s 221 (Int32.toNatClampNeg (s.1 26)) a1) 222 (Int32.toNatClampNeg ((sa s 221 (Int32.toNatClampNeg (s.1 26)) a1).1 26)) ((sa s 221 (Int32.toNatClampNeg (s.1 26)) a1).1 7)).1 26)) (-1)).1 26)) (-1)) 226 (Int32.toNatClampNeg ((sa (sa (sa (sa s 221 (Int32.toNatClampNeg (s.1 26)) a1) 222 (Int32.toNatClampNeg ((sa s 221 (Int32.toNatClampNeg (s.1 26)) a1).1 26)) ((sa s 221 (Int32.toNatClampNeg (s.1 26)) a1).1 7)) 224 (Int32.toNatClampNeg ((sa (sa s 221 (Int32.toNatClampNeg (s.1 26)) a1) 222 (Int32.toNatClampNeg ((sa s 221 (Int32.toNatClampNeg (s.1 26)) a1).1 26)) ((sa s 221 (Int32.toNatClampNeg (s.1 26)) a1).1 7)).1 26)) (-1)) 225 (Int32.toNatClampNeg ((sa (sa (sa s 221 (Int32.toNatClampNeg (s.1 26)) a1) 222 (Int32.toNatClampNeg ((sa s 221 (Int32.toNatClampNeg (s.1 26)) a1).1 26)) ((sa s 221 (Int32.toNatClampNeg (s.1 26)) a1).1 7)) 224 (Int32.toNatClampNeg ((sa (sa s 221 (Int32.toNatClampNeg (s.1 26)) a1) 222 (Int32.toNatClampNeg ((sa s 221 (Int32.toNatClampNeg (s.1 26)) a1).1 26)) ((sa s 221 (Int32.toNatClampNeg (s.1 26)) a1).1 7)).1 26)) (-1)).1 26)) (-1)).1 26)) 0) 227 (Int32.toNatClampNeg ((sa (sa (sa (sa (sa s 221 (Int32.toNatClampNeg (s.1 26)) a1) 222 (Int32.toNatClampNeg ((sa s 221 (Int32.toNatClampNeg (s.1 26)) a1).1 26)) ((sa s 221 (Int32.toNatClampNeg (s.1 26)) a1).1 7)) 224 (Int32.toNatClampNeg ((sa (sa s 221 (Int32.toNatClampNeg (s.1 26)) a1) 222 (Int32.toNatClampNeg ((sa s 221 (Int32.toNatClampNeg (s.1 26)) a1).1 26)) ((sa s 221 (Int32.toNatClampNeg (s.1 26)) a1).1 7)).1 26)) (-1)) 225 (Int32.toNatClampNeg ((sa (sa (sa s 221 (Int32.toNatClampNeg (s.1 26)) a1) 222 (Int32.toNatClampNeg ((sa s 221 (Int32.toNatClampNeg (s.1 26)) a1).1 26)) ((sa s 221 (Int32.toNatClampNeg (s.1 26)) a1).1 7)) 224 (Int32.toNatClampNeg ((sa (sa s 221 (Int32.toNatClampNeg (s.1 26)) a1) 222 (Int32.toNatClampNeg ((sa s 221 (Int32.toNatClampNeg (s.1 26)) a1).1 26)) ((sa s 221 (Int32.toNatClampNeg (s.1 26)) a1).1 7)).1 26)) (-1)).1 26)) (-1)) 226 (Int32.toNatClampNeg ((sa (sa (sa (sa s 221 (Int32.toNatClampNeg (s.1 26)) a1) 222 (Int32.toNatClampNeg ((sa s 221 (Int32.toNatClampNeg (s.1 26)) a1).1 26)) ((sa s 221 (Int32.toNatClampNeg (s.1 26)) a1).1 7)) 224 (Int32.toNatClampNeg ((sa (sa s 221 (Int32.toNatClampNeg (s.1 26)) a1) 222 (Int32.toNatClampNeg ((sa s 221 (Int32.toNatClampNeg (s.1 26)) a1).1 26)) ((sa s 221 (Int32.toNatClampNeg (s.1 26)) a1).1 7)).1 26)) (-1)) 225 (Int32.toNatClampNeg ((sa (sa (sa s 221 (Int32.toNatClampNeg (s.1 26)) a1) 222 (Int32.toNatClampNeg ((sa s 221 (Int32.toNatClampNeg (s.1 26)) a1).1 26)) ((sa s 221 (Int32.toNatClampNeg (s.1 26)) a1).1 7)) 224 (Int32.toNatClampNeg ((sa (sa s 221 (Int32.toNatClampNeg (s.1 26)) a1) 222 (Int32.toNatClampNeg ((sa s 221 (Int32.toNatClampNeg (s.1 26)) a1).1 26)) ((sa s 221 (Int32.toNatClampNeg (s.1 26)) a1).1 7)).1 26)) (-1)).1 26)) (-1)).1 26)) 0).1 26)) (-1)) 228 (Int32.toNatClampNeg ((sa (sa (sa (sa (sa (sa s 221 (Int32.toNatClampNeg (s.1 26)) a1) 222 (Int32.toNatClampNeg ((sa s 221 (Int32.toNatClampNeg (s.1 26)) a1).1 26)) ((sa s 221 (Int32.toNatClampNeg (s.1 26)) a1).1 7)) 224 (Int32.toNatClampNeg ((sa (sa s 221 (Int32.toNatClampNeg (s.1 26)) a1) 222 (Int32.toNatClampNeg ((sa s 221 (Int32.toNatClampNeg (s.1 26)) a1).1 26)) ((sa s 221 (Int32.toNatClampNeg (s.1 26)) a1).1 7)).1 26)) (-1)) 225 (Int32.toNatClampNeg ((sa (sa (sa s 221 (Int32.toNatClampNeg (s.1 26)) a1) 222 (Int32.toNatClampNeg ((sa s 221 (Int32.toNatClampNeg (s.1 26)) a1).1 26)) ((sa s 221 (Int32.toNatClampNeg (s.1 26)) a1).1 7)) 224 (Int32.toNatClampNeg ((sa (sa s 221 (Int32.toNatClampNeg (s.1 26)) a1) 222 (Int32.toNatClampNeg ((sa s 221 (Int32.toNatClampNeg (s.1 26)) a1).1 26)) ((sa s 221 (Int32.toNatClampNeg (s.1 26)) a1).1 7)).1 26)) (-1)).1 26)) (-1)) 226 (Int32.toNatClampNeg ((sa (sa (sa (sa s 221 (Int32.toNatClampNeg (s.1 26)) a1) 222 (Int32.toNatClampNeg ((sa s 221 (Int32.toNatClampNeg (s.1 26)) a1).1 26)) ((sa s 221 (Int32.toNatClampNeg (s.1 26)) a1).1 7)) 224 (Int32.toNatClampNeg ((sa (sa s 221 (Int32.toNatClampNeg (s.1 26)) a1) 222 (Int32.toNatClampNeg ((sa s 221 (Int32.toNatClampNeg (s.1 26)) a1).1 26)) ((sa s 221 (Int32.toNatClampNeg (s.1 26)) a1).1 7)).1 26)) (-1)) 225 (Int32.toNatClampNeg ((sa (sa (sa s 221 (Int32.toNatClampNeg (s.1 26)) a1) 222 (Int32.toNatClampNeg ((sa s 221 (Int32.toNatClampNeg (s.1 26)) a1).1 26)) ((sa s 221 (Int32.toNatClampNeg (s.1 26)) a1).1 7)) 224 (Int32.toNatClampNeg ((sa (sa s 221 (Int32.toNatClampNeg (s.1 26)) a1) 222 (Int32.toNatClampNeg ((sa s 221 (Int32.toNatClampNeg (s.1 26)) a1).1 26)) ((sa s 221 (Int32.toNatClampNeg (s.1 26)) a1).1 7)).1 26)) (-1)).1 26)) (-1)).1 26)) 0) 227 (Int32.toNatClampNeg ((sa (sa (sa (sa (sa s 221 (Int32.toNatClampNeg (s.1 26)) a1) 222 (Int32.toNatClampNeg ((sa s 221 (Int32.toNatClampNeg (s.1 26)) a1).1 26)) ((sa s 221 (Int32.toNatClampNeg (s.1 26)) a1).1 7)) 224 (Int32.toNatClampNeg ((sa (sa s 221 (Int32.toNatClampNeg (s.1 26)) a1) 222 (Int32.toNatClampNeg ((sa s 221 (Int32.toNatClampNeg (s.1 26)) a1).1 26)) ((sa s 221 (Int32.toNatClampNeg (s.1 26)) a1).1 7)).1 26)) (-1)) 225 (Int32.toNatClampNeg ((sa (sa (sa s 221 (Int32.toNatClampNeg (s.1 26)) a1) 222 (Int32.toNatClampNeg ((sa s 221 (Int32.toNatClampNeg (s.1 26)) a1).1 26)) ((sa s 221 (Int32.toNatClampNeg (s.1 26)) a1).1 7)) 224 (Int32.toNatClampNeg ((sa (sa s 221 (Int32.toNatClampNeg (s.1 26)) a1) 222 (Int32.toNatClampNeg ((sa s 221 (Int32.toNatClampNeg (s.1 26)) a1).1 26)) ((sa s 221 (Int32.toNatClampNeg (s.1 26)) a1).1 7)).1 26)) (-1)).1 26)) (-1)) 226 (Int32.toNatClampNeg ((sa (sa (sa (sa s 221 (Int32.toNatClampNeg (s.1 26)) a1) 222 (Int32.toNatClampNeg ((sa s 221 (Int32.toNatClampNeg (s.1 26)) a1).1 26)) ((sa s 221 (Int32.toNatClampNeg (s.1 26)) a1).1 7)) 224 (Int32.toNatClampNeg ((sa (sa s 221 (Int32.toNatClampNeg (s.1 26)) a1) 222 (Int32.toNatClampNeg ((sa s 221 (Int32.toNatClampNeg (s.1 26)) a1).1 26)) ((sa s 221 (Int32.toNatClampNeg (s.1 26)) a1).1 7)).1 26)) (-1)) 225 (Int32.toNatClampNeg ((sa (sa (sa s 221 (Int32.toNatClampNeg (s.1 26)) a1) 222 (Int32.toNatClampNeg ((sa s 221 (Int32.toNatClampNeg (s.1 26)) a1).1 26)) ((sa s 221 (Int32.toNatClampNeg (s.1 26)) a1).1 7)) 224 (Int32.toNatClampNeg ((sa (sa s 221 (Int32.toNatClampNeg (s.1 26)) a1) 222 (Int32.toNatClampNeg ((sa s 221 (Int32.toNatClampNeg (s.1 26)) a1).1 26)) ((sa s 221 (Int32.toNatClampNeg (s.1 26)) a1).1 7)).1 26)) (-1)).1 26)) (-1)).1 26)) 0).1 26)) (-1)).1 26)) (-1)) 229 (Int32.toNatClampNeg ((sa (sa (sa (sa (sa (sa (sa s 221 (Int32.toNatClampNeg (s.1 26)) a1) 222 (Int32.toNatClampNeg ((sa s 221 (Int32.toNatClampNeg (s.1 26)) a1).1 26)) ((sa s 221 (Int32.toNatClampNeg (s.1 26)) a1).1 7)) 224 (Int32.toNatClampNeg ((sa (sa s 221 (Int32.toNatClampNeg (s.1 26)) a1) 222 (Int32.toNatClampNeg ((sa s 221 (Int32.toNatClampNeg (s.1 26)) a1).1 26)) ((sa s 221 (Int32.toNatClampNeg (s.1 26)) a1).1 7)).1 26)) (-1)) 225 (Int32.toNatClampNeg ((sa (sa (sa s 221 (Int32.toNatClampNeg (s.1 26)) a1) 222 (Int32.toNatClampNeg ((sa s 221 (Int32.toNatClampNeg (s.1 26)) a1).1 26)) ((sa s 221 (Int32.toNatClampNeg (s.1 26)) a1).1 7)) 224 (Int32.toNatClampNeg ((sa (sa s 221 (Int32.toNatClampNeg (s.1 26)) a1) 222 (Int32.toNatClampNeg ((sa s 221 (Int32.toNatClampNeg (s.1 26)) a1).1 26)) ((sa s 221 (Int32.toNatClampNeg (s.1 26)) a1).1 7)).1 26)) (-1)).1 26)) (-1)) 226 (Int32.toNatClampNeg ((sa (sa (sa (sa s 221 (Int32.toNatClampNeg (s.1 26)) a1) 222 (Int32.toNatClampNeg ((sa s 221 (Int32.toNatClampNeg (s.1 26)) a1).1 26)) ((sa s 221 (Int32.toNatClampNeg (s.1 26)) a1).1 7)) 224 (Int32.toNatClampNeg ((sa (sa s 221 (Int32.toNatClampNeg (s.1 26)) a1) 222 (Int32.toNatClampNeg ((sa s 221 (Int32.toNatClampNeg (s.1 26)) a1).1 26)) ((sa s 221 (Int32.toNatClampNeg (s.1 26)) a1).1 7)).1 26)) (-1)) 225 (Int32.toNatClampNeg ((sa (sa (sa s 221 (Int32.toNatClampNeg (s.1 26)) a1) 222 (Int32.toNatClampNeg ((sa s 221 (Int32.toNatClampNeg (s.1 26)) a1).1 26)) ((sa s 221 (Int32.toNatClampNeg (s.1 26)) a1).1 7)) 224 (Int32.toNatClampNeg ((sa (sa s 221 (Int32.toNatClampNeg (s.1 26)) a1) 222 (Int32.toNatClampNeg ((sa s 221 (Int32.toNatClampNeg (s.1 26)) a1).1 26)) ((sa s 221 (Int32.toNatClampNeg (s.1 26)) a1).1 7)).1 26)) (-1)).1 26)) (-1)).1 26)) 0) 227 (Int32.toNatClampNeg ((sa (sa (sa (sa (sa s 221 (Int32.toNatClampNeg (s.1 26)) a1) 222 (Int32.toNatClampNeg ((sa s 221 (Int32.toNatClampNeg (s.1 26)) a1).1 26)) ((sa s 221 (Int32.toNatClampNeg (s.1 26)) a1).1 7)) 224 (Int32.toNatClampNeg ((sa (sa s 221 (Int32.toNatClampNeg (s.1 26)) a1) 222 (Int32.toNatClampNeg ((sa s 221 (Int32.toNatClampNeg (s.1 26)) a1).1 26)) ((sa s 221 (Int32.toNatClampNeg (s.1 26)) a1).1 7)).1 26)) (-1)) 225 (Int32.toNatClampNeg ((sa (sa (sa s 221 (Int32.toNatClampNeg (s.1 26)) a1) 222 (Int32.toNatClampNeg ((sa s 221 (Int32.toNatClampNeg (s.1 26)) a1).1 26)) ((sa s 221 (Int32.toNatClampNeg (s.1 26)) a1).1 7)) 224 (Int32.toNatClampNeg ((sa (sa s 221 (Int32.toNatClampNeg (s.1 26)) a1) 222 (Int32.toNatClampNeg ((sa s 221 (Int32.toNatClampNeg (s.1 26)) a1).1 26)) ((sa s 221 (Int32.toNatClampNeg (s.1 26)) a1).1 7)).1 26)) (-1)).1 26)) (-1)) 226 (Int32.toNatClampNeg ((sa (sa (sa (sa s 221 (Int32.toNatClampNeg (s.1 26)) a1) 222 (Int32.toNatClampNeg ((sa s 221 (Int32.toNatClampNeg (s.1 26)) a1).1 26)) ((sa s 221 (Int32.toNatClampNeg (s.1 26)) a1).1 7)) 224 (Int32.toNatClampNeg ((sa (sa s 221 (Int32.toNatClampNeg (s.1 26)) a1) 222 (Int32.toNatClampNeg ((sa s 221 (Int32.toNatClampNeg (s.1 26)) a1).1 26)) ((sa s 221 (Int32.toNatClampNeg (s.1 26)) a1).1 7)).1 26)) (-1)) 225 (Int32.toNatClampNeg ((sa (sa (sa s 221 (Int32.toNatClampNeg (s.1 26)) a1) 222 (Int32.toNatClampNeg ((sa s 221 (Int32.toNatClampNeg (s.1 26)) a1).1 26)) ((sa s 221 (Int32.toNatClampNeg (s.1 26)) a1).1 7)) 224 (Int32.toNatClampNeg ((sa (sa s 221 (Int32.toNatClampNeg (s.1 26)) a1) 222 (Int32.toNatClampNeg ((sa s 221 (Int32.toNatClampNeg (s.1 26)) a1).1 26)) ((sa s 221 (Int32.toNatClampNeg (s.1 26)) a1).1 7)).1 26)) (-1)).1 26)) (-1)).1 26)) 0).1 26)) (-1)) 228 (Int32.toNatClampNeg ((sa (sa (sa (sa (sa (sa s 221 (Int32.toNatClampNeg (s.1 26)) a1) 222 (Int32.toNatClampNeg ((sa s 221 (Int32.toNatClampNeg (s.1 26)) a1).1 26)) ((sa s 221 (Int32.toNatClampNeg (s.1 26)) a1).1 7)) 224 (Int32.toNatClampNeg ((sa (sa s 221 (Int32.toNatClampNeg (s.1 26)) a1) 222 (Int32.toNatClampNeg ((sa s 221 (Int32.toNatClampNeg (s.1 26)) a1).1 26)) ((sa s 221 (Int32.toNatClampNeg (s.1 26)) a1).1 7)).1 26)) (-1)) 225 (Int32.toNatClampNeg ((sa (sa (sa s 221 (Int32.toNatClampNeg (s.1 26)) a1) 222 (Int32.toNatClampNeg ((sa s 221 (Int32.toNatClampNeg (s.1 26)) a1).1 26)) ((sa s 221 (Int32.toNatClampNeg (s.1 26)) a1).1 7)) 224 (Int32.toNatClampNeg ((sa (sa s 221 (Int32.toNatClampNeg (s.1 26)) a1) 222 (Int32.toNatClampNeg ((sa s 221 (Int32.toNatClampNeg (s.1 26)) a1).1 26)) ((sa s 221 (Int32.toNatClampNeg (s.1 26)) a1).1 7)).1 26)) (-1)).1 26)) (-1)) 226 (Int32.toNatClampNeg ((sa (sa (sa (sa s 221 (Int32.toNatClampNeg (s.1 26)) a1) 222 (Int32.toNatClampNeg ((sa s 221 (Int32.toNatClampNeg (s.1 26)) a1).1 26)) ((sa s 221 (Int32.toNatClampNeg (s.1 26)) a1).1 7)) 224 (Int32.toNatClampNeg ((sa (sa s 221 (Int32.toNatClampNeg (s.1 26)) a1) 222 (Int32.toNatClampNeg ((sa s 221 (Int32.toNatClampNeg (s.1 26)) a1).1 26)) ((sa s 221 (Int32.toNatClampNeg (s.1 26)) a1).1 7)).1 26)) (-1)) 225 (Int32.toNatClampNeg ((sa (sa (sa s 221 (Int32.toNatClampNeg (s.1 26)) a1) 222 (Int32.toNatClampNeg ((sa s 221 (Int32.toNatClampNeg (s.1 26)) a1).1 26)) ((sa s 221 (Int32.toNatClampNeg (s.1 26)) a1).1 7)) 224 (Int32.toNatClampNeg ((sa (sa s 221 (Int32.toNatClampNeg (s.1 26)) a1) 222 (Int32.toNatClampNeg ((sa s 221 (Int32.toNatClampNeg (s.1 26)) a1).1 26)) ((sa s 221 (Int32.toNatClampNeg (s.1 26)) a1).1 7)).1 26)) (-1)).1 26)) (-1)).1 26)) 0) 227 (Int32.toNatClampNeg ((sa (sa (sa (sa (sa s 221 (Int32.toNatClampNeg (s.1 26)) a1) 222 (Int32.toNatClampNeg ((sa s 221 (Int32.toNatClampNeg (s.1 26)) a1).1 26)) ((sa s 221 (Int32.toNatClampNeg (s.1 26)) a1).1 7)) 224 (Int32.toNatClampNeg ((sa (sa s 221 (Int32.toNatClampNeg (s.1 26)) a1) 222 (Int32.toNatClampNeg ((sa s 221 (Int32.toNatClampNeg (s.1 26)) a1).1 26)) ((sa s 221 (Int32.toNatClampNeg (s.1 26)) a1).1 7)).1 26)) (-1)) 225 (Int32.toNatClampNeg ((sa (sa (sa s 221 (Int32.toNatClampNeg (s.1 26)) a1) 222 (Int32.toNatClampNeg ((sa s 221 (Int32.toNatClampNeg (s.1 26)) a1).1 26)) ((sa s 221 (Int32.toNatClampNeg (s.1 26)) a1).1 7)) 224 (Int32.toNatClampNeg ((sa (sa s 221 (Int32.toNatClampNeg (s.1 26)) a1) 222 (Int32.toNatClampNeg ((sa s 221 (Int32.toNatClampNeg (s.1 26)) a1).1 26)) ((sa s 221 (Int32.toNatClampNeg (s.1 26)) a1).1 7)).1 26)) (-1)).1 26)) (-1)) 226 (Int32.toNatClampNeg ((sa (sa (sa (sa s 221 (Int32.toNatClampNeg (s.1 26)) a1) 222 (Int32.toNatClampNeg ((sa s 221 (Int32.toNatClampNeg (s.1 26)) a1).1 26)) ((sa s 221 (Int32.toNatClampNeg (s.1 26)) a1).1 7)) 224 (Int32.toNatClampNeg ((sa (sa s 221 (Int32.toNatClampNeg (s.1 26)) a1) 222 (Int32.toNatClampNeg ((sa s 221 (Int32.toNatClampNeg (s.1 26)) a1).1 26)) ((sa s 221 (Int32.toNatClampNeg (s.1 26)) a1).1 7)).1 26)) (-1)) 225 (Int32.toNatClampNeg ((sa (sa (sa s 221 (Int32.toNatClampNeg (s.1 26)) a1) 222 (Int32.toNatClampNeg ((sa s 221 (Int32.toNatClampNeg (s.1 26)) a1).1 26)) ((sa s 221 (Int32.toNatClampNeg (s.1 26)) a1).1 7)) 224 (Int32.toNatClampNeg ((sa (sa s 221 (Int32.toNatClampNeg (s.1 26)) a1) 222 (Int32.toNatClampNeg ((sa s 221 (Int32.toNatClampNeg (s.1 26)) a1).1 26)) ((sa s 221 (Int32.toNatClampNeg (s.1 26)) a1).1 7)).1 26)) (-1)).1 26)) (-1)).1 26)) 0).1 26)) (-1)).1 26)) (-1)).1 26)) (-1)).1 26)) 0).1 26) + 1)).1 26)] (xo_push (.int 1)) rfl rfl ?_
  refine g_c [.int (((sf (sa (sa (sa (sa (sa (sa (sa (sa (sa s 221 (Int32.toNatClampNeg (s.1 26)) a1) 222 (Int32.toNatClampNeg ((sa s 221 (Int32.toNatClampNeg (s.1 26)) a1).1 26)) ((sa s 221 (Int32.toNatClampNeg (s.1 26)) a1).1 7)) 224 (Int32.toNatClampNeg ((sa (sa s 221 (Int32.toNatClampNeg (s.1 26)) a1) 222 (Int32.toNatClampNeg ((sa s 221 (Int32.toNatClampNeg (s.1 26)) a1).1 26)) ((sa s 221 (Int32.toNatClampNeg (s.1 26)) a1).1 7)).1 26)) (-1)) 225 (Int32.toNatClampNeg ((sa (sa (sa s 221 (Int32.toNatClampNeg (s.1 26)) a1) 222 (Int32.toNatClampNeg ((sa s 221 (Int32.toNatClampNeg (s.1 26)) a1).1 26)) ((sa s 221 (Int32.toNatClampNeg (s.1 26)) a1).1 7)) 224 (Int32.toNatClampNeg ((sa (sa s 221 (Int32.toNatClampNeg (s.1 26)) a1) 222 (Int32.toNatClampNeg ((sa s 221 (Int32.toNatClampNeg (s.1 26)) a1).1 26)) ((sa s 221 (Int32.toNatClampNeg (s.1 26)) a1).1 7)).1 26)) (-1)).1 26)) (-1)) 226 (Int32.toNatClampNeg ((sa (sa (sa (sa s 221 (Int32.toNatClampNeg (s.1 26)) a1) 222 (Int32.toNatClampNeg ((sa s 221 (Int32.toNatClampNeg (s.1 26)) a1).1 26)) ((sa s 221 (Int32.toNatClampNeg (s.1 26)) a1).1 7)) 224 (Int32.toNatClampNeg ((sa (sa s 221 (Int32.toNatClampNeg (s.1 26)) a1) 222 (Int32.toNatClampNeg ((sa s 221 (Int32.toNatClampNeg (s.1 26)) a1).1 26)) ((sa s 221 (Int32.toNatClampNeg (s.1 26)) a1).1 7)).1 26)) (-1)) 225 (Int32.toNatClampNeg ((sa (sa (sa s 221 (Int32.toNatClampNeg (s.1 26)) a1) 222 (Int32.toNatClampNeg ((sa s 221 (Int32.toNatClampNeg (s.1 26)) a1).1 26)) ((sa s 221 (Int32.toNatClampNeg (s.1 26)) a1).1 7)) 224 (Int32.toNatClampNeg ((sa (sa s 221 (Int32.toNatClampNeg (s.1 26)) a1) 222 (Int32.toNatClampNeg ((sa s 221 (Int32.toNatClampNeg (s.1 26)) a1).1 26)) ((sa s 221 (Int32.toNatClampNeg (s.1 26)) a1).1 7)).1 26)) (-1)).1 26)) (-1)).1 26)) 0) 227 (Int32.toNatClampNeg ((sa (sa (sa (sa (sa s 221 (Int32.toNatClampNeg (s.1 26)) a1) 222 (Int32.toNatClampNeg ((sa s 221 (Int32.toNatClampNeg (s.1 26)) a1).1 26)) ((sa s 221 (Int32.toNatClampNeg (s.1 26)) a1).1 7)) 224 (Int32.toNatClampNeg ((sa (sa s 221 (Int32.toNatClampNeg (s.1 26)) a1) 222 (Int32.toNatClampNeg ((sa s 221 (Int32.toNatClampNeg (s.1 26)) a1).1 26)) ((sa s 221 (Int32.toNatClampNeg (s.1 26)) a1).1 7)).1 26)) (-1)) 225 (Int32.toNatClampNeg ((sa (sa (sa s 221 (Int32.toNatClampNeg (s.1 26)) a1) 222 (Int32.toNatClampNeg ((sa s 221 (Int32.toNatClampNeg (s.1 26)) a1).1 26)) ((sa s 221 (Int32.toNatClampNeg (s.1 26)) a1).1 7)) 224 (Int32.toNatClampNeg ((sa (sa s 221 (Int32.toNatClampNeg (s.1 26)) a1) 222 (Int32.toNatClampNeg ((sa s 221 (Int32.toNatClampNeg (s.1 26)) a1).1 26)) ((sa s 221 (Int32.toNatClampNeg (s.1 26)) a1).1 7)).1 26)) (-1)).1 26)) (-1)) 226 (Int32.toNatClampNeg ((sa (sa (sa (sa s 221 (Int32.toNatClampNeg (s.1 26)) a1) 222 (Int32.toNatClampNeg ((sa s 221 (Int32.toNatClampNeg (s.1 26)) a1).1 26)) ((sa s 221 (Int32.toNatClampNeg (s.1 26)) a1).1 7)) 224 (Int32.toNatClampNeg ((sa (sa s 221 (Int32.toNatClampNeg (s.1 26)) a1) 222 (Int32.toNatClampNeg ((sa s 221 (Int32.toNatClampNeg (s.1 26)) a1).1 26)) ((sa s 221 (Int32.toNatClampNeg (s.1 26)) a1).1 7)).1 26)) (-1)) 225 (Int32.toNatClampNeg ((sa (sa (sa s 221 (Int32.toNatClampNeg (s.1 26)) a1) 222 (Int32.toNatClampNeg ((sa s 221 (Int32.toNatClampNeg (s.1 26)) a1).1 26)) ((sa s 221 (Int32.toNatClampNeg (s.1 26)) a1).1 7)) 224 (Int32.toNatClampNeg ((sa (sa s 221 (Int32.toNatClampNeg (s.1 26)) a1) 222 (Int32.toNatClampNeg ((sa s 221 (Int32.toNatClampNeg (s.1 26)) a1).1 26)) ((sa s 221 (Int32.toNatClampNeg (s.1 26)) a1).1 7)).1 26)) (-1)).1 26)) (-1)).1 26)) 0).1 26)) (-1)) 228 (Int32.toNatClampNeg ((sa (sa (sa (sa (sa (sa s 221 (Int32.toNatClampNeg (s.1 26)) a1) 222 (Int32.toNatClampNeg ((sa s 221 (Int32.toNatClampNeg (s.1 26)) a1).1 26)) ((sa s 221 (Int32.toNatClampNeg (s.1 26)) a1).1 7)) 224 (Int32.toNatClampNeg ((sa (sa s 221 (Int32.toNatClampNeg (s.1 26)) a1) 222 (Int32.toNatClampNeg ((sa s 221 (Int32.toNatClampNeg (s.1 26)) a1).1 26)) ((sa s 221 (Int32.toNatClampNeg (s.1 26)) a1).1 7)).1 26)) (-1)) 225 (Int32.toNatClampNeg ((sa (sa (sa s 221 (Int32.toNatClampNeg (s.1 26)) a1) 222 (Int32.toNatClampNeg ((sa s 221 (Int32.toNatClampNeg (s.1 26)) a1).1 26)) ((sa s 221 (Int32.toNatClampNeg (s.1 26)) a1).1 7)) 224 (Int32.toNatClampNeg ((sa (sa s 221 (Int32.toNatClampNeg (s.1 26)) a1) 222 (Int32.toNatClampNeg ((sa s 221 (Int32.toNatClampNeg (s.1 26)) a1).1 26)) ((sa s 221 (Int32.toNatClampNeg (s.1 26)) a1).1 7)).1 26)) (-1)).1 26)) (-1)) 226 (Int32.toNatClampNeg ((sa (sa (sa (sa s 221 (Int32.toNatClampNeg (s.1 26)) a1) 222 (Int32.toNatClampNeg ((sa s 221 (Int32.toNatClampNeg (s.1 26)) a1).1 26)) ((sa s 221 (Int32.toNatClampNeg (s.1 26)) a1).1 7)) 224 (Int32.toNatClampNeg ((sa (sa s 221 (Int32.toNatClampNeg (s.1 26)) a1) 222 (Int32.toNatClampNeg ((sa s 221 (Int32.toNatClampNeg (s.1 26)) a1).1 26)) ((sa s 221 (Int32.toNatClampNeg (s.1 26)) a1).1 7)).1 26)) (-1)) 225 (Int32.toNatClampNeg ((sa (sa (sa s 221 (Int32.toNatClampNeg (s.1 26)) a1) 222 (Int32.toNatClampNeg ((sa s 221 (Int32.toNatClampNeg (s.1 26)) a1).1 26)) ((sa s 221 (Int32.toNatClampNeg (s.1 26)) a1).1 7)) 224 (Int32.toNatClampNeg ((sa (sa s 221 (Int32.toNatClampNeg (s.1 26)) a1) 222 (Int32.toNatClampNeg ((sa s 221 (Int32.toNatClampNeg (s.1 26)) a1).1 26)) ((sa s 221 (Int32.toNatClampNeg (s.1 26)) a1).1 7)).1 26)) (-1)).1 26)) (-1)).1 26)) 0) 227 (Int32.toNatClampNeg ((sa (sa (sa (sa (sa s 221 (Int32.toNatClampNeg (s.1 26)) a1) 222 (Int32.toNatClampNeg ((sa s 221 (Int32.toNatClampNeg (s.1 26)) a1).1 26)) ((sa s 221 (Int32.toNatClampNeg (s.1 26)) a1).1 7)) 224 (Int32.toNatClampNeg ((sa (sa s 221 (Int32.toNatClampNeg (s.1 26)) a1) 222 (Int32.toNatClampNeg ((sa s 221 (Int32.toNatClampNeg (s.1 26)) a1).1 26)) ((sa s 221 (Int32.toNatClampNeg (s.1 26)) a1).1 7)).1 26)) (-1)) 225 (Int32.toNatClampNeg ((sa (sa (sa s 221 (Int32.toNatClampNeg (s.1 26)) a1) 222 (Int32.toNatClampNeg ((sa s 221 (Int32.toNatClampNeg (s.1 26)) a1).1 26)) ((sa s 221 (Int32.toNatClampNeg (s.1 26)) a1).1 7)) 224 (Int32.toNatClampNeg ((sa (sa s 221 (Int32.toNatClampNeg (s.1 26)) a1) 222 (Int32.toNatClampNeg ((sa s 221 (Int32.toNatClampNeg (s.1 26)) a1).1 26)) ((sa s 221 (Int32.toNatClampNeg (s.1 26)) a1).1 7)).1 26)) (-1)).1 26)) (-1)) 226 (Int32.toNatClampNeg ((sa (sa (sa (sa s 221 (Int32.toNatClampNeg (s.1 26)) a1) 222 (Int32.toNatClampNeg ((sa s 221 (Int32.toNatClampNeg (s.1 26)) a1).1 26)) ((sa s 221 (Int32.toNatClampNeg (s.1 26)) a1).1 7)) 224 (Int32.toNatClampNeg ((sa (sa s 221 (Int32.toNatClampNeg (s.1 26)) a1) 222 (Int32.toNatClampNeg ((sa s 221 (Int32.toNatClampNeg (s.1 26)) a1).1 26)) ((sa s 221 (Int32.toNatClampNeg (s.1 26)) a1).1 7)).1 26)) (-1)) 225 (Int32.toNatClampNeg ((sa (sa (sa s 221 (Int32.toNatClampNeg (s.1 26)) a1) 222 (Int32.toNatClampNeg ((sa s 221 (Int32.toNatClampNeg (s.1 26)) a1).1 26)) ((sa s 221 (Int32.toNatClampNeg (s.1 26)) a1).1 7)) 224 (Int32.toNatClampNeg ((sa (sa s 221 (Int32.toNatClampNeg (s.1 26)) a1) 222 (Int32.toNatClampNeg ((sa s 221 (Int32.toNatClampNeg (s.1 26)) a1).1 26)) ((sa s 221 (Int32.toNatClampNeg (s.1 26)) a1).1 7)).1 26)) (-1)).1 26)) (-1)).1 26)) 0).1 26)) (-1)).1 26)) (-1)) 229 (Int32.toNatClampNeg ((sa (sa (sa (sa (sa (sa (sa s 221 (Int32.toNatClampNeg (s.1 26)) a1) 222 (Int32.toNatClampNeg ((sa s 221 (Int32.toNatClampNeg (s.1 26)) a1).1 26)) ((sa s 221 (Int32.toNatClampNeg (s.1 26)) a1).1 7)) 224 (Int32.toNatClampNeg ((sa (sa s 221 (Int32.toNatClampNeg (s.1 26)) a1) 222 (Int32.toNatClampNeg ((sa s 221 (Int32.toNatClampNeg (s.1 26)) a1).1 26)) ((sa s 221 (Int32.toNatClampNeg (s.1 26)) a1).1 7)).1 26)) (-1)) 225 (Int32.toNatClampNeg ((sa (sa (sa s 221 (Int32.toNatClampNeg (s.1 26)) a1) 222 (Int32.toNatClampNeg ((sa s 221 (Int32.toNatClampNeg (s.1 26)) a1).1 26)) ((sa s 221 (Int32.toNatClampNeg (s.1 26)) a1).1 7)) 224 (Int32.toNatClampNeg ((sa (sa s 221 (Int32.toNatClampNeg (s.1 26)) a1) 222 (Int32.toNatClampNeg ((sa s 221 (Int32.toNatClampNeg (s.1 26)) a1).1 26)) ((sa s 221 (Int32.toNatClampNeg (s.1 26)) a1).1 7)).1 26)) (-1)).1 26)) (-1)) 226 (Int32.toNatClampNeg ((sa (sa (sa (sa s 221 (Int32.toNatClampNeg (s.1 26)) a1) 222 (Int32.toNatClampNeg ((sa s 221 (Int32.toNatClampNeg (s.1 26)) a1).1 26)) ((sa s 221 (Int32.toNatClampNeg (s.1 26)) a1).1 7)) 224 (Int32.toNatClampNeg ((sa (sa s 221 (Int32.toNatClampNeg (s.1 26)) a1) 222 (Int32.toNatClampNeg ((sa s 221 (Int32.toNatClampNeg (s.1 26)) a1).1 26)) ((sa s 221 (Int32.toNatClampNeg (s.1 26)) a1).1 7)).1 26)) (-1)) 225 (Int32.toNatClampNeg ((sa (sa (sa s 221 (Int32.toNatClampNeg (s.1 26)) a1) 222 (Int32.toNatClampNeg ((sa s 221 (Int32.toNatClampNeg (s.1 26)) a1).1 26)) ((sa s 221 (Int32.toNatClampNeg (s.1 26)) a1).1 7)) 224 (Int32.toNatClampNeg ((sa (sa s 221 (Int32.toNatClampNeg (s.1 26)) a1) 222 (Int32.toNatClampNeg ((sa s 221 (Int32.toNatClampNeg (s.1 26)) a1).1 26)) ((sa s 221 (Int32.toNatClampNeg (s.1 26)) a1).1 7)).1 26)) (-1)).1 26)) (-1)).1 26)) 0) 227 (Int32.toNatClampNeg ((sa (sa (sa (sa (sa s 221 (Int32.toNatClampNeg (s.1 26)) a1) 222 (Int32.toNatClampNeg ((sa s 221 (Int32.toNatClampNeg (s.1 26)) a1).1 26)) ((sa s 221 (Int32.toNatClampNeg (s.1 26)) a1).1 7)) 224 (Int32.toNatClampNeg ((sa (sa s 221 (Int32.toNatClampNeg (s.1 26)) a1) 222 (Int32.toNatClampNeg ((sa s 221 (Int32.toNatClampNeg (s.1 26)) a1).1 26)) ((sa s 221 (Int32.toNatClampNeg (s.1 26)) a1).1 7)).1 26)) (-1)) 225 (Int32.toNatClampNeg ((sa (sa (sa s 221 (Int32.toNatClampNeg (s.1 26)) a1) 222 (Int32.toNatClampNeg ((sa s 221 (Int32.toNatClampNeg (s.1 26)) a1).1 26)) ((sa s 221 (Int32.toNatClampNeg (s.1 26)) a1).1 7)) 224 (Int32.toNatClampNeg ((sa (sa s 221 (Int32.toNatClampNeg (s.1 26)) a1) 222 (Int32.toNatClampNeg ((sa s 221 (Int32.toNatClampNeg (s.1 26)) a1).1 26)) ((sa s 221 (Int32.toNatClampNeg (s.1 26)) a1).1 7)).1 26)) (-1)).1 26)) (-1)) 226 (Int32.toNatClampNeg ((sa (sa (sa (sa s 221 (Int32.toNatClampNeg (s.1 26)) a1) 222 (Int32.toNatClampNeg ((sa s 221 (Int32.toNatClampNeg (s.1 26)) a1).1 26)) ((sa s 221 (Int32.toNatClampNeg (s.1 26)) a1).1 7)) 224 (Int32.toNatClampNeg ((sa (sa s 221 (Int32.toNatClampNeg (s.1 26)) a1) 222 (Int32.toNatClampNeg ((sa s 221 (Int32.toNatClampNeg (s.1 26)) a1).1 26)) ((sa s 221 (Int32.toNatClampNeg (s.1 26)) a1).1 7)).1 26)) (-1)) 225 (Int32.toNatClampNeg ((sa (sa (sa s 221 (Int32.toNatClampNeg (s.1 26)) a1) 222 (Int32.toNatClampNeg ((sa s 221 (Int32.toNatClampNeg (s.1 26)) a1).1 26)) ((sa s 221 (Int32.toNatClampNeg (s.1 26)) a1).1 7)) 224 (Int32.toNatClampNeg ((sa (sa s 221 (Int32.toNatClampNeg (s.1 26)) a1) 222 (Int32.toNatClampNeg ((sa s 221 (Int32.toNatClampNeg (s.1 26)) a1).1 26)) ((sa s 221 (Int32.toNatClampNeg (s.1 26)) a1).1 7)).1 26)) (-1)).1 26)) (-1)).1 26)) 0).1 26)) (-1)) 228 (Int32.toNatClampNeg ((sa (sa (sa (sa (sa (sa s 221 (Int32.toNatClampNeg (s.1 26)) a1) 222 (Int32.toNatClampNeg ((sa s 221 (Int32.toNatClampNeg (s.1 26)) a1).1 26)) ((sa s 221 (Int32.toNatClampNeg (s.1 26)) a1).1 7)) 224 (Int32.toNatClampNeg ((sa (sa s 221 (Int32.toNatClampNeg (s.1 26)) a1) 222 (Int32.toNatClampNeg ((sa s 221 (Int32.toNatClampNeg (s.1 26)) a1).1 26)) ((sa s 221 (Int32.toNatClampNeg (s.1 26)) a1).1 7)).1 26)) (-1)) 225 (Int32.toNatClampNeg ((sa (sa (sa s 221 (Int32.toNatClampNeg (s.1 26)) a1) 222 (Int32.toNatClampNeg ((sa s 221 (Int32.toNatClampNeg (s.1 26)) a1).1 26)) ((sa s 221 (Int32.toNatClampNeg (s.1 26)) a1).1 7)) 224 (Int32.toNatClampNeg ((sa (sa s 221 (Int32.toNatClampNeg (s.1 26)) a1) 222 (Int32.toNatClampNeg ((sa s 221 (Int32.toNatClampNeg (s.1 26)) a1).1 26)) ((sa s 221 (Int32.toNatClampNeg (s.1 26)) a1).1 7)).1 26)) (-1)).1 26)) (-1)) 226 (Int32.toNatClampNeg ((sa (sa (sa (sa s 221 (Int32.toNatClampNeg (s.1 26)) a1) 222 (Int32.toNatClampNeg ((sa s 221 (Int32.toNatClampNeg (s.1 26)) a1).1 26)) ((sa s 221 (Int32.toNatClampNeg (s.1 26)) a1).1 7)) 224 (Int32.toNatClampNeg ((sa (sa s 221 (Int32.toNatClampNeg (s.1 26)) a1) 222 (Int32.toNatClampNeg ((sa s 221 (Int32.toNatClampNeg (s.1 26)) a1).1 26)) ((sa s 221 (Int32.toNatClampNeg (s.1 26)) a1).1 7)).1 26)) (-1)) 225 (Int32.toNatClampNeg ((sa (sa (sa s 221 (Int32.toNatClampNeg (s.1 26)) a1) 222 (Int32.toNatClampNeg ((sa s 221 (Int32.toNatClampNeg (s.1 26)) a1).1 26)) ((sa s 221 (Int32.toNatClampNeg (s.1 26)) a1).1 7)) 224 (Int32.toNatClampNeg ((sa (sa s 221 (Int32.toNatClampNeg (s.1 26)) a1) 222 (Int32.toNatClampNeg ((sa s 221 (Int32.toNatClampNeg (s.1 26)) a1).1 26)) ((sa s 221 (Int32.toNatClampNeg (s.1 26)) a1).1 7)).1 26)) (-1)).1 26)) (-1)).1 26)) 0) 227 (Int32.toNatClampNeg ((sa (sa (sa (sa (sa s 221 (Int32.toNatClampNeg (s.1 26)) a1) 222 (Int32.toNatClampNeg ((sa s 221 (Int32.toNatClampNeg (s.1 26)) a1).1 26)) ((sa s 221 (Int32.toNatClampNeg (s.1 26)) a1).1 7)) 224 (Int32.toNatClampNeg ((sa (sa s 221 (Int32.toNatClampNeg (s.1 26)) a1) 222 (Int32.toNatClampNeg ((sa s 221 (Int32.toNatClampNeg (s.1 26)) a1).1 26)) ((sa s 221 (Int32.toNatClampNeg (s.1 26)) a1).1 7)).1 26)) (-1)) 225 (Int32.toNatClampNeg ((sa (sa (sa s 221 (Int32.toNatClampNeg (s.1 26)) a1) 222 (Int32.toNatClampNeg ((sa s 221 (Int32.toNatClampNeg (s.1 26)) a1).1 26)) ((sa s 221 (Int32.toNatClampNeg (s.1 26)) a1).1 7)) 224 (Int32.toNatClampNeg ((sa (sa s 221 (Int32.toNatClampNeg (s.1 26)) a1) 222 (Int32.toNatClampNeg ((sa s 221 (Int32.toNatClampNeg (s.1 26)) a1).1 26)) ((sa s 221 (Int32.toNatClampNeg (s.1 26)) a1).1 7)).1 26)) (-1)).1 26)) (-1)) 226 (Int32.toNatClampNeg ((sa (sa (sa (sa s 221 (Int32.toNatClampNeg (s.1 26)) a1) 222 (Int32.toNatClampNeg ((sa s 221 (Int32.toNatClampNeg (s.1 26)) a1).1 26)) ((sa s 221 (Int32.toNatClampNeg (s.1 26)) a1).1 7)) 224 (Int32.toNatClampNeg ((sa (sa s 221 (Int32.toNatClampNeg (s.1 26)) a1) 222 (Int32.toNatClampNeg ((sa s 221 (Int32.toNatClampNeg (s.1 26)) a1).1 26)) ((sa s 221 (Int32.toNatClampNeg (s.1 26)) a1).1 7)).1 26)) (-1)) 225 (Int32.toNatClampNeg ((sa (sa (sa s 221 (Int32.toNatClampNeg (s.1 26)) a1) 222 (Int32.toNatClampNeg ((sa s 221 (Int32.toNatClampNeg (s.1 26)) a1).1 26)) ((sa s 221 (Int32.toNatClampNeg (s.1 26)) a1).1 7)) 224 (Int32.toNatClampNeg ((sa (sa s 221 (Int32.toNatClampNeg (s.1 26)) a1) 222 (Int32.toNatClampNeg ((sa s 221 (Int32.toNatClampNeg (s.1 26)) a1).1 26)) ((sa s 221 (Int32.toNatClampNeg (s.1 26)) a1).1 7)).1 26)) (-1)).1 26)) (-1)).1 26)) 0).1 26)) (-1)).1 26)) (-1)).1 26)) (-1)) 230 (Int32.toNatClampNeg ((sa (sa (sa (sa (sa (sa (sa (sa s 221 (Int32.toNatClampNeg (s.1 26)) a1) 222 (Int32.toNatClampNeg ((sa s 221 (Int32.toNatClampNeg (s.1 26)) a1).1 26)) ((sa s 221 (Int32.toNatClampNeg (s.1 26)) a1).1 7)) 224 (Int32.toNatClampNeg ((sa (sa s 221 (Int32.toNatClampNeg (s.1 26)) a1) 222 (Int32.toNatClampNeg ((sa s 221 (Int32.toNatClampNeg (s.1 26)) a1).1 26)) ((sa s 221 (Int32.toNatClampNeg (s.1 26)) a1).1 7)).1 26)) (-1)) 225 (Int32.toNatClampNeg ((sa (sa (sa s 221 (Int32.toNatClampNeg (s.1 26)) a1) 222 (Int32.toNatClampNeg ((sa s 221 (Int32.toNatClampNeg (s.1 26)) a1).1 26)) ((sa s 221 (Int32.toNatClampNeg (s.1 26)) a1).1 7)) 224 (Int32.toNatClampNeg ((sa (sa s 221 (Int32.toNatClampNeg (s.1 26)) a1) 222 (Int32.toNatClampNeg ((sa s 221 (Int32.toNatClampNeg (s.1 26)) a1).1 26)) ((sa s 221 (Int32.toNatClampNeg (s.1 26)) a1).1 7)).1 26)) (-1)).1 26)) (-1)) 226 (Int32.toNatClampNeg ((sa (sa (sa (sa s 221 (Int32.toNatClampNeg (s.1 26)) a1) 222 (Int32.toNatClampNeg ((sa s 221 (Int32.toNatClampNeg (s.1 26)) a1).1 26)) ((sa s 221 (Int32.toNatClampNeg (s.1 26)) a1).1 7)) 224 (Int32.toNatClampNeg ((sa (sa s 221 (Int32.toNatClampNeg (s.1 26)) a1) 222 (Int32.toNatClampNeg ((sa s 221 (Int32.toNatClampNeg (s.1 26)) a1).1 26)) ((sa s 221 (Int32.toNatClampNeg (s.1 26)) a1).1 7)).1 26)) (-1)) 225 (Int32.toNatClampNeg ((sa (sa (sa s 221 (Int32.toNatClampNeg (s.1 26)) a1) 222 (Int32.toNatClampNeg ((sa s 221 (Int32.toNatClampNeg (s.1 26)) a1).1 26)) ((sa s 221 (Int32.toNatClampNeg (s.1 26)) a1).1 7)) 224 (Int32.toNatClampNeg ((sa (sa s 221 (Int32.toNatClampNeg (s.1 26)) a1) 222 (Int32.toNatClampNeg ((sa s 221 (Int32.toNatClampNeg (s.1 26)) a1).1 26)) ((sa s 221 (Int32.toNatClampNeg (s.1 26)) a1).1 7)).1 26)) (-1)).1 26)) (-1)).1 26)) 0) 227 (Int32.toNatClampNeg ((sa (sa (sa (sa (sa s 221 (Int32.toNatClampNeg (s.1 26)) a1) 222 (Int32.toNatClampNeg ((sa s 221 (Int32.toNatClampNeg (s.1 26)) a1).1 26)) ((sa s 221 (Int32.toNatClampNeg (s.1 26)) a1).1 7)) 224 (Int32.toNatClampNeg ((sa (sa s 221 (Int32.toNatClampNeg (s.1 26)) a1) 222 (Int32.toNatClampNeg ((sa s 221 (Int32.toNatClampNeg (s.1 26)) a1).1 26)) ((sa s 221 (Int32.toNatClampNeg (s.1 26)) a1).1 7)).1 26)) (-1)) 225 (Int32.toNatClampNeg ((sa (sa (sa s 221 (Int32.toNatClampNeg (s.1 26)) a1) 222 (Int32.toNatClampNeg ((sa s 221 (Int32.toNatClampNeg (s.1 26)) a1).1 26)) ((sa s 221 (Int32.toNatClampNeg (s.1 26)) a1).1 7)) 224 (Int32.toNatClampNeg ((sa (sa s 221 (Int32.toNatClampNeg (s.1 26)) a1) 222 (Int32.toNatClampNeg ((sa s 221 (Int32.toNatClampNeg (s.1 26)) a1).1 26)) ((sa s 221 (Int32.toNatClampNeg (s.1 26)) a1).1 7)).1 26)) (-1)).1 26)) (-1)) 226 (Int32.toNatClampNeg ((sa (sa (sa (sa s 221 (Int32.toNatClampNeg (s.1 26)) a1) 222 (Int32.toNatClampNeg ((sa s 221 (Int32.toNatClampNeg (s.1 26)) a1).1 26)) ((sa s 221 (Int32.toNatClampNeg (s.1 26)) a1).1 7)) 224 (Int32.toNatClampNeg ((sa (sa s 221 (Int32.toNatClampNeg (s.1 26)) a1) 222 (Int32.toNatClampNeg ((sa s 221 (Int32.toNatClampNeg (s.1 26)) a1).1 26)) ((sa s 221 (Int32.toNatClampNeg (s.1 26)) a1).1 7)).1 26)) (-1)) 225 (Int32.toNatClampNeg ((sa (sa (sa s 221 (Int32.toNatClampNeg (s.1 26)) a1) 222 (Int32.toNatClampNeg ((sa s 221 (Int32.toNatClampNeg (s.1 26)) a1).1 26)) ((sa s 221 (Int32.toNatClampNeg (s.1 26)) a1).1 7)) 224 (Int32.toNatClampNeg ((sa (sa s 221 (Int32.toNatClampNeg (s.1 26)) a1) 222 (Int32.toNatClampNeg ((sa s 221 (Int32.toNatClampNeg (s.1 26)) a1).1 26)) ((sa s 221 (Int32.toNatClampNeg (s.1 26)) a1).1 7)).1 26)) (-1)).1 26)) (-1)).1 26)) 0).1 26)) (-1)) 228 (Int32.toNatClampNeg ((sa (sa (sa (sa (sa (sa s 221 (Int32.toNatClampNeg (s.1 26)) a1) 222 (Int32.toNatClampNeg ((sa s 221 (Int32.toNatClampNeg (s.1 26)) a1).1 26)) ((sa s 221 (Int32.toNatClampNeg (s.1 26)) a1).1 7)) 224 (Int32.toNatClampNeg ((sa (sa s 221 (Int32.toNatClampNeg (s.1 26)) a1) 222 (Int32.toNatClampNeg ((sa s 221 (Int32.toNatClampNeg (s.1 26)) a1).1 26)) ((sa s 221 (Int32.toNatClampNeg (s.1 26)) a1).1 7)).1 26)) (-1)) 225 (Int32.toNatClampNeg ((sa (sa (sa s 221 (Int32.toNatClampNeg (s.1 26)) a1) 222 (Int32.toNatClampNeg ((sa s 221 (Int32.toNatClampNeg (s.1 26)) a1).1 26)) ((sa s 221 (Int32.toNatClampNeg (s.1 26)) a1).1 7)) 224 (Int32.toNatClampNeg ((sa (sa s 221 (Int32.toNatClampNeg (s.1 26)) a1) 222 (Int32.toNatClampNeg ((sa s 221 (Int32.toNatClampNeg (s.1 26)) a1).1 26)) ((sa s 221 (Int32.toNatClampNeg (s.1 26)) a1).1 7)).1 26)) (-1)).1 26)) (-1)) 226 (Int32.toNatClampNeg ((sa (sa (sa (sa s 221 (Int32.toNatClampNeg (s.1 26)) a1) 222 (Int32.toNatClampNeg ((sa s 221 (Int32.toNatClampNeg (s.1 26)) a1).1 26)) ((sa s 221 (Int32.toNatClampNeg (s.1 26)) a1).1 7)) 224 (Int32.toNatClampNeg ((sa (sa s 221 (Int32.toNatClampNeg (s.1 26)) a1) 222 (Int32.toNatClampNeg ((sa s 221 (Int32.toNatClampNeg (s.1 26)) a1).1 26)) ((sa s 221 (Int32.toNatClampNeg (s.1 26)) a1).1 7)).1 26)) (-1)) 225 (Int32.toNatClampNeg ((sa (sa (sa s 221 (Int32.toNatClampNeg (s.1 26)) a1) 222 (Int32.toNatClampNeg ((sa s 221 (Int32.toNatClampNeg (s.1 26)) a1).1 26)) ((sa s 221 (Int32.toNatClampNeg (s.1 26)) a1).1 7)) 224 (Int32.toNatClampNeg ((sa (sa s 221 (Int32.toNatClampNeg (s.1 26)) a1) 222 (Int32.toNatClampNeg ((sa s 221 (Int32.toNatClampNeg (s.1 26)) a1).1 26)) ((sa s 221 (Int32.toNatClampNeg (s.1 26)) a1).1 7)).1 26)) (-1)).1 26)) (-1)).1 26)) 0) 227 (Int32.toNatClampNeg ((sa (sa (sa (sa (sa s 221 (Int32.toNatClampNeg (s.1 26)) a1) 222 (Int32.toNatClampNeg ((sa s 221 (Int32.toNatClampNeg (s.1 26)) a1).1 26)) ((sa s 221 (Int32.toNatClampNeg (s.1 26)) a1).1 7)) 224 (Int32.toNatClampNeg ((sa (sa s 221 (Int32.toNatClampNeg (s.1 26)) a1) 222 (Int32.toNatClampNeg ((sa s 221 (Int32.toNatClampNeg (s.1 26)) a1).1 26)) ((sa s 221 (Int32.toNatClampNeg (s.1 26)) a1).1 7)).1 26)) (-1)) 225 (Int32.toNatClampNeg ((sa (sa (sa s 221 (Int32.toNatClampNeg (s.1 26)) a1) 222 (Int32.toNatClampNeg ((sa s 221 (Int32.toNatClampNeg (s.1 26)) a1).1 26)) ((sa s 221 (Int32.toNatClampNeg (s.1 26)) a1).1 7)) 224 (Int32.toNatClampNeg ((sa (sa s 221 (Int32.toNatClampNeg (s.1 26)) a1) 222 (Int32.toNatClampNeg ((sa s 221 (Int32.toNatClampNeg (s.1 26)) a1).1 26)) ((sa s 221 (Int32.toNatClampNeg (s.1 26)) a1).1 7)).1 26)) (-1)).1 26)) (-1)) 226 (Int32.toNatClampNeg ((sa (sa (sa (sa s 221 (Int32.toNatClampNeg (s.1 26)) a1) 222 (Int32.toNatClampNeg ((sa s 221 (Int32.toNatClampNeg (s.1 26)) a1).1 26)) ((sa s 221 (Int32.toNatClampNeg (s.1 26)) a1).1 7)) 224 (Int32.toNatClampNeg ((sa (sa s 221 (Int32.toNatClampNeg (s.1 26)) a1) 222 (Int32.toNatClampNeg ((sa s 221 (Int32.toNatClampNeg (s.1 26)) a1).1 26)) ((sa s 221 (Int32.toNatClampNeg (s.1 26)) a1).1 7)).1 26)) (-1)) 225 (Int32.toNatClampNeg ((sa (sa (sa s 221 (Int32.toNatClampNeg (s.1 26)) a1) 222 (Int32.toNatClampNeg ((sa s 221 (Int32.toNatClampNeg (s.1 26)) a1).1 26)) ((sa s 221 (Int32.toNatClampNeg (s.1 26)) a1).1 7)) 224 (Int32.toNatClampNeg ((sa (sa s 221 (Int32.toNatClampNeg (s.1 26)) a1) 222 (Int32.toNatClampNeg ((sa s 221 (Int32.toNatClampNeg (s.1 26)) a1).1 26)) ((sa s 221 (Int32.toNatClampNeg (s.1 26)) a1).1 7)).1 26)) (-1)).1 26)) (-1)).1 26)) 0).1 26)) (-1)).1 26)) (-1)) 229 (Int32.toNatClampNeg ((sa (sa (sa (sa (sa (sa (sa s 221 (Int32.toNatClampNeg (s.1 26)) a1) 222 (Int32.toNatClampNeg ((sa s 221 (Int32.toNatClampNeg (s.1 26)) a1).1 26)) ((sa s 221 (Int32.toNatClampNeg (s.1 26)) a1).1 7)) 224 (Int32.toNatClampNeg ((sa (sa s 221 (Int32.toNatClampNeg (s.1 26)) a1) 222 (Int32.toNatClampNeg ((sa s 221 (Int32.toNatClampNeg (s.1 26)) a1).1 26)) ((sa s 221 (Int32.toNatClampNeg (s.1 26)) a1).1 7)).1 26)) (-1)) 225 (Int32.toNatClampNeg ((sa (sa (sa s 221 (Int32.toNatClampNeg (s.1 26)) a1) 222 (Int32.toNatClampNeg ((sa s 221 (Int32.toNatClampNeg (s.1 26)) a1).1 26)) ((sa s 221 (Int32.toNatClampNeg (s.1 26)) a1).1 7)) 224 (Int32.toNatClampNeg ((sa (sa s 221 (Int32.toNatClampNeg (s.1 26)) a1) 222 (Int32.toNatClampNeg ((sa s 221 (Int32.toNatClampNeg (s.1 26)) a1).1 26)) ((sa s 221 (Int32.toNatClampNeg (s.1 26)) a1).1 7)).1 26)) (-1)).1 26)) (-1)) 226 (Int32.toNatClampNeg ((sa (sa (sa (sa s 221 (Int32.toNatClampNeg (s.1 26)) a1) 222 (Int32.toNatClampNeg ((sa s 221 (Int32.toNatClampNeg (s.1 26)) a1).1 26)) ((sa s 221 (Int32.toNatClampNeg (s.1 26)) a1).1 7)) 224 (Int32.toNatClampNeg ((sa (sa s 221 (Int32.toNatClampNeg (s.1 26)) a1) 222 (Int32.toNatClampNeg ((sa s 221 (Int32.toNatClampNeg (s.1 26)) a1).1 26)) ((sa s 221 (Int32.toNatClampNeg (s.1 26)) a1).1 7)).1 26)) (-1)) 225 (Int32.toNatClampNeg ((sa (sa (sa s 221 (Int32.toNatClampNeg (s.1 26)) a1) 222 (Int32.toNatClampNeg ((sa s 221 (Int32.toNatClampNeg (s.1 26)) a1).1 26)) ((sa s 221 (Int32.toNatClampNeg (s.1 26)) a1).1 7)) 224 (Int32.toNatClampNeg ((sa (sa s 221 (Int32.toNatClampNeg (s.1 26)) a1) 222 (Int32.toNatClampNeg ((sa s 221 (Int32.toNatClampNeg (s.1 26)) a1).1 26)) ((sa s 221 (Int32.toNatClampNeg (s.1 26)) a1).1 7)).1 26)) (-1)).1 26)) (-1)).1 26)) 0) 227 (Int32.toNatClampNeg ((sa (sa (sa (sa (sa s 221 (Int32.toNatClampNeg (s.1 26)) a1) 222 (Int32.toNatClampNeg ((sa s 221 (Int32.toNatClampNeg (s.1 26)) a1).1 26)) ((sa s 221 (Int32.toNatClampNeg (s.1 26)) a1).1 7)) 224 (Int32.toNatClampNeg ((sa (sa s 221 (Int32.toNatClampNeg (s.1 26)) a1) 222 (Int32.toNatClampNeg ((sa s 221 (Int32.toNatClampNeg (s.1 26)) a1).1 26)) ((sa s 221 (Int32.toNatClampNeg (s.1 26)) a1).1 7)).1 26)) (-1)) 225 (Int32.toNatClampNeg ((sa (sa (sa s 221 (Int32.toNatClampNeg (s.1 26)) a1) 222 (Int32.toNatClampNeg ((sa s 221 (Int32.toNatClampNeg (s.1 26)) a1).1 26)) ((sa s 221 (Int32.toNatClampNeg (s.1 26)) a1).1 7)) 224 (Int32.toNatClampNeg ((sa (sa s 221 (Int32.toNatClampNeg (s.1 26)) a1) 222 (Int32.toNatClampNeg ((sa s 221 (Int32.toNatClampNeg (s.1 26)) a1).1 26)) ((sa s 221 (Int32.toNatClampNeg (s.1 26)) a1).1 7)).1 26)) (-1)).1 26)) (-1)) 226 (Int32.toNatClampNeg ((sa (sa (sa (sa s 221 (Int32.toNatClampNeg (s.1 26)) a1) 222 (Int32.toNatClampNeg ((sa s 221 (Int32.toNatClampNeg (s.1 26)) a1).1 26)) ((sa s 221 (Int32.toNatClampNeg (s.1 26)) a1).1 7)) 224 (Int32.toNatClampNeg ((sa (sa s 221 (Int32.toNatClampNeg (s.1 26)) a1) 222 (Int32.toNatClampNeg ((sa s 221 (Int32.toNatClampNeg (s.1 26)) a1).1 26)) ((sa s 221 (Int32.toNatClampNeg (s.1 26)) a1).1 7)).1 26)) (-1)) 225 (Int32.toNatClampNeg ((sa (sa (sa s 221 (Int32.toNatClampNeg (s.1 26)) a1) 222 (Int32.toNatClampNeg ((sa s 221 (Int32.toNatClampNeg (s.1 26)) a1).1 26)) ((sa s 221 (Int32.toNatClampNeg (s.1 26)) a1).1 7)) 224 (Int32.toNatClampNeg ((sa (sa s 221 (Int32.toNatClampNeg (s.1 26)) a1) 222 (Int32.toNatClampNeg ((sa s 221 (Int32.toNatClampNeg (s.1 26)) a1).1 26)) ((sa s 221 (Int32.toNatClampNeg (s.1 26)) a1).1 7)).1 26)) (-1)).1 26)) (-1)).1 26)) 0).1 26)) (-1)) 228 (Int32.toNatClampNeg ((sa (sa (sa (sa (sa (sa s 221 (Int32.toNatClampNeg (s.1 26)) a1) 222 (Int32.toNatClampNeg ((sa s 221 (Int32.toNatClampNeg (s.1 26)) a1).1 26)) ((sa s 221 (Int32.toNatClampNeg (s.1 26)) a1).1 7)) 224 (Int32.toNatClampNeg ((sa (sa s 221 (Int32.toNatClampNeg (s.1 26)) a1) 222 (Int32.toNatClampNeg ((sa s 221 (Int32.toNatClampNeg (s.1 26)) a1).1 26)) ((sa s 221 (Int32.toNatClampNeg (s.1 26)) a1).1 7)).1 26)) (-1)) 225 (Int32.toNatClampNeg ((sa (sa (sa s 221 (Int32.toNatClampNeg (s.1 26)) a1) 222 (Int32.toNatClampNeg ((sa s 221 (Int32.toNatClampNeg (s.1 26)) a1).1 26)) ((sa s 221 (Int32.toNatClampNeg (s.1 26)) a1).1 7)) 224 (Int32.toNatClampNeg ((sa (sa s 221 (Int32.toNatClampNeg (s.1 26)) a1) 222 (Int32.toNatClampNeg ((sa s 221 (Int32.toNatClampNeg (s.1 26)) a1).1 26)) ((sa s 221 (Int32.toNatClampNeg (s.1 26)) a1).1 7)).1 26)) (-1)).1 26)) (-1)) 226 (Int32.toNatClampNeg ((sa (sa (sa (sa s 221 (Int32.toNatClampNeg (s.1 26)) a1) 222 (Int32.toNatClampNeg ((sa s 221 (Int32.toNatClampNeg (s.1 26)) a1).1 26)) ((sa s 221 (Int32.toNatClampNeg (s.1 26)) a1).1 7)) 224 (Int32.toNatClampNeg ((sa (sa s 221 (Int32.toNatClampNeg (s.1 26)) a1) 222 (Int32.toNatClampNeg ((sa s 221 (Int32.toNatClampNeg (s.1 26)) a1).1 26)) ((sa s 221 (Int32.toNatClampNeg (s.1 26)) a1).1 7)).1 26)) (-1)) 225 (Int32.toNatClampNeg ((sa (sa (sa s 221 (Int32.toNatClampNeg (s.1 26)) a1) 222 (Int32.toNatClampNeg ((sa s 221 (Int32.toNatClampNeg (s.1 26)) a1).1 26)) ((sa s 221 (Int32.toNatClampNeg (s.1 26)) a1).1 7)) 224 (Int32.toNatClampNeg ((sa (sa s 221 (Int32.toNatClampNeg (s.1 26)) a1) 222 (Int32.toNatClampNeg ((sa s 221 (Int32.toNatClampNeg (s.1 26)) a1).1 26)) ((sa s 221 (Int32.toNatClampNeg (s.1 26)) a1).1 7)).1 26)) (-1)).1 26)) (-1)).1 26)) 0) 227 (Int32.toNatClampNeg ((sa (sa (sa (sa (sa s 221 (Int32.toNatClampNeg (s.1 26)) a1) 222 (Int32.toNatClampNeg ((sa s 221 (Int32.toNatClampNeg (s.1 26)) a1).1 26)) ((sa s 221 (Int32.toNatClampNeg (s.1 26)) a1).1 7)) 224 (Int32.toNatClampNeg ((sa (sa s 221 (Int32.toNatClampNeg (s.1 26)) a1) 222 (Int32.toNatClampNeg ((sa s 221 (Int32.toNatClampNeg (s.1 26)) a1).1 26)) ((sa s 221 (Int32.toNatClampNeg (s.1 26)) a1).1 7)).1 26)) (-1)) 225 (Int32.toNatClampNeg ((sa (sa (sa s 221 (Int32.toNatClampNeg (s.1 26)) a1) 222 (Int32.toNatClampNeg ((sa s 221 (Int32.toNatClampNeg (s.1 26)) a1).1 26)) ((sa s 221 (Int32.toNatClampNeg (s.1 26)) a1).1 7)) 224 (Int32.toNatClampNeg ((sa (sa s 221 (Int32.toNatClampNeg (s.1 26)) a1) 222 (Int32.toNatClampNeg ((sa s 221 (Int32.toNatClampNeg (s.1 26)) a1).1 26)) ((sa s 221 (Int32.toNatClampNeg (s.1 26)) a1).1 7)).1 26)) (-1)).1 26)) (-1)) 226 (Int32.toNatClampNeg ((sa (sa (sa (sa s 221 (Int32.toNatClampNeg (s.1 26)) a1) 222 (Int32.toNatClampNeg ((sa s 221 (Int32.toNatClampNeg (s.1 26)) a1).1 26)) ((sa s 221 (Int32.toNatClampNeg (s.1 26)) a1).1 7)) 224 (Int32.toNatClampNeg ((sa (sa s 221 (Int32.toNatClampNeg (s.1 26)) a1) 222 (Int32.toNatClampNeg ((sa s 221 (Int32.toNatClampNeg (s.1 26)) a1).1 26)) ((sa s 221 (Int32.toNatClampNeg (s.1 26)) a1).1 7)).1 26)) (-1)) 225 (Int32.toNatClampNeg ((sa (sa (sa s 221 (Int32.toNatClampNeg (s.1 26)) a1) 222 (Int32.toNatClampNeg ((sa s 221 (Int32.toNatClampNeg (s.1 26)) a1).1 26)) ((sa s 221 (Int32.toNatClampNeg (s.1 26)) a1).1 7)) 224 (Int32.toNatClampNeg ((sa (sa s 221 (Int32.toNatClampNeg (s.1 26)) a1) 222 (Int32.toNatClampNeg ((sa s 221 (Int32.toNatClampNeg (s.1 26)) a1).1 26)) ((sa s 221 (Int32.toNatClampNeg (s.1 26)) a1).1 7)).1 26)) (-1)).1 26)) (-1)).1 26)) 0).1 26)) (-1)).1 26)) (-1)).1 26)) (-1)).1 26)) 0) 26 (((sa (sa (sa (sa (sa (sa (sa (sa (sa s 221 (Int32.toNatClampNeg (s.1 26)) a1) 222 (Int32.toNatClampNeg ((sa s 221 (Int32.toNatClampNeg (s.1 26)) a1).1 26)) ((sa s 221 (Int32.toNatClampNeg (s.1 26)) a1).1 7)) 224 (Int32.toNatClampNeg ((sa (sa s 221 (Int32.toNatClampNeg (s.1 26)) a1) 222 (Int32.toNatClampNeg ((sa s 221 (Int32.toNatClampNeg (s.1 26)) a1).1 26)) ((sa s 221 (Int32.toNatClampNeg (s.1 26)) a1).1 7)).1 26)) (-1)) 225 (Int32.toNatClampNeg ((sa (sa (sa s 221 (Int32.toNatClampNeg (s.1 26)) a1) 222 (Int32.toNatClampNeg ((sa s 221 (Int32.toNatClampNeg (s.1 26)) a1).1 26)) ((sa s 221 (Int32.toNatClampNeg (s.1 26)) a1).1 7)) 224 (Int32.toNatClampNeg ((sa (sa s 221 (Int32.toNatClampNeg (s.1 26)) a1) 222 (Int32.toNatClampNeg ((sa s 221 (Int32.toNatClampNeg (s.1 26)) a1).1 26)) ((sa s 221 (Int32.toNatClampNeg (s.1 26)) a1).1 7)).1 26)) (-1)).1 26)) (-1)) 226 (Int32.toNatClampNeg ((sa (sa (sa (sa s 221 (Int32.toNatClampNeg (s.1 26)) a1) 222 (Int32.toNatClampNeg ((sa s 221 (Int32.toNatClampNeg (s.1 26)) a1).1 26)) ((sa s 221 (Int32.toNatClampNeg (s.1 26)) a1).1 7)) 224 (Int32.toNatClampNeg ((sa (sa s 221 (Int32.toNatClampNeg (s.1 26)) a1) 222 (Int32.toNatClampNeg ((sa s 221 (Int32.toNatClampNeg (s.1 26)) a1).1 26)) ((sa s 221 (Int32.toNatClampNeg (s.1 26)) a1).1 7)).1 26)) (-1)) 225 (Int32.toNatClampNeg ((sa (sa (sa s 221 (Int32.toNatClampNeg (s.1 26)) a1) 222 (Int32.toNatClampNeg ((sa s 221 (Int32.toNatClampNeg (s.1 26)) a1).1 26)) ((sa s 221 (Int32.toNatClampNeg (s.1 26)) a1).1 7)) 224 (Int32.toNatClampNeg ((sa (sa s 221 (Int32.toNatClampNeg (s.1 26)) a1) 222 (Int32.toNatClampNeg ((sa s 221 (Int32.toNatClampNeg (s.1 26)) a1).1 26)) ((sa s 221 (Int32.toNatClampNeg (s.1 26)) a1).1 7)).1 26)) (-1)).1 26)) (-1)).1 26)) 0) 227 (Int32.toNatClampNeg ((sa (sa (sa (sa (sa s 221 (Int32.toNatClampNeg (s.1 26)) a1) 222 (Int32.toNatClampNeg ((sa s 221 (Int32.toNatClampNeg (s.1 26)) a1).1 26)) ((sa s 221 (Int32.toNatClampNeg (s.1 26)) a1).1 7)) 224 (Int32.toNatClampNeg ((sa (sa s 221 (Int32.toNatClampNeg (s.1 26)) a1) 222 (Int32.toNatClampNeg ((sa s 221 (Int32.toNatClampNeg (s.1 26)) a1).1 26)) ((sa s 221 (Int32.toNatClampNeg (s.1 26)) a1).1 7)).1 26)) (-1)) 225 (Int32.toNatClampNeg ((sa (sa (sa s 221 (Int32.toNatClampNeg (s.1 26)) a1) 222 (Int32.toNatClampNeg ((sa s 221 (Int32.toNatClampNeg (s.1 26)) a1).1 26)) ((sa s 221 (Int32.toNatClampNeg (s.1 26)) a1).1 7)) 224 (Int32.toNatClampNeg ((sa (sa s 221 (Int32.toNatClampNeg (s.1 26)) a1) 222 (Int32.toNatClampNeg ((sa s 221 (Int32.toNatClampNeg (s.1 26)) a1).1 26)) ((sa s 221 (Int32.toNatClampNeg (s.1 26)) a1).1 7)).1 26)) (-1)).1 26)) (-1)) 226 (Int32.toNatClampNeg ((sa (sa (sa (sa s 221 (Int32.toNatClampNeg (s.1 26)) a1) 222 (Int32.toNatClampNeg ((sa s 221 (Int32.toNatClampNeg (s.1 26)) a1).1 26)) ((sa s 221 (Int32.toNatClampNeg (s.1 26)) a1).1 7)) 224 (Int32.toNatClampNeg ((sa (sa s 221 (Int32.toNatClampNeg (s.1 26)) a1) 222 (Int32.toNatClampNeg ((sa s 221 (Int32.toNatClampNeg (s.1 26)) a1).1 26)) ((sa s 221 (Int32.toNatClampNeg (s.1 26)) a1).1 7)).1 26)) (-1)) 225 (Int32.toNatClampNeg ((sa (sa (sa s 221 (Int32.toNatClampNeg (s.1 26)) a1) 222 (Int32.toNatClampNeg ((sa s 221 (Int32.toNatClampNeg (s.1 26)) a1).1 26)) ((sa s 221 (Int32.toNatClampNeg (s.1 26)) a1).1 7)) 224 (Int32.toNatClampNeg ((sa (sa s 221 (Int32.toNatClampNeg (s.1 26)) a1) 222 (Int32.toNatClampNeg ((sa s 221 (Int32.toNatClampNeg (s.1 26)) a1).1 26)) ((sa s 221 (Int32.toNatClampNeg (s.1 26)) a1).1 7)).1 26)) (-1)).1 26)) (-1)).1 26)) 0).1 26)) (-1)) 228 (Int32.toNatClampNeg ((sa (sa (sa (sa (sa (sa s 221 (Int32.toNatClampNeg (s.1 26)) a1) 222 (Int32.toNatClampNeg ((sa s 221 (Int32.toNatClampNeg (s.1 26)) a1).1 26)) ((sa s 221 (Int32.toNatClampNeg (s.1 26)) a1).1 7)) 224 (Int32.toNatClampNeg ((sa (sa s 221 (Int32.toNatClampNeg (s.1 26)) a1) 222 (Int32.toNatClampNeg ((sa s 221 (Int32.toNatClampNeg (s.1 26)) a1).1 26)) ((sa s 221 (Int32.toNatClampNeg (s.1 26)) a1).1 7)).1 26)) (-1)) 225 (Int32.toNatClampNeg ((sa (sa (sa s 221 (Int32.toNatClampNeg (s.1 26)) a1) 222 (Int32.toNatClampNeg ((sa s 221 (Int32.toNatClampNeg (s.1 26)) a1).1 26)) ((sa s 221 (Int32.toNatClampNeg (s.1 26)) a1).1 7)) 224 (Int32.toNatClampNeg ((sa (sa s 221 (Int32.toNatClampNeg (s.1 26)) a1) 222 (Int32.toNatClampNeg ((sa s 221 (Int32.toNatClampNeg (s.1 26)) a1).1 26)) ((sa s 221 (Int32.toNatClampNeg (s.1 26)) a1).1 7)).1 26)) (-1)).1 26)) (-1)) 226 (Int32.toNatClampNeg ((sa (sa (sa (sa s 221 (Int32.toNatClampNeg (s.1 26)) a1) 222 (Int32.toNatClampNeg ((sa s 221 (Int32.toNatClampNeg (s.1 26)) a1).1 26)) ((sa s 221 (Int32.toNatClampNeg (s.1 26)) a1).1 7)) 224 (Int32.toNatClampNeg ((sa (sa s 221 (Int32.toNatClampNeg (s.1 26)) a1) 222 (Int32.toNatClampNeg ((sa s 221 (Int32.toNatClampNeg (s.1 26)) a1).1 26)) ((sa s 221 (Int32.toNatClampNeg (s.1 26)) a1).1 7)).1 26)) (-1)) 225 (Int32.toNatClampNeg ((sa (sa (sa s 221 (Int32.toNatClampNeg (s.1 26)) a1) 222 (Int32.toNatClampNeg ((sa s 221 (Int32.toNatClampNeg (s.1 26)) a1).1 26)) ((sa s 221 (Int32.toNatClampNeg (s.1 26)) a1).1 7)) 224 (Int32.toNatClampNeg ((sa (sa s 221 (Int32.toNatClampNeg (s.1 26)) a1) 222 (Int32.toNatClampNeg ((sa s 221 (Int32.toNatClampNeg (s.1 26)) a1).1 26)) ((sa s 221 (Int32.toNatClampNeg (s.1 26)) a1).1 7)).1 26)) (-1)).1 26)) (-1)).1 26)) 0) 227 (Int32.toNatClampNeg ((sa (sa (sa (sa (sa s 221 (Int32.toNatClampNeg (s.1 26)) a1) 222 (Int32.toNatClampNeg ((sa s 221 (Int32.toNatClampNeg (s.1 26)) a1).1 26)) ((sa s 221 (Int32.toNatClampNeg (s.1 26)) a1).1 7)) 224 (Int32.toNatClampNeg ((sa (sa s 221 (Int32.toNatClampNeg (s.1 26)) a1) 222 (Int32.toNatClampNeg ((sa s 221 (Int32.toNatClampNeg (s.1 26)) a1).1 26)) ((sa s 221 (Int32.toNatClampNeg (s.1 26)) a1).1 7)).1 26)) (-1)) 225 (Int32.toNatClampNeg ((sa (sa (sa s 221 (Int32.toNatClampNeg (s.1 26)) a1) 222 (Int32.toNatClampNeg ((sa s 221 (Int32.toNatClampNeg (s.1 26)) a1).1 26)) ((sa s 221 (Int32.toNatClampNeg (s.1 26)) a1).1 7)) 224 (Int32.toNatClampNeg ((sa (sa s 221 (Int32.toNatClampNeg (s.1 26)) a1) 222 (Int32.toNatClampNeg ((sa s 221 (Int32.toNatClampNeg (s.1 26)) a1).1 26)) ((sa s 221 (Int32.toNatClampNeg (s.1 26)) a1).1 7)).1 26)) (-1)).1 26)) (-1)) 226 (Int32.toNatClampNeg ((sa (sa (sa (sa s 221 (Int32.toNatClampNeg (s.1 26)) a1) 222 (Int32.toNatClampNeg ((sa s 221 (Int32.toNatClampNeg (s.1 26)) a1).1 26)) ((sa s 221 (Int32.toNatClampNeg (s.1 26)) a1).1 7)) 224 (Int32.toNatClampNeg ((sa (sa s 221 (Int32.toNatClampNeg (s.1 26)) a1) 222 (Int32.toNatClampNeg ((sa s 221 (Int32.toNatClampNeg (s.1 26)) a1).1 26)) ((sa s 221 (Int32.toNatClampNeg (s.1 26)) a1).1 7)).1 26)) (-1)) 225 (Int32.toNatClampNeg ((sa (sa (sa s 221 (Int32.toNatClampNeg (s.1 26)) a1) 222 (Int32.toNatClampNeg ((sa s 221 (Int32.toNatClampNeg (s.1 26)) a1).1 26)) ((sa s 221 (Int32.toNatClampNeg (s.1 26)) a1).1 7)) 224 (Int32.toNatClampNeg ((sa (sa s 221 (Int32.toNatClampNeg (s.1 26)) a1) 222 (Int32.toNatClampNeg ((sa s 221 (Int32.toNatClampNeg (s.1 26)) a1).1 26)) ((sa s 221 (Int32.toNatClampNeg (s.1 26)) a1).1 7)).1 26)) (-1)).1 26)) (-1)).1 26)) 0).1 26)) (-1)).1 26)) (-1)) 229 (Int32.toNatClampNeg ((sa (sa (sa (sa (sa (sa (sa s 221 (Int32.toNatClampNeg (s.1 26)) a1) 222 (Int32.toNatClampNeg ((sa s 221 (Int32.toNatClampNeg (s.1 26)) a1).1 26)) ((sa s 221 (Int32.toNatClampNeg (s.1 26)) a1).1 7)) 224 (Int32.toNatClampNeg ((sa (sa s 221 (Int32.toNatClampNeg (s.1 26)) a1) 222 (Int32.toNatClampNeg ((sa s 221 (Int32.toNatClampNeg (s.1 26)) a1).1 26)) ((sa s 221 (Int32.toNatClampNeg (s.1 26)) a1).1 7)).1 26)) (-1)) 225 (Int32.toNatClampNeg ((sa (sa (sa s 221 (Int32.toNatClampNeg (s.1 26)) a1) 222 (Int32.toNatClampNeg ((sa s 221 (Int32.toNatClampNeg (s.1 26)) a1).1 26)) ((sa s 221 (Int32.toNatClampNeg (s.1 26)) a1).1 7)) 224 (Int32.toNatClampNeg ((sa (sa s 221 (Int32.toNatClampNeg (s.1 26)) a1) 222 (Int32.toNatClampNeg ((sa s 221 (Int32.toNatClampNeg (s.1 26)) a1).1 26)) ((sa s 221 (Int32.toNatClampNeg (s.1 26)) a1).1 7)).1 26)) (-1)).1 26)) (-1)) 226 (Int32.toNatClampNeg ((sa (sa (sa (sa s 221 (Int32.toNatClampNeg (s.1 26)) a1) 222 (Int32.toNatClampNeg ((sa s 221 (Int32.toNatClampNeg (s.1 26)) a1).1 26)) ((sa s 221 (Int32.toNatClampNeg (s.1 26)) a1).1 7)) 224 (Int32.toNatClampNeg ((sa (sa s 221 (Int32.toNatClampNeg (s.1 26)) a1) 222 (Int32.toNatClampNeg ((sa s 221 (Int32.toNatClampNeg (s.1 26)) a1).1 26)) ((sa s 221 (Int32.toNatClampNeg (s.1 26)) a1).1 7)).1 26)) (-1)) 225 (Int32.toNatClampNeg ((sa (sa (sa s 221 (Int32.toNatClampNeg (s.1 26)) a1) 222 (Int32.toNatClampNeg ((sa s 221 (Int32.toNatClampNeg (s.1 26)) a1).1 26)) ((sa s 221 (Int32.toNatClampNeg (s.1 26)) a1).1 7)) 224 (Int32.toNatClampNeg ((sa (sa s 221 (Int32.toNatClampNeg (s.1 26)) a1) 222 (Int32.toNatClampNeg ((sa s 221 (Int32.toNatClampNeg (s.1 26)) a1).1 26)) ((sa s 221 (Int32.toNatClampNeg (s.1 26)) a1).1 7)).1 26)) (-1)).1 26)) (-1)).1 26)) 0) 227 (Int32.toNatClampNeg ((sa (sa (sa (sa (sa s 221 (Int32.toNatClampNeg (s.1 26)) a1) 222 (Int32.toNatClampNeg ((sa s 221 (Int32.toNatClampNeg (s.1 26)) a1).1 26)) ((sa s 221 (Int32.toNatClampNeg (s.1 26)) a1).1 7)) 224 (Int32.toNatClampNeg ((sa (sa s 221 (Int32.toNatClampNeg (s.1 26)) a1) 222 (Int32.toNatClampNeg ((sa s 221 (Int32.toNatClampNeg (s.1 26)) a1).1 26)) ((sa s 221 (Int32.toNatClampNeg (s.1 26)) a1).1 7)).1 26)) (-1)) 225 (Int32.toNatClampNeg ((sa (sa (sa s 221 (Int32.toNatClampNeg (s.1 26)) a1) 222 (Int32.toNatClampNeg ((sa s 221 (Int32.toNatClampNeg (s.1 26)) a1).1 26)) ((sa s 221 (Int32.toNatClampNeg (s.1 26)) a1).1 7)) 224 (Int32.toNatClampNeg ((sa (sa s 221 (Int32.toNatClampNeg (s.1 26)) a1) 222 (Int32.toNatClampNeg ((sa s 221 (Int32.toNatClampNeg (s.1 26)) a1).1 26)) ((sa s 221 (Int32.toNatClampNeg (s.1 26)) a1).1 7)).1 26)) (-1)).1 26)) (-1)) 226 (Int32.toNatClampNeg ((sa (sa (sa (sa s 221 (Int32.toNatClampNeg (s.1 26)) a1) 222 (Int32.toNatClampNeg ((sa s 221 (Int32.toNatClampNeg (s.1 26)) a1).1 26)) ((sa s 221 (Int32.toNatClampNeg (s.1 26)) a1).1 7)) 224 (Int32.toNatClampNeg ((sa (sa s 221 (Int32.toNatClampNeg (s.1 26)) a1) 222 (Int32.toNatClampNeg ((sa s 221 (Int32.toNatClampNeg (s.1 26)) a1).1 26)) ((sa s 221 (Int32.toNatClampNeg (s.1 26)) a1).1 7)).1 26)) (-1)) 225 (Int32.toNatClampNeg ((sa (sa (sa s 221 (Int32.toNatClampNeg (s.1 26)) a1) 222 (Int32.toNatClampNeg ((sa s 221 (Int32.toNatClampNeg (s.1 26)) a1).1 26)) ((sa s 221 (Int32.toNatClampNeg (s.1 26)) a1).1 7)) 224 (Int32.toNatClampNeg ((sa (sa s 221 (Int32.toNatClampNeg (s.1 26)) a1) 222 (Int32.toNatClampNeg ((sa s 221 (Int32.toNatClampNeg (s.1 26)) a1).1 26)) ((sa s 221 (Int32.toNatClampNeg (s.1 26)) a1).1 7)).1 26)) (-1)).1 26)) (-1)).1 26)) 0).1 26)) (-1)) 228 (Int32.toNatClampNeg ((sa (sa (sa (sa (sa (sa s 221 (Int32.toNatClampNeg (s.1 26)) a1) 222 (Int32.toNatClampNeg ((sa s 221 (Int32.toNatClampNeg (s.1 26)) a1).1 26)) ((sa s 221 (Int32.toNatClampNeg (s.1 26)) a1).1 7)) 224 (Int32.toNatClampNeg ((sa (sa s 221 (Int32.toNatClampNeg (s.1 26)) a1) 222 (Int32.toNatClampNeg ((sa s 221 (Int32.toNatClampNeg (s.1 26)) a1).1 26)) ((sa s 221 (Int32.toNatClampNeg (s.1 26)) a1).1 7)).1 26)) (-1)) 225 (Int32.toNatClampNeg ((sa (sa (sa s 221 (Int32.toNatClampNeg (s.1 26)) a1) 222 (Int32.toNatClampNeg ((sa s 221 (Int32.toNatClampNeg (s.1 26)) a1).1 26)) ((sa s 221 (Int32.toNatClampNeg (s.1 26)) a1).1 7)) 224 (Int32.toNatClampNeg ((sa (sa s 221 (Int32.toNatClampNeg (s.1 26)) a1) 222 (Int32.toNatClampNeg ((sa s 221 (Int32.toNatClampNeg (s.1 26)) a1).1 26)) ((sa s 221 (Int32.toNatClampNeg (s.1 26)) a1).1 7)).1 26)) (-1)).1 26)) (-1)) 226 (Int32.toNatClampNeg ((sa (sa (sa (sa s 221 (Int32.toNatClampNeg (s.1 26)) a1) 222 (Int32.toNatClampNeg ((sa s 221 (Int32.toNatClampNeg (s.1 26)) a1).1 26)) ((sa s 221 (Int32.toNatClampNeg (s.1 26)) a1).1 7)) 224 (Int32.toNatClampNeg ((sa (sa s 221 (Int32.toNatClampNeg (s.1 26)) a1) 222 (Int32.toNatClampNeg ((sa s 221 (Int32.toNatClampNeg (s.1 26)) a1).1 26)) ((sa s 221 (Int32.toNatClampNeg (s.1 26)) a1).1 7)).1 26)) (-1)) 225 (Int32.toNatClampNeg ((sa (sa (sa s 221 (Int32.toNatClampNeg (s.1 26)) a1) 222 (Int32.toNatClampNeg ((sa s 221 (Int32.toNatClampNeg (s.1 26)) a1).1 26)) ((sa s 221 (Int32.toNatClampNeg (s.1 26)) a1).1 7)) 224 (Int32.toNatClampNeg ((sa (sa s 221 (Int32.toNatClampNeg (s.1 26)) a1) 222 (Int32.toNatClampNeg ((sa s 221 (Int32.toNatClampNeg (s.1 26)) a1).1 26)) ((sa s 221 (Int32.toNatClampNeg (s.1 26)) a1).1 7)).1 26)) (-1)).1 26)) (-1)).1 26)) 0) 227 (Int32.toNatClampNeg ((sa (sa (sa (sa (sa s 221 (Int32.toNatClampNeg (s.1 26)) a1) 222 (Int32.toNatClampNeg ((sa s 221 (Int32.toNatClampNeg (s.1 26)) a1).1 26)) ((sa s 221 (Int32.toNatClampNeg (s.1 26)) a1).1 7)) 224 (Int32.toNatClampNeg ((sa (sa s 221 (Int32.toNatClampNeg (s.1 26)) a1) 222 (Int32.toNatClampNeg ((sa s 221 (Int32.toNatClampNeg (s.1 26)) a1).1 26)) ((sa s 221 (Int32.toNatClampNeg (s.1 26)) a1).1 7)).1 26)) (-1)) 225 (Int32.toNatClampNeg ((sa (sa (sa s 221 (Int32.toNatClampNeg (s.1 26)) a1) 222 (Int32.toNatClampNeg ((sa s 221 (Int32.toNatClampNeg (s.1 26)) a1).1 26)) ((sa s 221 (Int32.toNatClampNeg (s.1 26)) a1).1 7)) 224 (Int32.toNatClampNeg ((sa (sa s 221 (Int32.toNatClampNeg (s.1 26)) a1) 222 (Int32.toNatClampNeg ((sa s 221 (Int32.toNatClampNeg (s.1 26)) a1).1 26)) ((sa s 221 (Int32.toNatClampNeg (s.1 26)) a1).1 7)).1 26)) (-1)).1 26)) (-1)) 226 (Int32.toNatClampNeg ((sa (sa (sa (sa s 221 (Int32.toNatClampNeg (s.1 26)) a1) 222 (Int32.toNatClampNeg ((sa s 221 (Int32.toNatClampNeg (s.1 26)) a1).1 26)) ((sa s 221 (Int32.toNatClampNeg (s.1 26)) a1).1 7)) 224 (Int32.toNatClampNeg ((sa (sa s 221 (Int32.toNatClampNeg (s.1 26)) a1) 222 (Int32.toNatClampNeg ((sa s 221 (Int32.toNatClampNeg (s.1 26)) a1).1 26)) ((sa s 221 (Int32.toNatClampNeg (s.1 26)) a1).1 7)).1 26)) (-1)) 225 (Int32.toNatClampNeg ((sa (sa (sa s 221 (Int32.toNatClampNeg (s.1 26)) a1) 222 (Int32.toNatClampNeg ((sa s 221 (Int32.toNatClampNeg (s.1 26)) a1).1 26)) ((sa s 221 (Int32.toNatClampNeg (s.1 26)) a1).1 7)) 224 (Int32.toNatClampNeg ((sa (sa s 221 (Int32.toNatClampNeg (s.1 26)) a1) 222 (Int32.toNatClampNeg ((sa s 221 (Int32.toNatClampNeg (s.1 26)) a1).1 26)) ((sa s 221 (Int32.toNatClampNeg (s.1 26)) a1).1 7)).1 26)) (-1)).1 26)) (-1)).1 26)) 0).1 26)) (-1)).1 26)) (-1)).1 26)) (-1)) 230 (Int32.toNatClampNeg ((sa (sa (sa (sa (sa (sa (sa (sa s 221 (Int32.toNatClampNeg (s.1 26)) a1) 222 (Int32.toNatClampNeg ((sa s 221 (Int32.toNatClampNeg (s.1 26)) a1).1 26)) ((sa s 221 (Int32.toNatClampNeg (s.1 26)) a1).1 7)) 224 (Int32.toNatClampNeg ((sa (sa s 221 (Int32.toNatClampNeg (s.1 26)) a1) 222 (Int32.toNatClampNeg ((sa s 221 (Int32.toNatClampNeg (s.1 26)) a1).1 26)) ((sa s 221 (Int32.toNatClampNeg (s.1 26)) a1).1 7)).1 26)) (-1)) 225 (Int32.toNatClampNeg ((sa (sa (sa s 221 (Int32.toNatClampNeg (s.1 26)) a1) 222 (Int32.toNatClampNeg ((sa s 221 (Int32.toNatClampNeg (s.1 26)) a1).1 26)) ((sa s 221 (Int32.toNatClampNeg (s.1 26)) a1).1 7)) 224 (Int32.toNatClampNeg ((sa (sa s 221 (Int32.toNatClampNeg (s.1 26)) a1) 222 (Int32.toNatClampNeg ((sa s 221 (Int32.toNatClampNeg (s.1 26)) a1).1 26)) ((sa s 221 (Int32.toNatClampNeg (s.1 26)) a1).1 7)).1 26)) (-1)).1 26)) (-1)) 226 (Int32.toNatClampNeg ((sa (sa (sa (sa s 221 (Int32.toNatClampNeg (s.1 26)) a1) 222 (Int32.toNatClampNeg ((sa s 221 (Int32.toNatClampNeg (s.1 26)) a1).1 26)) ((sa s 221 (Int32.toNatClampNeg (s.1 26)) a1).1 7)) 224 (Int32.toNatClampNeg ((sa (sa s 221 (Int32.toNatClampNeg (s.1 26)) a1) 222 (Int32.toNatClampNeg ((sa s 221 (Int32.toNatClampNeg (s.1 26)) a1).1 26)) ((sa s 221 (Int32.toNatClampNeg (s.1 26)) a1).1 7)).1 26)) (-1)) 225 (Int32.toNatClampNeg ((sa (sa (sa s 221 (Int32.toNatClampNeg (s.1 26)) a1) 222 (Int32.toNatClampNeg ((sa s 221 (Int32.toNatClampNeg (s.1 26)) a1).1 26)) ((sa s 221 (Int32.toNatClampNeg (s.1 26)) a1).1 7)) 224 (Int32.toNatClampNeg ((sa (sa s 221 (Int32.toNatClampNeg (s.1 26)) a1) 222 (Int32.toNatClampNeg ((sa s 221 (Int32.toNatClampNeg (s.1 26)) a1).1 26)) ((sa s 221 (Int32.toNatClampNeg (s.1 26)) a1).1 7)).1 26)) (-1)).1 26)) (-1)).1 26)) 0) 227 (Int32.toNatClampNeg ((sa (sa (sa (sa (sa s 221 (Int32.toNatClampNeg (s.1 26)) a1) 222 (Int32.toNatClampNeg ((sa s 221 (Int32.toNatClampNeg (s.1 26)) a1).1 26)) ((sa s 221 (Int32.toNatClampNeg (s.1 26)) a1).1 7)) 224 (Int32.toNatClampNeg ((sa (sa s 221 (Int32.toNatClampNeg (s.1 26)) a1) 222 (Int32.toNatClampNeg ((sa s 221 (Int32.toNatClampNeg (s.1 26)) a1).1 26)) ((sa s 221 (Int32.toNatClampNeg (s.1 26)) a1).1 7)).1 26)) (-1)) 225 (Int32.toNatClampNeg ((sa (sa (sa s 221 (Int32.toNatClampNeg (s.1 26)) a1) 222 (Int32.toNatClampNeg ((sa s 221 (Int32.toNatClampNeg (s.1 26)) a1).1 26)) ((sa s 221 (Int32.toNatClampNeg (s.1 26)) a1).1 7)) 224 (Int32.toNatClampNeg ((sa (sa s 221 (Int32.toNatClampNeg (s.1 26)) a1) 222 (Int32.toNatClampNeg ((sa s 221 (Int32.toNatClampNeg (s.1 26)) a1).1 26)) ((sa s 221 (Int32.toNatClampNeg (s.1 26)) a1).1 7)).1 26)) (-1)).1 26)) (-1)) 226 (Int32.toNatClampNeg ((sa (sa (sa (sa s 221 (Int32.toNatClampNeg (s.1 26)) a1) 222 (Int32.toNatClampNeg ((sa s 221 (Int32.toNatClampNeg (s.1 26)) a1).1 26)) ((sa s 221 (Int32.toNatClampNeg (s.1 26)) a1).1 7)) 224 (Int32.toNatClampNeg ((sa (sa s 221 (Int32.toNatClampNeg (s.1 26)) a1) 222 (Int32.toNatClampNeg ((sa s 221 (Int32.toNatClampNeg (s.1 26)) a1).1 26)) ((sa s 221 (Int32.toNatClampNeg (s.1 26)) a1).1 7)).1 26)) (-1)) 225 (Int32.toNatClampNeg ((sa (sa (sa s 221 (Int32.toNatClampNeg (s.1 26)) a1) 222 (Int32.toNatClampNeg ((sa s 221 (Int32.toNatClampNeg (s.1 26)) a1).1 26)) ((sa s 221 (Int32.toNatClampNeg (s.1 26)) a1).1 7)) 224 (Int32.toNatClampNeg ((sa (sa s 221 (Int32.toNatClampNeg (s.1 26)) a1) 222 (Int32.toNatClampNeg ((sa s 221 (Int32.toNatClampNeg (s.1 26)) a1).1 26)) ((sa s 221 (Int32.toNatClampNeg (s.1 26)) a1).1 7)).1 26)) (-1)).1 26)) (-1)).1 26)) 0).1 26)) (-1)) 228 (Int32.toNatClampNeg ((sa (sa (sa (sa (sa (sa s 221 (Int32.toNatClampNeg (s.1 26)) a1) 222 (Int32.toNatClampNeg ((sa s 221 (Int32.toNatClampNeg (s.1 26)) a1).1 26)) ((sa s 221 (Int32.toNatClampNeg (s.1 26)) a1).1 7)) 224 (Int32.toNatClampNeg ((sa (sa s 221 (Int32.toNatClampNeg (s.1 26)) a1) 222 (Int32.toNatClampNeg ((sa s 221 (Int32.toNatClampNeg (s.1 26)) a1).1 26)) ((sa s 221 (Int32.toNatClampNeg (s.1 26)) a1).1 7)).1 26)) (-1)) 225 (Int32.toNatClampNeg ((sa (sa (sa s 221 (Int32.toNatClampNeg (s.1 26)) a1) 222 (Int32.toNatClampNeg ((sa s 221 (Int32.toNatClampNeg (s.1 26)) a1).1 26)) ((sa s 221 (Int32.toNatClampNeg (s.1 26)) a1).1 7)) 224 (Int32.toNatClampNeg ((sa (sa s 221 (Int32.toNatClampNeg (s.1 26)) a1) 222 (Int32.toNatClampNeg ((sa s 221 (Int32.toNatClampNeg (s.1 26)) a1).1 26)) ((sa s 221 (Int32.toNatClampNeg (s.1 26)) a1).1 7)).1 26)) (-1)).1 26)) (-1)) 226 (Int32.toNatClampNeg ((sa (sa (sa (sa s 221 (Int32.toNatClampNeg (s.1 26)) a1) 222 (Int32.toNatClampNeg ((sa s 221 (Int32.toNatClampNeg (s.1 26)) a1).1 26)) ((sa s 221 (Int32.toNatClampNeg (s.1 26)) a1).1 7)) 224 (Int32.toNatClampNeg ((sa (sa s 221 (Int32.toNatClampNeg (s.1 26)) a1) 222 (Int32.toNatClampNeg ((sa s 221 (Int32.toNatClampNeg (s.1 26)) a1).1 26)) ((sa s 221 (Int32.toNatClampNeg (s.1 26)) a1).1 7)).1 26)) (-1)) 225 (Int32.toNatClampNeg ((sa (sa (sa s 221 (Int32.toNatClampNeg (s.1 26)) a1) 222 (Int32.toNatClampNeg ((sa s 221 (Int32.toNatClampNeg (s.1 26)) a1).1 26)) ((sa s 221 (Int32.toNatClampNeg (s.1 26)) a1).1 7)) 224 (Int32.toNatClampNeg ((sa (sa s 221 (Int32.toNatClampNeg (s.1 26)) a1) 222 (Int32.toNatClampNeg ((sa s 221 (Int32.toNatClampNeg (s.1 26)) a1).1 26)) ((sa s 221 (Int32.toNatClampNeg (s.1 26)) a1).1 7)).1 26)) (-1)).1 26)) (-1)).1 26)) 0) 227 (Int32.toNatClampNeg ((sa (sa (sa (sa (sa s 221 (Int32.toNatClampNeg (s.1 26)) a1) 222 (Int32.toNatClampNeg ((sa s 221 (Int32.toNatClampNeg (s.1 26)) a1).1 26)) ((sa s 221 (Int32.toNatClampNeg (s.1 26)) a1).1 7)) 224 (Int32.toNatClampNeg ((sa (sa s 221 (Int32.toNatClampNeg (s.1 26)) a1) 222 (Int32.toNatClampNeg ((sa s 221 (Int32.toNatClampNeg (s.1 26)) a1).1 26)) ((sa s 221 (Int32.toNatClampNeg (s.1 26)) a1).1 7)).1 26)) (-1)) 225 (Int32.toNatClampNeg ((sa (sa (sa s 221 (Int32.toNatClampNeg (s.1 26)) a1) 222 (Int32.toNatClampNeg ((sa s 221 (Int32.toNatClampNeg (s.1 26)) a1).1 26)) ((sa s 221 (Int32.toNatClampNeg (s.1 26)) a1).1 7)) 224 (Int32.toNatClampNeg ((sa (sa s 221 (Int32.toNatClampNeg (s.1 26)) a1) 222 (Int32.toNatClampNeg ((sa s 221 (Int32.toNatClampNeg (s.1 26)) a1).1 26)) ((sa s 221 (Int32.toNatClampNeg (s.1 26)) a1).1 7)).1 26)) (-1)).1 26)) (-1)) 226 (Int32.toNatClampNeg ((sa (sa (sa (sa s 221 (Int32.toNatClampNeg (s.1 26)) a1) 222 (Int32.toNatClampNeg ((sa s 221 (Int32.toNatClampNeg (s.1 26)) a1).1 26)) ((sa s 221 (Int32.toNatClampNeg (s.1 26)) a1).1 7)) 224 (Int32.toNatClampNeg ((sa (sa s 221 (Int32.toNatClampNeg (s.1 26)) a1) 222 (Int32.toNatClampNeg ((sa s 221 (Int32.toNatClampNeg (s.1 26)) a1).1 26)) ((sa s 221 (Int32.toNatClampNeg (s.1 26)) a1).1 7)).1 26)) (-1)) 225 (Int32.toNatClampNeg ((sa (sa (sa s 221 (Int32.toNatClampNeg (s.1 26)) a1) 222 (Int32.toNatClampNeg ((sa s 221 (Int32.toNatClampNeg (s.1 26)) a1).1 26)) ((sa s 221 (Int32.toNatClampNeg (s.1 26)) a1).1 7)) 224 (Int32.toNatClampNeg ((sa (sa s 221 (Int32.toNatClampNeg (s.1 26)) a1) 222 (Int32.toNatClampNeg ((sa s 221 (Int32.toNatClampNeg (s.1 26)) a1).1 26)) ((sa s 221 (Int32.toNatClampNeg (s.1 26)) a1).1 7)).1 26)) (-1)).1 26)) (-1)).1 26)) 0).1 26)) (-1)).1 26)) (-1)) 229 (Int32.toNatClampNeg ((sa (sa (sa (sa (sa (sa (sa s 221 (Int32.toNatClampNeg (s.1 26)) a1) 222 (Int32.toNatClampNeg ((sa s 221 (Int32.toNatClampNeg (s.1 26)) a1).1 26)) ((sa s 221 (Int32.toNatClampNeg (s.1 26)) a1).1 7)) 224 (Int32.toNatClampNeg ((sa (sa s 221 (Int32.toNatClampNeg (s.1 26)) a1) 222 (Int32.toNatClampNeg ((sa s 221 (Int32.toNatClampNeg (s.1 26)) a1).1 26)) ((sa s 221 (Int32.toNatClampNeg (s.1 26)) a1).1 7)).1 26)) (-1)) 225 (Int32.toNatClampNeg ((sa (sa (sa s 221 (Int32.toNatClampNeg (s.1 26)) a1) 222 (Int32.toNatClampNeg ((sa s 221 (Int32.toNatClampNeg (s.1 26)) a1).1 26)) ((sa s 221 (Int32.toNatClampNeg (s.1 26)) a1).1 7)) 224 (Int32.toNatClampNeg ((sa (sa s 221 (Int32.toNatClampNeg (s.1 26)) a1) 222 (Int32.toNatClampNeg ((sa s 221 (Int32.toNatClampNeg (s.1 26)) a1).1 26)) ((sa s 221 (Int32.toNatClampNeg (s.1 26)) a1).1 7)).1 26)) (-1)).1 26)) (-1)) 226 (Int32.toNatClampNeg ((sa (sa (sa (sa s 221 (Int32.toNatClampNeg (s.1 26)) a1) 222 (Int32.toNatClampNeg ((sa s 221 (Int32.toNatClampNeg (s.1 26)) a1).1 26)) ((sa s 221 (Int32.toNatClampNeg (s.1 26)) a1).1 7)) 224 (Int32.toNatClampNeg ((sa (sa s 221 (Int32.toNatClampNeg (s.1 26)) a1) 222 (Int32.toNatClampNeg ((sa s 221 (Int32.toNatClampNeg (s.1 26)) a1).1 26)) ((sa s 221 (Int32.toNatClampNeg (s.1 26)) a1).1 7)).1 26)) (-1)) 225 (Int32.toNatClampNeg ((sa (sa (sa s 221 (Int32.toNatClampNeg (s.1 26)) a1) 222 (Int32.toNatClampNeg ((sa s 221 (Int32.toNatClampNeg (s.1 26)) a1).1 26)) ((sa s 221 (Int32.toNatClampNeg (s.1 26)) a1).1 7)) 224 (Int32.toNatClampNeg ((sa (sa s 221 (Int32.toNatClampNeg (s.1 26)) a1) 222 (Int32.toNatClampNeg ((sa s 221 (Int32.toNatClampNeg (s.1 26)) a1).1 26)) ((sa s 221 (Int32.toNatClampNeg (s.1 26)) a1).1 7)).1 26)) (-1)).1 26)) (-1)).1 26)) 0) 227 (Int32.toNatClampNeg ((sa (sa (sa (sa (sa s 221 (Int32.toNatClampNeg (s.1 26)) a1) 222 (Int32.toNatClampNeg ((sa s 221 (Int32.toNatClampNeg (s.1 26)) a1).1 26)) ((sa s 221 (Int32.toNatClampNeg (s.1 26)) a1).1 7)) 224 (Int32.toNatClampNeg ((sa (sa s 221 (Int32.toNatClampNeg (s.1 26)) a1) 222 (Int32.toNatClampNeg ((sa s 221 (Int32.toNatClampNeg (s.1 26)) a1).1 26)) ((sa s 221 (Int32.toNatClampNeg (s.1 26)) a1).1 7)).1 26)) (-1)) 225 (Int32.toNatClampNeg ((sa (sa (sa s 221 (Int32.toNatClampNeg (s.1 26)) a1) 222 (Int32.toNatClampNeg ((sa s 221 (Int32.toNatClampNeg (s.1 26)) a1).1 26)) ((sa s 221 (Int32.toNatClampNeg (s.1 26)) a1).1 7)) 224 (Int32.toNatClampNeg ((sa (sa s 221 (Int32.toNatClampNeg (s.1 26)) a1) 222 (Int32.toNatClampNeg ((sa s 221 (Int32.toNatClampNeg (s.1 26)) a1).1 26)) ((sa s 221 (Int32.toNatClampNeg (s.1 26)) a1).1 7)).1 26)) (-1)).1 26)) (-1)) 226 (Int32.toNatClampNeg ((sa (sa (sa (sa s 221 (Int32.toNatClampNeg (s.1 26)) a1) 222 (Int32.toNatClampNeg ((sa s 221 (Int32.toNatClampNeg (s.1 26)) a1).1 26)) ((sa s 221 (Int32.toNatClampNeg (s.1 26)) a1).1 7)) 224 (Int32.toNatClampNeg ((sa (sa s 221 (Int32.toNatClampNeg (s.1 26)) a1) 222 (Int32.toNatClampNeg ((sa s 221 (Int32.toNatClampNeg (s.1 26)) a1).1 26)) ((sa s 221 (Int32.toNatClampNeg (s.1 26)) a1).1 7)).1 26)) (-1)) 225 (Int32.toNatClampNeg ((sa (sa (sa s 221 (Int32.toNatClampNeg (s.1 26)) a1) 222 (Int32.toNatClampNeg ((sa s 221 (Int32.toNatClampNeg (s.1 26)) a1).1 26)) ((sa s 221 (Int32.toNatClampNeg (s.1 26)) a1).1 7)) 224 (Int32.toNatClampNeg ((sa (sa s 221 (Int32.toNatClampNeg (s.1 26)) a1) 222 (Int32.toNatClampNeg ((sa s 221 (Int32.toNatClampNeg (s.1 26)) a1).1 26)) ((sa s 221 (Int32.toNatClampNeg (s.1 26)) a1).1 7)).1 26)) (-1)).1 26)) (-1)).1 26)) 0).1 26)) (-1)) 228 (Int32.toNatClampNeg ((sa (sa (sa (sa (sa (sa s 221 (Int32.toNatClampNeg (s.1 26)) a1) 222 (Int32.toNatClampNeg ((sa s 221 (Int32.toNatClampNeg (s.1 26)) a1).1 26)) ((sa s 221 (Int32.toNatClampNeg (s.1 26)) a1).1 7)) 224 (Int32.toNatClampNeg ((sa (sa s 221 (Int32.toNatClampNeg (s.1 26)) a1) 222 (Int32.toNatClampNeg ((sa s 221 (Int32.toNatClampNeg (s.1 26)) a1).1 26)) ((sa s 221 (Int32.toNatClampNeg (s.1 26)) a1).1 7)).1 26)) (-1)) 225 (Int32.toNatClampNeg ((sa (sa (sa s 221 (Int32.toNatClampNeg (s.1 26)) a1) 222 (Int32.toNatClampNeg ((sa s 221 (Int32.toNatClampNeg (s.1 26)) a1).1 26)) ((sa s 221 (Int32.toNatClampNeg (s.1 26)) a1).1 7)) 224 (Int32.toNatClampNeg ((sa (sa s 221 (Int32.toNatClampNeg (s.1 26)) a1) 222 (Int32.toNatClampNeg ((sa s 221 (Int32.toNatClampNeg (s.1 26)) a1).1 26)) ((sa s 221 (Int32.toNatClampNeg (s.1 26)) a1).1 7)).1 26)) (-1)).1 26)) (-1)) 226 (Int32.toNatClampNeg ((sa (sa (sa (sa s 221 (Int32.toNatClampNeg (s.1 26)) a1) 222 (Int32.toNatClampNeg ((sa s 221 (Int32.toNatClampNeg (s.1 26)) a1).1 26)) ((sa s 221 (Int32.toNatClampNeg (s.1 26)) a1).1 7)) 224 (Int32.toNatClampNeg ((sa (sa s 221 (Int32.toNatClampNeg (s.1 26)) a1) 222 (Int32.toNatClampNeg ((sa s 221 (Int32.toNatClampNeg (s.1 26)) a1).1 26)) ((sa s 221 (Int32.toNatClampNeg (s.1 26)) a1).1 7)).1 26)) (-1)) 225 (Int32.toNatClampNeg ((sa (sa (sa s 221 (Int32.toNatClampNeg (s.1 26)) a1) 222 (Int32.toNatClampNeg ((sa s 221 (Int32.toNatClampNeg (s.1 26)) a1).1 26)) ((sa s 221 (Int32.toNatClampNeg (s.1 26)) a1).1 7)) 224 (Int32.toNatClampNeg ((sa (sa s 221 (Int32.toNatClampNeg (s.1 26)) a1) 222 (Int32.toNatClampNeg ((sa s 221 (Int32.toNatClampNeg (s.1 26)) a1).1 26)) ((sa s 221 (Int32.toNatClampNeg (s.1 26)) a1).1 7)).1 26)) (-1)).1 26)) (-1)).1 26)) 0) 227 (Int32.toNatClampNeg ((sa (sa (sa (sa (sa s 221 (Int32.toNatClampNeg (s.1 26)) a1) 222 (Int32.toNatClampNeg ((sa s 221 (Int32.toNatClampNeg (s.1 26)) a1).1 26)) ((sa s 221 (Int32.toNatClampNeg (s.1 26)) a1).1 7)) 224 (Int32.toNatClampNeg ((sa (sa s 221 (Int32.toNatClampNeg (s.1 26)) a1) 222 (Int32.toNatClampNeg ((sa s 221 (Int32.toNatClampNeg (s.1 26)) a1).1 26)) ((sa s 221 (Int32.toNatClampNeg (s.1 26)) a1).1 7)).1 26)) (-1)) 225 (Int32.toNatClampNeg ((sa (sa (sa s 221 (Int32.toNatClampNeg (s.1 26)) a1) 222 (Int32.toNatClampNeg ((sa s 221 (Int32.toNatClampNeg (s.1 26)) a1).1 26)) ((sa s 221 (Int32.toNatClampNeg (s.1 26)) a1).1 7)) 224 (Int32.toNatClampNeg ((sa (sa s 221 (Int32.toNatClampNeg (s.1 26)) a1) 222 (Int32.toNatClampNeg ((sa s 221 (Int32.toNatClampNeg (s.1 26)) a1).1 26)) ((sa s 221 (Int32.toNatClampNeg (s.1 26)) a1).1 7)).1 26)) (-1)).1 26)) (-1)) 226 (Int32.toNatClampNeg ((sa (sa (sa (sa s 221 (Int32.toNatClampNeg (s.1 26)) a1) 222 (Int32.toNatClampNeg ((sa s 221 (Int32.toNatClampNeg (s.1 26)) a1).1 26)) ((sa s 221 (Int32.toNatClampNeg (s.1 26)) a1).1 7)) 224 (Int32.toNatClampNeg ((sa (sa s 221 (Int32.toNatClampNeg (s.1 26)) a1) 222 (Int32.toNatClampNeg ((sa s 221 (Int32.toNatClampNeg (s.1 26)) a1).1 26)) ((sa s 221 (Int32.toNatClampNeg (s.1 26)) a1).1 7)).1 26)) (-1)) 225 (Int32.toNatClampNeg ((sa (sa (sa s 221 (Int32.toNatClampNeg (s.1 26)) a1) 222 (Int32.toNatClampNeg ((sa s 221 (Int32.toNatClampNeg (s.1 26)) a1).1 26)) ((sa s 221 (Int32.toNatClampNeg (s.1 26)) a1).1 7)) 224 (Int32.toNatClampNeg ((sa (sa s 221 (Int32.toNatClampNeg (s.1 26)) a1) 222 (Int32.toNatClampNeg ((sa s 221 (Int32.toNatClampNeg (s.1 26)) a1).1 26)) ((sa s 221 (Int32.toNatClampNeg (s.1 26)) a1).1 7)).1 26)) (-1)).1 26)) (-1)).1 26)) 0).1 26)) (-1)).1 26)) (-1)).1 26)) (-1)).1 26)) 0).1 26) + 1)).1 26) - 1)] xo_isub rfl rfl ?_
  exact g_retI rfl h
theorem t_171 {d : Nat} {a1 : Int32} {s : yS} {P : Option Value → yS → Prop} (h : w_171_0 (Tot d) a1 s P) : Tot (d + 1) 171 [.ref 213, .int a1] s P := tot_of (E := xE_171) (ml := 2) (ret := some .int) rfl rfl rfl (k_171_0 h)
/-! within -/
def w_172_17 (T : Nat → List Value → yS → (Option Value → yS → Prop) → Prop)  (a1 : Int32) (s : yS) (P : Option Value → yS → Prop) : Prop :=
  ∀ s1, s1 = sf s 27 ((s.1 27) + 1) → P none s1
set_option maxRecDepth 20000 in
theorem k_172_17 {d : Nat}  {a1 : Int32} {s : yS} {P : Option Value → yS → Prop}  (h : w_172_17 (Tot d)  a1 s P) : Go d 2 (none) xE_172 (xE_172.drop 17) [.ref 213, .int a1, .null, .null] [] s P := by
  unfold w_172_17 at h
  refine g_ld rfl rfl rfl ?_
  refine g_c [.ref 213, .ref 213] xo_dup rfl rfl ?_
  refine g_get rfl rfl ?_
  change Go _ _ _ _ _ _ [.int (s.1 27), .ref 213] _ _
  refine g_c [.int 1, .int (s.1 27), .ref 213] (xo_push (.int 1)) rfl rfl ?_
  refine g_c [.int ((s.1 27) + 1), .ref 213] xo_iadd rfl rfl ?_
  refine g_put rfl rfl rfl ?_
  replace h := h _ rfl
  exact g_ret0 rfl h
def w_172_0 (T : Nat → List Value → yS → (Option Value → yS → Prop) → Prop)  (a1 : Int32) (s : yS) (P : Option Value → yS → Prop) : Prop :=
  (¬ (a1 = 0) → (¬ ((s.1 27) = 10) → w_172_17 T  a1  s P) ∧ ((s.1 27) = 10 → T 163 [.ref 213, .int 5, .int (s.1 7)] s (fun v2 s1 => v2 = none ∧ (w_172_17 T  a1  s1 P)))) ∧ (a1 = 0 → T 163 [.ref 213, .int 1, .int (s.1 7)] s (fun v4 s3 => v4 = none ∧ (w_172_17 T  a1  s3 P)))
set_option maxRecDepth 20000 in
theorem k_172_0 {d : Nat}  {a1 : Int32} {s : yS} {P : Option Value → yS → Prop}  (h : w_172_0 (Tot d)  a1 s P) : Go d 2 (none) xE_172 (xE_172.drop 0) [.ref 213, .int a1, .null, .null] [] s P := by
  unfold w_172_0 at h
  refine g_ld rfl rfl rfl ?_
  refine g_brN rfl rfl ⟨fun hc => ?_, fun hc => ?_⟩
  · replace h := h.1 hc
    refine g_ld rfl rfl rfl ?_
    refine g_get rfl rfl ?_
    change Go _ _ _ _ _ _ [.int (s.1 27)] _ _
    refine g_c [.int 10, .int (s.1 27)] (xo_push (.int 10)) rfl rfl ?_
    refine g_brN rfl rfl ⟨fun hc => ?_, fun hc => ?_⟩
    · replace h := h.1 hc
      exact k_172_17  h
    · replace h := h.2 hc
      refine g_ld rfl rfl rfl ?_
      refine g_c [.int 5, .ref 213] (xo_push (.int 5)) rfl rfl ?_
      refine g_ld rfl rfl rfl ?_
      refine g_get rfl rfl ?_
      change Go _ _ _ _ _ _ [.int (s.1 7), .int 5, .ref 213] _ _
      refine g_call [.ref 213, .int 5, .int (s.1 7)] [] rfl rfl rfl (Tot.imp h (fun v2 s1 h => ?_))
      obtain ⟨rfl, h⟩ := h
      change Go _ _ _ _ _ _ [] _ _
      exact k_172_17  h
  · replace h := h.2 hc
    refine g_ld rfl rfl rfl ?_
    refine g_c [.int 1, .ref 213] (xo_push (.int 1)) rfl rfl ?_
    refine g_ld rfl rfl rfl ?_
    refine g_get rfl rfl ?_
    change Go _ _ _ _ _ _ [.int (s.1 7), .int 1, .ref 213] _ _
    refine g_call [.ref 213, .int 1, .int (s.1 7)] [] rfl rfl rfl (Tot.imp h (fun v4 s3 h => ?_))
    obtain ⟨rfl, h⟩ := h
    change Go _ _ _ _ _ _ [] _ _
    refine g_go rfl ?_
    exact k_172_17  h
theorem t_172 {d : Nat} {a1 : Int32} {s : yS} {P : Option Value → yS → Prop} (h : w_172_0 (Tot d) a1 s P) : Tot (d + 1) 172 [.ref 213, .int a1] s P := tot_of (E := xE_172) (ml := 2) (ret := none) rfl rfl rfl (k_172_0 h)
/-! takeType -/
def w_173_30 (T : Nat → List Value → yS → (Option Value → yS → Prop) → Prop)  (a1 : Int32) (s : yS) (P : Option Value → yS → Prop) : Prop :=
  ∀ s1, s1 = sf s 27 ((s.1 27) - 1) → P (some (.int a1)) s1
set_option maxRecDepth 20000 in
theorem k_173_30 {d : Nat}  {a1 : Int32} {s : yS} {P : Option Value → yS → Prop}  (h : w_173_30 (Tot d)  a1 s P) : Go d 2 (some .int) xE_173 (xE_173.drop 30) [.ref 213, .int a1, .null] [] s P := by
  unfold w_173_30 at h
  refine g_ld rfl rfl rfl ?_
  refine g_c [.ref 213, .ref 213] xo_dup rfl rfl ?_
  refine g_get rfl rfl ?_
  change Go _ _ _ _ _ _ [.int (s.1 27), .ref 213] _ _
  refine g_c [.int 1, .int (s.1 27), .ref 213] (xo_push (.int 1)) rfl rfl ?_
  refine g_c [.int ((s.1 27) - 1), .ref 213] xo_isub rfl rfl ?_
  refine g_put rfl rfl rfl ?_
  replace h := h _ rfl
  refine g_ld rfl rfl rfl ?_
  exact g_retI rfl h
def w_173_0 (T : Nat → List Value → yS → (Option Value → yS → Prop) → Prop)   (s : yS) (P : Option Value → yS → Prop) : Prop :=
  T 166 [.ref 213] s (fun v2 s1 => ∃ x3, v2 = some (.int x3) ∧ (T 172 [.ref 213, .int x3] s1 (fun v5 s4 => v5 = none ∧ (T 171 [.ref 213, .int 0] s4 (fun v7 s6 => ∃ x8, v7 = some (.int x8) ∧ (∀ s9, s9 = sf s6 7 ((s6.1 7) + 1) → T 164 [.ref 213, .int 91] s9 (fun v11 s10 => ∃ x12, v11 = some (.int x12) ∧ ((x12 = 0 → w_173_30 T  x8  s10 P) ∧ (¬ (x12 = 0) → T 174 [.ref 213] s10 (fun v14 s13 => ∃ x15, v14 = some (.int x15) ∧ (xIn x8 12006 = true ∧ (∀ s16, s16 = sa s13 224 (Int32.toNatClampNeg x8) x15 → xIn x8 12006 = true ∧ (∀ s17, s17 = sa s16 226 (Int32.toNatClampNeg x8) (s16.1 28) → w_173_30 T  x8  s17 P)))))))))))))
set_option maxRecDepth 20000 in
theorem k_173_0 {d : Nat}   {s : yS} {P : Option Value → yS → Prop}  (h : w_173_0 (Tot d)   s P) : Go d 2 (some .int) xE_173 (xE_173.drop 0) [.ref 213, .null, .null] [] s P := by
  unfold w_173_0 at h
  refine g_ld rfl rfl rfl ?_
  refine g_ld rfl rfl rfl ?_
  refine g_call [.ref 213] [.ref 213] rfl rfl rfl (Tot.imp h (fun v2 s1 h => ?_))
  obtain ⟨x3, rfl, h⟩ := h
  change Go _ _ _ _ _ _ [.int x3, .ref 213] _ _
  refine g_call [.ref 213, .int x3] [] rfl rfl rfl (Tot.imp h (fun v5 s4 h => ?_))
  obtain ⟨rfl, h⟩ := h
  change Go _ _ _ _ _ _ [] _ _
  refine g_ld rfl rfl rfl ?_
  refine g_c [.int 0, .ref 213] (xo_push (.int 0)) rfl rfl ?_
  refine g_call [.ref 213, .int 0] [] rfl rfl rfl (Tot.imp h (fun v7 s6 h => ?_))
  obtain ⟨x8, rfl, h⟩ := h
  change Go _ _ _ _ _ _ [.int x8] _ _
  refine g_st [.ref 213, .int x8, .null] rfl rfl rfl ?_
  refine g_ld rfl rfl rfl ?_
  refine g_c [.ref 213, .ref 213] xo_dup rfl rfl ?_
  refine g_get rfl rfl ?_
  change Go _ _ _ _ _ _ [.int (s6.1 7), .ref 213] _ _
  refine g_c [.int 1, .int (s6.1 7), .ref 213] (xo_push (.int 1)) rfl rfl ?_
  refine g_c [.int ((s6.1 7) + 1), .ref 213] xo_iadd rfl rfl ?_
  refine g_put rfl rfl rfl ?_
  replace h := h _ rfl
  refine g_ld rfl rfl rfl ?_
  refine g_c [.int 91, .ref 213] (xo_push (.int 91)) rfl rfl ?_
  refine g_call [.ref 213, .int 91] [] rfl rfl rfl (Tot.imp h (fun v11 s10 h => ?_))
  obtain ⟨x12, rfl, h⟩ := h
  change Go _ _ _ _ _ _ [.int x12] _ _
  refine g_brP rfl rfl ⟨fun hc => ?_, fun hc => ?_⟩
  · replace h := h.1 hc
    exact k_173_30  h
  · replace h := h.2 hc
    refine g_ld rfl rfl rfl ?_
    refine g_get rfl rfl ?_
    change Go _ _ _ _ _ _ [.ref 224] _ _
    refine g_ld rfl rfl rfl ?_
    refine g_ld rfl rfl rfl ?_
    refine g_call [.ref 213] [.int x8, .ref 224] rfl rfl rfl (Tot.imp h (fun v14 s13 h => ?_))
    obtain ⟨x15, rfl, h⟩ := h
    change Go _ _ _ _ _ _ [.int x15, .int x8, .ref 224] _ _
    refine g_ias rfl rfl h.1 ?_
    replace h := h.2
    replace h := h _ rfl
    refine g_ld rfl rfl rfl ?_
    refine g_get rfl rfl ?_
    change Go _ _ _ _ _ _ [.ref 226] _ _
    refine g_ld rfl rfl rfl ?_
    refine g_ld rfl rfl rfl ?_
    refine g_get rfl rfl ?_
    change Go _ _ _ _ _ _ [.int ((sa s13 224 (Int32.toNatClampNeg x8) x15).1 28), .int x8, .ref 226] _ _
    refine g_ias rfl rfl h.1 ?_
    replace h := h.2
    replace h := h _ rfl
    exact k_173_30  h
theorem t_173 {d : Nat}  {s : yS} {P : Option Value → yS → Prop} (h : w_173_0 (Tot d)  s P) : Tot (d + 1) 173 [.ref 213] s P := tot_of (E := xE_173) (ml := 2) (ret := some .int) rfl rfl rfl (k_173_0 h)
/-! takeTypes -/
def w_174_25 (T : Nat → List Value → yS → (Option Value → yS → Prop) → Prop) (R10 : Int32 → Int32 → Int32 → yS → Prop) (a1 : Int32) (a2 : Int32) (a3 : Int32) (s : yS) (P : Option Value → yS → Prop) : Prop :=
  T 173 [.ref 213] s (fun v2 s1 => ∃ x3, v2 = some (.int x3) ∧ (xIn a2 12006 = true ∧ (∀ s4, s4 = sa s1 225 (Int32.toNatClampNeg a2) x3 → R10 a1 x3 (a3 + 1)  s4)))
set_option maxRecDepth 20000 in
theorem k_174_25 {d : Nat} {R10 : Int32 → Int32 → Int32 → yS → Prop} {a1 : Int32} {a2 : Int32} {a3 : Int32} {s : yS} {P : Option Value → yS → Prop} (r10 : ∀ a1 a2 a3 s, R10 a1 a2 a3 s → Go d 5 (some .int) xE_174 (xE_174.drop 10) [.ref 213, .int a1, .int a2, .int a3, .null, .null] [] s P) (h : w_174_25 (Tot d) R10 a1 a2 a3 s P) : Go d 5 (some .int) xE_174 (xE_174.drop 25) [.ref 213, .int a1, .int a2, .int a3, .null, .null] [] s P := by
  unfold w_174_25 at h
  refine g_ld rfl rfl rfl ?_
  refine g_call [.ref 213] [] rfl rfl rfl (Tot.imp h (fun v2 s1 h => ?_))
  obtain ⟨x3, rfl, h⟩ := h
  change Go _ _ _ _ _ _ [.int x3] _ _
  refine g_st [.ref 213, .int a1, .int a2, .int a3, .int x3, .null] rfl rfl rfl ?_
  refine g_ld rfl rfl rfl ?_
  refine g_get rfl rfl ?_
  change Go _ _ _ _ _ _ [.ref 225] _ _
  refine g_ld rfl rfl rfl ?_
  refine g_ld rfl rfl rfl ?_
  refine g_ias rfl rfl h.1 ?_
  replace h := h.2
  replace h := h _ rfl
  refine g_ld rfl rfl rfl ?_
  refine g_st [.ref 213, .int a1, .int x3, .int a3, .int x3, .null] rfl rfl rfl ?_
  refine g_inc [.ref 213, .int a1, .int x3, .int (a3 + 1), .int x3, .null] rfl rfl rfl rfl ?_
  refine g_go rfl ?_
  refine g_fg 4 ?_
  exact r10 a1 x3 (a3 + 1)  (sa s1 225 (Int32.toNatClampNeg a2) x3) h
def w_174_10 (T : Nat → List Value → yS → (Option Value → yS → Prop) → Prop) (R10 : Int32 → Int32 → Int32 → yS → Prop) (a1 : Int32) (a2 : Int32) (a3 : Int32) (s : yS) (P : Option Value → yS → Prop) : Prop :=
  T 168 [.ref 213, .int 44] s (fun v2 s1 => ∃ x3, v2 = some (.int x3) ∧ ((x3 = 0 → T 167 [.ref 213, .int 93] s1 (fun v5 s4 => v5 = none ∧ (∀ s6, s6 = sf s4 28 a3 → P (some (.int a1)) s6))) ∧ (¬ (x3 = 0) → (¬ (a3 = 6) → w_174_25 T R10 a1 a2 a3  s1 P) ∧ (a3 = 6 → T 166 [.ref 213] s1 (fun v8 s7 => ∃ x9, v8 = some (.int x9) ∧ ((x9 = 0 → w_174_25 T R10 a1 a2 a3  s7 P) ∧ (¬ (x9 = 0) → T 163 [.ref 213, .int 5, .int (s7.1 7)] s7 (fun v11 s10 => v11 = none ∧ (w_174_25 T R10 a1 a2 a3  s10 P)))))))))
set_option maxRecDepth 20000 in
theorem k_174_10 {d : Nat} {R10 : Int32 → Int32 → Int32 → yS → Prop} {a1 : Int32} {a2 : Int32} {a3 : Int32} {s : yS} {P : Option Value → yS → Prop} (r10 : ∀ a1 a2 a3 s, R10 a1 a2 a3 s → Go d 5 (some .int) xE_174 (xE_174.drop 10) [.ref 213, .int a1, .int a2, .int a3, .null, .null] [] s P) (h : w_174_10 (Tot d) R10 a1 a2 a3 s P) : Go d 5 (some .int) xE_174 (xE_174.drop 10) [.ref 213, .int a1, .int a2, .int a3, .null, .null] [] s P := by
  unfold w_174_10 at h
  refine g_ld rfl rfl rfl ?_
  refine g_c [.int 44, .ref 213] (xo_push (.int 44)) rfl rfl ?_
  refine g_call [.ref 213, .int 44] [] rfl rfl rfl (Tot.imp h (fun v2 s1 h => ?_))
  obtain ⟨x3, rfl, h⟩ := h
  change Go _ _ _ _ _ _ [.int x3] _ _
  refine g_brP rfl rfl ⟨fun hc => ?_, fun hc => ?_⟩
  · replace h := h.1 hc
    refine g_ld rfl rfl rfl ?_
    refine g_c [.int 93, .ref 213] (xo_push (.int 93)) rfl rfl ?_
    refine g_call [.ref 213, .int 93] [] rfl rfl rfl (Tot.imp h (fun v5 s4 h => ?_))
    obtain ⟨rfl, h⟩ := h
    change Go _ _ _ _ _ _ [] _ _
    refine g_ld rfl rfl rfl ?_
    refine g_ld rfl rfl rfl ?_
    refine g_put rfl rfl rfl ?_
    replace h := h _ rfl
    refine g_ld rfl rfl rfl ?_
    exact g_retI rfl h
  · replace h := h.2 hc
    refine g_ld rfl rfl rfl ?_
    refine g_c [.int 6, .int a3] (xo_push (.int 6)) rfl rfl ?_
    refine g_brN rfl rfl ⟨fun hc => ?_, fun hc => ?_⟩
    · replace h := h.1 hc
      exact k_174_25 r10 h
    · replace h := h.2 hc
      refine g_ld rfl rfl rfl ?_
      refine g_call [.ref 213] [] rfl rfl rfl (Tot.imp h (fun v8 s7 h => ?_))
      obtain ⟨x9, rfl, h⟩ := h
      change Go _ _ _ _ _ _ [.int x9] _ _
      refine g_brP rfl rfl ⟨fun hc => ?_, fun hc => ?_⟩
      · replace h := h.1 hc
        exact k_174_25 r10 h
      · replace h := h.2 hc
        refine g_ld rfl rfl rfl ?_
        refine g_c [.int 5, .ref 213] (xo_push (.int 5)) rfl rfl ?_
        refine g_ld rfl rfl rfl ?_
        refine g_get rfl rfl ?_
        change Go _ _ _ _ _ _ [.int (s7.1 7), .int 5, .ref 213] _ _
        refine g_call [.ref 213, .int 5, .int (s7.1 7)] [] rfl rfl rfl (Tot.imp h (fun v11 s10 h => ?_))
        obtain ⟨rfl, h⟩ := h
        change Go _ _ _ _ _ _ [] _ _
        exact k_174_25 r10 h
def wl_174_10 (T : Nat → List Value → yS → (Option Value → yS → Prop) → Prop)  (a1 : Int32) (a2 : Int32) (a3 : Int32) (s : yS) (P : Option Value → yS → Prop) : Prop :=
  ∃ (I : Int32 → Int32 → Int32 → yS → Prop) (μ : Int32 → Int32 → Int32 → yS → Nat), I a1 a2 a3 s ∧ ∀ (a1 : Int32) (a2 : Int32) (a3 : Int32) (s : yS), I a1 a2 a3 s → w_174_10 T (fun a1' a2' a3' s' => I a1' a2' a3' s' ∧ μ a1' a2' a3' s' < μ a1 a2 a3 s) a1 a2 a3 s P
theorem kl_174_10 {d : Nat}  {a1 : Int32} {a2 : Int32} {a3 : Int32} {s : yS} {P : Option Value → yS → Prop}  (h : wl_174_10 (Tot d)  a1 a2 a3 s P) : Go d 5 (some .int) xE_174 (xE_174.drop 10) [.ref 213, .int a1, .int a2, .int a3, .null, .null] [] s P := by
  obtain ⟨I, μ, h0, h1⟩ := h
  have key : ∀ (n : Nat) (a1 : Int32) (a2 : Int32) (a3 : Int32) (s : yS), μ a1 a2 a3 s = n → I a1 a2 a3 s → Go d 5 (some .int) xE_174 (xE_174.drop 10) [.ref 213, .int a1, .int a2, .int a3, .null, .null] [] s P := by
    intro n
    induction n using Nat.strongRecOn with
    | ind n ih =>
      intro a1 a2 a3 s e hI
      exact k_174_10 (fun a1' a2' a3' s' q => ih _ (by rw [← e]; exact q.2) _ _ _ _ rfl q.1) (h1 a1 a2 a3 s hI)
  exact key _ a1 a2 a3 s rfl h0
def w_174_0 (T : Nat → List Value → yS → (Option Value → yS → Prop) → Prop)   (s : yS) (P : Option Value → yS → Prop) : Prop :=
  T 167 [.ref 213, .int 91] s (fun v2 s1 => v2 = none ∧ (T 173 [.ref 213] s1 (fun v4 s3 => ∃ x5, v4 = some (.int x5) ∧ (wl_174_10 T  x5 x5 1  s3 P))))
set_option maxRecDepth 20000 in
theorem k_174_0 {d : Nat}   {s : yS} {P : Option Value → yS → Prop}  (h : w_174_0 (Tot d)   s P) : Go d 5 (some .int) xE_174 (xE_174.drop 0) [.ref 213, .null, .null, .null, .null, .null] [] s P := by
  unfold w_174_0 at h
  refine g_ld rfl rfl rfl ?_
  refine g_c [.int 91, .ref 213] (xo_push (.int 91)) rfl rfl ?_
  refine g_call [.ref 213, .int 91] [] rfl rfl rfl (Tot.imp h (fun v2 s1 h => ?_))
  obtain ⟨rfl, h⟩ := h
  change Go _ _ _ _ _ _ [] _ _
  refine g_ld rfl rfl rfl ?_
  refine g_call [.ref 213] [] rfl rfl rfl (Tot.imp h (fun v4 s3 h => ?_))
  obtain ⟨x5, rfl, h⟩ := h
  change Go _ _ _ _ _ _ [.int x5] _ _
  refine g_st [.ref 213, .int x5, .null, .null, .null, .null] rfl rfl rfl ?_
  refine g_ld rfl rfl rfl ?_
  refine g_st [.ref 213, .int x5, .int x5, .null, .null, .null] rfl rfl rfl ?_
  refine g_c [.int 1] (xo_push (.int 1)) rfl rfl ?_
  refine g_st [.ref 213, .int x5, .int x5, .int 1, .null, .null] rfl rfl rfl ?_
  exact kl_174_10  h
theorem t_174 {d : Nat}  {s : yS} {P : Option Value → yS → Prop} (h : w_174_0 (Tot d)  s P) : Tot (d + 1) 174 [.ref 213] s P := tot_of (E := xE_174) (ml := 5) (ret := some .int) rfl rfl rfl (k_174_0 h)
/-! takeE -/
def w_175_106 (T : Nat → List Value → yS → (Option Value → yS → Prop) → Prop) (R94 : Int32 → Int32 → Int32 → yS → Prop) (a1 : Int32) (a2 : Int32) (a3 : Int32) (s : yS) (P : Option Value → yS → Prop) : Prop :=
  T 177 [.ref 213, .int a1] s (fun v2 s1 => ∃ x3, v2 = some (.int x3) ∧ (R94 x3 a2 (a3 + 1)  s1))
set_option maxRecDepth 20000 in
theorem k_175_106 {d : Nat} {R94 : Int32 → Int32 → Int32 → yS → Prop} {a1 : Int32} {a2 : Int32} {a3 : Int32} {s : yS} {P : Option Value → yS → Prop} (r94 : ∀ a1 a2 a3 s, R94 a1 a2 a3 s → Go d 5 (some .int) xE_175 (xE_175.drop 94) [.ref 213, .int a1, .int a2, .int a3, .null, .null] [] s P) (h : w_175_106 (Tot d) R94 a1 a2 a3 s P) : Go d 5 (some .int) xE_175 (xE_175.drop 106) [.ref 213, .int a1, .int a2, .int a3, .null, .null] [] s P := by
  unfold w_175_106 at h
  refine g_inc [.ref 213, .int a1, .int a2, .int (a3 + 1), .null, .null] rfl rfl rfl rfl ?_
  refine g_ld rfl rfl rfl ?_
  refine g_ld rfl rfl rfl ?_
  refine g_call [.ref 213, .int a1] [] rfl rfl rfl (Tot.imp h (fun v2 s1 h => ?_))
  obtain ⟨x3, rfl, h⟩ := h
  change Go _ _ _ _ _ _ [.int x3] _ _
  refine g_st [.ref 213, .int x3, .int a2, .int (a3 + 1), .null, .null] rfl rfl rfl ?_
  refine g_go rfl ?_
  exact r94 x3 a2 (a3 + 1)  s1 h
def w_175_94 (T : Nat → List Value → yS → (Option Value → yS → Prop) → Prop) (R94 : Int32 → Int32 → Int32 → yS → Prop) (a1 : Int32) (a2 : Int32) (a3 : Int32) (s : yS) (P : Option Value → yS → Prop) : Prop :=
  T 164 [.ref 213, .int 46] s (fun v2 s1 => ∃ x3, v2 = some (.int x3) ∧ ((x3 = 0 → ∀ s4, s4 = sf s1 27 ((s1.1 27) - 1) → P (some (.int a1)) s4) ∧ (¬ (x3 = 0) → (¬ (a3 = 20) → w_175_106 T R94 a1 a2 a3  s1 P) ∧ (a3 = 20 → T 163 [.ref 213, .int 5, .int (s1.1 7)] s1 (fun v6 s5 => v6 = none ∧ (w_175_106 T R94 a1 a2 a3  s5 P))))))
set_option maxRecDepth 20000 in
theorem k_175_94 {d : Nat} {R94 : Int32 → Int32 → Int32 → yS → Prop} {a1 : Int32} {a2 : Int32} {a3 : Int32} {s : yS} {P : Option Value → yS → Prop} (r94 : ∀ a1 a2 a3 s, R94 a1 a2 a3 s → Go d 5 (some .int) xE_175 (xE_175.drop 94) [.ref 213, .int a1, .int a2, .int a3, .null, .null] [] s P) (h : w_175_94 (Tot d) R94 a1 a2 a3 s P) : Go d 5 (some .int) xE_175 (xE_175.drop 94) [.ref 213, .int a1, .int a2, .int a3, .null, .null] [] s P := by
  unfold w_175_94 at h
  refine g_ld rfl rfl rfl ?_
  refine g_c [.int 46, .ref 213] (xo_push (.int 46)) rfl rfl ?_
  refine g_call [.ref 213, .int 46] [] rfl rfl rfl (Tot.imp h (fun v2 s1 h => ?_))
  obtain ⟨x3, rfl, h⟩ := h
  change Go _ _ _ _ _ _ [.int x3] _ _
  refine g_brP rfl rfl ⟨fun hc => ?_, fun hc => ?_⟩
  · replace h := h.1 hc
    refine g_ld rfl rfl rfl ?_
    refine g_c [.ref 213, .ref 213] xo_dup rfl rfl ?_
    refine g_get rfl rfl ?_
    change Go _ _ _ _ _ _ [.int (s1.1 27), .ref 213] _ _
    refine g_c [.int 1, .int (s1.1 27), .ref 213] (xo_push (.int 1)) rfl rfl ?_
    refine g_c [.int ((s1.1 27) - 1), .ref 213] xo_isub rfl rfl ?_
    refine g_put rfl rfl rfl ?_
    replace h := h _ rfl
    refine g_ld rfl rfl rfl ?_
    exact g_retI rfl h
  · replace h := h.2 hc
    refine g_ld rfl rfl rfl ?_
    refine g_c [.int 20, .int a3] (xo_push (.int 20)) rfl rfl ?_
    refine g_brN rfl rfl ⟨fun hc => ?_, fun hc => ?_⟩
    · replace h := h.1 hc
      exact k_175_106 r94 h
    · replace h := h.2 hc
      refine g_ld rfl rfl rfl ?_
      refine g_c [.int 5, .ref 213] (xo_push (.int 5)) rfl rfl ?_
      refine g_ld rfl rfl rfl ?_
      refine g_get rfl rfl ?_
      change Go _ _ _ _ _ _ [.int (s1.1 7), .int 5, .ref 213] _ _
      refine g_call [.ref 213, .int 5, .int (s1.1 7)] [] rfl rfl rfl (Tot.imp h (fun v6 s5 h => ?_))
      obtain ⟨rfl, h⟩ := h
      change Go _ _ _ _ _ _ [] _ _
      exact k_175_106 r94 h
def wl_175_94 (T : Nat → List Value → yS → (Option Value → yS → Prop) → Prop)  (a1 : Int32) (a2 : Int32) (a3 : Int32) (s : yS) (P : Option Value → yS → Prop) : Prop :=
  ∃ (I : Int32 → Int32 → Int32 → yS → Prop) (μ : Int32 → Int32 → Int32 → yS → Nat), I a1 a2 a3 s ∧ ∀ (a1 : Int32) (a2 : Int32) (a3 : Int32) (s : yS), I a1 a2 a3 s → w_175_94 T (fun a1' a2' a3' s' => I a1' a2' a3' s' ∧ μ a1' a2' a3' s' < μ a1 a2 a3 s) a1 a2 a3 s P
theorem kl_175_94 {d : Nat}  {a1 : Int32} {a2 : Int32} {a3 : Int32} {s : yS} {P : Option Value → yS → Prop}  (h : wl_175_94 (Tot d)  a1 a2 a3 s P) : Go d 5 (some .int) xE_175 (xE_175.drop 94) [.ref 213, .int a1, .int a2, .int a3, .null, .null] [] s P := by
  obtain ⟨I, μ, h0, h1⟩ := h
  have key : ∀ (n : Nat) (a1 : Int32) (a2 : Int32) (a3 : Int32) (s : yS), μ a1 a2 a3 s = n → I a1 a2 a3 s → Go d 5 (some .int) xE_175 (xE_175.drop 94) [.ref 213, .int a1, .int a2, .int a3, .null, .null] [] s P := by
    intro n
    induction n using Nat.strongRecOn with
    | ind n ih =>
      intro a1 a2 a3 s e hI
      exact k_175_94 (fun a1' a2' a3' s' q => ih _ (by rw [← e]; exact q.2) _ _ _ _ rfl q.1) (h1 a1 a2 a3 s hI)
  exact key _ a1 a2 a3 s rfl h0
def w_175_92 (T : Nat → List Value → yS → (Option Value → yS → Prop) → Prop)  (a1 : Int32) (a2 : Int32) (s : yS) (P : Option Value → yS → Prop) : Prop :=
  wl_175_94 T  a1 a2 0  s P
set_option maxRecDepth 20000 in
theorem k_175_92 {d : Nat}  {a1 : Int32} {a2 : Int32} {s : yS} {P : Option Value → yS → Prop}  (h : w_175_92 (Tot d)  a1 a2 s P) : Go d 5 (some .int) xE_175 (xE_175.drop 92) [.ref 213, .int a1, .int a2, .null, .null, .null] [] s P := by
  unfold w_175_92 at h
  refine g_c [.int 0] (xo_push (.int 0)) rfl rfl ?_
  refine g_st [.ref 213, .int a1, .int a2, .int 0, .null, .null] rfl rfl rfl ?_
  exact kl_175_94  h
def w_175_78 (T : Nat → List Value → yS → (Option Value → yS → Prop) → Prop)  (a1 : Int32) (a2 : Int32) (a3 : Int32) (s : yS) (P : Option Value → yS → Prop) : Prop :=
  T 167 [.ref 213, .int 125] s (fun v2 s1 => v2 = none ∧ (w_175_92 T  a1 a2  s1 P))
set_option maxRecDepth 20000 in
theorem k_175_78 {d : Nat}  {a1 : Int32} {a2 : Int32} {a3 : Int32} {s : yS} {P : Option Value → yS → Prop}  (h : w_175_78 (Tot d)  a1 a2 a3 s P) : Go d 5 (some .int) xE_175 (xE_175.drop 78) [.ref 213, .int a1, .int a2, .int a3, .null, .null] [] s P := by
  unfold w_175_78 at h
  refine g_ld rfl rfl rfl ?_
  refine g_c [.int 125, .ref 213] (xo_push (.int 125)) rfl rfl ?_
  refine g_call [.ref 213, .int 125] [] rfl rfl rfl (Tot.imp h (fun v2 s1 h => ?_))
  obtain ⟨rfl, h⟩ := h
  change Go _ _ _ _ _ _ [] _ _
  refine g_go rfl ?_
  refine g_fg 3 ?_
  exact k_175_92  h
def w_175_37 (T : Nat → List Value → yS → (Option Value → yS → Prop) → Prop)  (t0 : Int32) (s : yS) (P : Option Value → yS → Prop) : Prop :=
  (t0 = 0 → T 171 [.ref 213, .int 1] s (fun v2 s1 => ∃ x3, v2 = some (.int x3) ∧ (∀ s4, s4 = sf s1 7 ((s1.1 7) + 1) → w_175_92 T  x3 t0  s4 P))) ∧ (¬ (t0 = 0) → T 171 [.ref 213, .int 2] s (fun v6 s5 => ∃ x7, v6 = some (.int x7) ∧ (T 173 [.ref 213] s5 (fun v9 s8 => ∃ x10, v9 = some (.int x10) ∧ (xIn x7 12006 = true ∧ (∀ s11, s11 = sa s8 229 (Int32.toNatClampNeg x7) x10 → T 167 [.ref 213, .int 123] s11 (fun v13 s12 => v13 = none ∧ (xIn x7 12006 = true ∧ (∀ s14, s14 = sa s12 224 (Int32.toNatClampNeg x7) (-1) → T 164 [.ref 213, .int 125] s14 (fun v16 s15 => ∃ x17, v16 = some (.int x17) ∧ ((¬ (x17 = 0) → w_175_78 T  x7 t0 x10  s15 P) ∧ (x17 = 0 → T 176 [.ref 213] s15 (fun v19 s18 => ∃ x20, v19 = some (.int x20) ∧ (xIn x7 12006 = true ∧ (∀ s21, s21 = sa s18 224 (Int32.toNatClampNeg x7) x20 → xIn x7 12006 = true ∧ (∀ s22, s22 = sa s21 226 (Int32.toNatClampNeg x7) (s21.1 28) → w_175_78 T  x7 t0 x10  s22 P))))))))))))))))
set_option maxRecDepth 20000 in
theorem k_175_37 {d : Nat}  {t0 : Int32} {s : yS} {P : Option Value → yS → Prop}  (h : w_175_37 (Tot d)  t0 s P) : Go d 5 (some .int) xE_175 (xE_175.drop 37) [.ref 213, .null, .null, .null, .null, .null] [.int t0] s P := by
  unfold w_175_37 at h
  refine g_st [.ref 213, .null, .int t0, .null, .null, .null] rfl rfl rfl ?_
  refine g_ld rfl rfl rfl ?_
  refine g_brP rfl rfl ⟨fun hc => ?_, fun hc => ?_⟩
  · replace h := h.1 hc
    refine g_ld rfl rfl rfl ?_
    refine g_c [.int 1, .ref 213] (xo_push (.int 1)) rfl rfl ?_
    refine g_call [.ref 213, .int 1] [] rfl rfl rfl (Tot.imp h (fun v2 s1 h => ?_))
    obtain ⟨x3, rfl, h⟩ := h
    change Go _ _ _ _ _ _ [.int x3] _ _
    refine g_st [.ref 213, .int x3, .int t0, .null, .null, .null] rfl rfl rfl ?_
    refine g_ld rfl rfl rfl ?_
    refine g_c [.ref 213, .ref 213] xo_dup rfl rfl ?_
    refine g_get rfl rfl ?_
    change Go _ _ _ _ _ _ [.int (s1.1 7), .ref 213] _ _
    refine g_c [.int 1, .int (s1.1 7), .ref 213] (xo_push (.int 1)) rfl rfl ?_
    refine g_c [.int ((s1.1 7) + 1), .ref 213] xo_iadd rfl rfl ?_
    refine g_put rfl rfl rfl ?_
    replace h := h _ rfl
    exact k_175_92  h
  · replace h := h.2 hc
    refine g_ld rfl rfl rfl ?_
    refine g_c [.int 2, .ref 213] (xo_push (.int 2)) rfl rfl ?_
    refine g_call [.ref 213, .int 2] [] rfl rfl rfl (Tot.imp h (fun v6 s5 h => ?_))
    obtain ⟨x7, rfl, h⟩ := h
    change Go _ _ _ _ _ _ [.int x7] _ _
    refine g_st [.ref 213, .int x7, .int t0, .null, .null, .null] rfl rfl rfl ?_
    refine g_ld rfl rfl rfl ?_
    refine g_call [.ref 213] [] rfl rfl rfl (Tot.imp h (fun v9 s8 h => ?_))
    obtain ⟨x10, rfl, h⟩ := h
    change Go _ _ _ _ _ _ [.int x10] _ _
    refine g_st [.ref 213, .int x7, .int t0, .int x10, .null, .null] rfl rfl rfl ?_
    refine g_ld rfl rfl rfl ?_
    refine g_get rfl rfl ?_
    change Go _ _ _ _ _ _ [.ref 229] _ _
    refine g_ld rfl rfl rfl ?_
    refine g_ld rfl rfl rfl ?_
    refine g_ias rfl rfl h.1 ?_
    replace h := h.2
    replace h := h _ rfl
    refine g_ld rfl rfl rfl ?_
    refine g_c [.int 123, .ref 213] (xo_push (.int 123)) rfl rfl ?_
    refine g_call [.ref 213, .int 123] [] rfl rfl rfl (Tot.imp h (fun v13 s12 h => ?_))
    obtain ⟨rfl, h⟩ := h
    change Go _ _ _ _ _ _ [] _ _
    refine g_ld rfl rfl rfl ?_
    refine g_get rfl rfl ?_
    change Go _ _ _ _ _ _ [.ref 224] _ _
    refine g_ld rfl rfl rfl ?_
    refine g_c [.int (-1), .int x7, .ref 224] (xo_push (.int (-1))) rfl rfl ?_
    refine g_ias rfl rfl h.1 ?_
    replace h := h.2
    replace h := h _ rfl
    refine g_ld rfl rfl rfl ?_
    refine g_c [.int 125, .ref 213] (xo_push (.int 125)) rfl rfl ?_
    refine g_call [.ref 213, .int 125] [] rfl rfl rfl (Tot.imp h (fun v16 s15 h => ?_))
    obtain ⟨x17, rfl, h⟩ := h
    change Go _ _ _ _ _ _ [.int x17] _ _
    refine g_brN rfl rfl ⟨fun hc => ?_, fun hc => ?_⟩
    · replace h := h.1 hc
      exact k_175_78  h
    · replace h := h.2 hc
      refine g_ld rfl rfl rfl ?_
      refine g_call [.ref 213] [] rfl rfl rfl (Tot.imp h (fun v19 s18 h => ?_))
      obtain ⟨x20, rfl, h⟩ := h
      change Go _ _ _ _ _ _ [.int x20] _ _
      refine g_st [.ref 213, .int x7, .int t0, .int x10, .int x20, .null] rfl rfl rfl ?_
      refine g_ld rfl rfl rfl ?_
      refine g_get rfl rfl ?_
      change Go _ _ _ _ _ _ [.ref 224] _ _
      refine g_ld rfl rfl rfl ?_
      refine g_ld rfl rfl rfl ?_
      refine g_ias rfl rfl h.1 ?_
      replace h := h.2
      replace h := h _ rfl
      refine g_ld rfl rfl rfl ?_
      refine g_get rfl rfl ?_
      change Go _ _ _ _ _ _ [.ref 226] _ _
      refine g_ld rfl rfl rfl ?_
      refine g_ld rfl rfl rfl ?_
      refine g_get rfl rfl ?_
      change Go _ _ _ _ _ _ [.int ((sa s18 224 (Int32.toNatClampNeg x7) x20).1 28), .int x7, .ref 226] _ _
      refine g_ias rfl rfl h.1 ?_
      replace h := h.2
      replace h := h _ rfl
      refine g_fg 4 ?_
      exact k_175_78  h
def w_175_36 (T : Nat → List Value → yS → (Option Value → yS → Prop) → Prop)   (s : yS) (P : Option Value → yS → Prop) : Prop :=
  w_175_37 T   0 s P
set_option maxRecDepth 20000 in
theorem k_175_36 {d : Nat}   {s : yS} {P : Option Value → yS → Prop}  (h : w_175_36 (Tot d)   s P) : Go d 5 (some .int) xE_175 (xE_175.drop 36) [.ref 213, .null, .null, .null, .null, .null] [] s P := by
  unfold w_175_36 at h
  refine g_c [.int 0] (xo_push (.int 0)) rfl rfl ?_
  exact k_175_37  h
def w_175_34 (T : Nat → List Value → yS → (Option Value → yS → Prop) → Prop)   (s : yS) (P : Option Value → yS → Prop) : Prop :=
  w_175_37 T   1 s P
set_option maxRecDepth 20000 in
theorem k_175_34 {d : Nat}   {s : yS} {P : Option Value → yS → Prop}  (h : w_175_34 (Tot d)   s P) : Go d 5 (some .int) xE_175 (xE_175.drop 34) [.ref 213, .null, .null, .null, .null, .null] [] s P := by
  unfold w_175_34 at h
  refine g_c [.int 1] (xo_push (.int 1)) rfl rfl ?_
  refine g_go rfl ?_
  exact k_175_37  h
def w_175_0 (T : Nat → List Value → yS → (Option Value → yS → Prop) → Prop)   (s : yS) (P : Option Value → yS → Prop) : Prop :=
  T 166 [.ref 213] s (fun v2 s1 => ∃ x3, v2 = some (.int x3) ∧ (T 172 [.ref 213, .int x3] s1 (fun v5 s4 => v5 = none ∧ ((¬ ((s4.1 8) = 0) → w_175_36 T    s4 P) ∧ ((s4.1 8) = 0 → xIn ((s4.1 7) + 1) 12006 = true ∧ ((¬ ((s4.2.1 215 (Int32.toNatClampNeg ((s4.1 7) + 1))) = 3) → w_175_36 T    s4 P) ∧ ((s4.2.1 215 (Int32.toNatClampNeg ((s4.1 7) + 1))) = 3 → xIn ((s4.1 7) + 1) 12006 = true ∧ (((s4.2.1 217 (Int32.toNatClampNeg ((s4.1 7) + 1))) = 123 → w_175_34 T    s4 P) ∧ (¬ ((s4.2.1 217 (Int32.toNatClampNeg ((s4.1 7) + 1))) = 123) → xIn ((s4.1 7) + 1) 12006 = true ∧ ((¬ ((s4.2.1 217 (Int32.toNatClampNeg ((s4.1 7) + 1))) = 91) → w_175_36 T    s4 P) ∧ ((s4.2.1 217 (Int32.toNatClampNeg ((s4.1 7) + 1))) = 91 → w_175_34 T    s4 P)))))))))))
set_option maxRecDepth 20000 in
theorem k_175_0 {d : Nat}   {s : yS} {P : Option Value → yS → Prop}  (h : w_175_0 (Tot d)   s P) : Go d 5 (some .int) xE_175 (xE_175.drop 0) [.ref 213, .null, .null, .null, .null, .null] [] s P := by
  unfold w_175_0 at h
  refine g_ld rfl rfl rfl ?_
  refine g_ld rfl rfl rfl ?_
  refine g_call [.ref 213] [.ref 213] rfl rfl rfl (Tot.imp h (fun v2 s1 h => ?_))
  obtain ⟨x3, rfl, h⟩ := h
  change Go _ _ _ _ _ _ [.int x3, .ref 213] _ _
  refine g_call [.ref 213, .int x3] [] rfl rfl rfl (Tot.imp h (fun v5 s4 h => ?_))
  obtain ⟨rfl, h⟩ := h
  change Go _ _ _ _ _ _ [] _ _
  refine g_ld rfl rfl rfl ?_
  refine g_get rfl rfl ?_
  change Go _ _ _ _ _ _ [.int (s4.1 8)] _ _
  refine g_brN rfl rfl ⟨fun hc => ?_, fun hc => ?_⟩
  · replace h := h.1 hc
    exact k_175_36  h
  · replace h := h.2 hc
    refine g_ld rfl rfl rfl ?_
    refine g_get rfl rfl ?_
    change Go _ _ _ _ _ _ [.ref 215] _ _
    refine g_ld rfl rfl rfl ?_
    refine g_get rfl rfl ?_
    change Go _ _ _ _ _ _ [.int (s4.1 7), .ref 215] _ _
    refine g_c [.int 1, .int (s4.1 7), .ref 215] (xo_push (.int 1)) rfl rfl ?_
    refine g_c [.int ((s4.1 7) + 1), .ref 215] xo_iadd rfl rfl ?_
    refine g_ial rfl rfl h.1 ?_
    replace h := h.2
    refine g_c [.int 3, .int (s4.2.1 215 (Int32.toNatClampNeg ((s4.1 7) + 1)))] (xo_push (.int 3)) rfl rfl ?_
    refine g_brN rfl rfl ⟨fun hc => ?_, fun hc => ?_⟩
    · replace h := h.1 hc
      exact k_175_36  h
    · replace h := h.2 hc
      refine g_ld rfl rfl rfl ?_
      refine g_get rfl rfl ?_
      change Go _ _ _ _ _ _ [.ref 217] _ _
      refine g_ld rfl rfl rfl ?_
      refine g_get rfl rfl ?_
      change Go _ _ _ _ _ _ [.int (s4.1 7), .ref 217] _ _
      refine g_c [.int 1, .int (s4.1 7), .ref 217] (xo_push (.int 1)) rfl rfl ?_
      refine g_c [.int ((s4.1 7) + 1), .ref 217] xo_iadd rfl rfl ?_
      refine g_ial rfl rfl h.1 ?_
      replace h := h.2
      refine g_c [.int 123, .int (s4.2.1 217 (Int32.toNatClampNeg ((s4.1 7) + 1)))] (xo_push (.int 123)) rfl rfl ?_
      refine g_brP rfl rfl ⟨fun hc => ?_, fun hc => ?_⟩
      · replace h := h.1 hc
        exact k_175_34  h
      · replace h := h.2 hc
        refine g_ld rfl rfl rfl ?_
        refine g_get rfl rfl ?_
        change Go _ _ _ _ _ _ [.ref 217] _ _
        refine g_ld rfl rfl rfl ?_
        refine g_get rfl rfl ?_
        change Go _ _ _ _ _ _ [.int (s4.1 7), .ref 217] _ _
        refine g_c [.int 1, .int (s4.1 7), .ref 217] (xo_push (.int 1)) rfl rfl ?_
        refine g_c [.int ((s4.1 7) + 1), .ref 217] xo_iadd rfl rfl ?_
        refine g_ial rfl rfl h.1 ?_
        replace h := h.2
        refine g_c [.int 91, .int (s4.2.1 217 (Int32.toNatClampNeg ((s4.1 7) + 1)))] (xo_push (.int 91)) rfl rfl ?_
        refine g_brN rfl rfl ⟨fun hc => ?_, fun hc => ?_⟩
        · replace h := h.1 hc
          exact k_175_36  h
        · replace h := h.2 hc
          exact k_175_34  h
theorem t_175 {d : Nat}  {s : yS} {P : Option Value → yS → Prop} (h : w_175_0 (Tot d)  s P) : Tot (d + 1) 175 [.ref 213] s P := tot_of (E := xE_175) (ml := 5) (ret := some .int) rfl rfl rfl (k_175_0 h)
/-! takeList -/
def w_176_22 (T : Nat → List Value → yS → (Option Value → yS → Prop) → Prop) (R7 : Int32 → Int32 → Int32 → yS → Prop) (a1 : Int32) (a2 : Int32) (a3 : Int32) (s : yS) (P : Option Value → yS → Prop) : Prop :=
  T 175 [.ref 213] s (fun v2 s1 => ∃ x3, v2 = some (.int x3) ∧ (xIn a2 12006 = true ∧ (∀ s4, s4 = sa s1 225 (Int32.toNatClampNeg a2) x3 → R7 a1 x3 (a3 + 1)  s4)))
set_option maxRecDepth 20000 in
theorem k_176_22 {d : Nat} {R7 : Int32 → Int32 → Int32 → yS → Prop} {a1 : Int32} {a2 : Int32} {a3 : Int32} {s : yS} {P : Option Value → yS → Prop} (r7 : ∀ a1 a2 a3 s, R7 a1 a2 a3 s → Go d 5 (some .int) xE_176 (xE_176.drop 7) [.ref 213, .int a1, .int a2, .int a3, .null, .null] [] s P) (h : w_176_22 (Tot d) R7 a1 a2 a3 s P) : Go d 5 (some .int) xE_176 (xE_176.drop 22) [.ref 213, .int a1, .int a2, .int a3, .null, .null] [] s P := by
  unfold w_176_22 at h
  refine g_ld rfl rfl rfl ?_
  refine g_call [.ref 213] [] rfl rfl rfl (Tot.imp h (fun v2 s1 h => ?_))
  obtain ⟨x3, rfl, h⟩ := h
  change Go _ _ _ _ _ _ [.int x3] _ _
  refine g_st [.ref 213, .int a1, .int a2, .int a3, .int x3, .null] rfl rfl rfl ?_
  refine g_ld rfl rfl rfl ?_
  refine g_get rfl rfl ?_
  change Go _ _ _ _ _ _ [.ref 225] _ _
  refine g_ld rfl rfl rfl ?_
  refine g_ld rfl rfl rfl ?_
  refine g_ias rfl rfl h.1 ?_
  replace h := h.2
  replace h := h _ rfl
  refine g_ld rfl rfl rfl ?_
  refine g_st [.ref 213, .int a1, .int x3, .int a3, .int x3, .null] rfl rfl rfl ?_
  refine g_inc [.ref 213, .int a1, .int x3, .int (a3 + 1), .int x3, .null] rfl rfl rfl rfl ?_
  refine g_go rfl ?_
  refine g_fg 4 ?_
  exact r7 a1 x3 (a3 + 1)  (sa s1 225 (Int32.toNatClampNeg a2) x3) h
def w_176_7 (T : Nat → List Value → yS → (Option Value → yS → Prop) → Prop) (R7 : Int32 → Int32 → Int32 → yS → Prop) (a1 : Int32) (a2 : Int32) (a3 : Int32) (s : yS) (P : Option Value → yS → Prop) : Prop :=
  T 168 [.ref 213, .int 44] s (fun v2 s1 => ∃ x3, v2 = some (.int x3) ∧ ((x3 = 0 → ∀ s4, s4 = sf s1 28 a3 → P (some (.int a1)) s4) ∧ (¬ (x3 = 0) → (¬ (a3 = 6) → w_176_22 T R7 a1 a2 a3  s1 P) ∧ (a3 = 6 → T 166 [.ref 213] s1 (fun v6 s5 => ∃ x7, v6 = some (.int x7) ∧ ((x7 = 0 → w_176_22 T R7 a1 a2 a3  s5 P) ∧ (¬ (x7 = 0) → T 163 [.ref 213, .int 5, .int (s5.1 7)] s5 (fun v9 s8 => v9 = none ∧ (w_176_22 T R7 a1 a2 a3  s8 P)))))))))
set_option maxRecDepth 20000 in
theorem k_176_7 {d : Nat} {R7 : Int32 → Int32 → Int32 → yS → Prop} {a1 : Int32} {a2 : Int32} {a3 : Int32} {s : yS} {P : Option Value → yS → Prop} (r7 : ∀ a1 a2 a3 s, R7 a1 a2 a3 s → Go d 5 (some .int) xE_176 (xE_176.drop 7) [.ref 213, .int a1, .int a2, .int a3, .null, .null] [] s P) (h : w_176_7 (Tot d) R7 a1 a2 a3 s P) : Go d 5 (some .int) xE_176 (xE_176.drop 7) [.ref 213, .int a1, .int a2, .int a3, .null, .null] [] s P := by
  unfold w_176_7 at h
  refine g_ld rfl rfl rfl ?_
  refine g_c [.int 44, .ref 213] (xo_push (.int 44)) rfl rfl ?_
  refine g_call [.ref 213, .int 44] [] rfl rfl rfl (Tot.imp h (fun v2 s1 h => ?_))
  obtain ⟨x3, rfl, h⟩ := h
  change Go _ _ _ _ _ _ [.int x3] _ _
  refine g_brP rfl rfl ⟨fun hc => ?_, fun hc => ?_⟩
  · replace h := h.1 hc
    refine g_ld rfl rfl rfl ?_
    refine g_ld rfl rfl rfl ?_
    refine g_put rfl rfl rfl ?_
    replace h := h _ rfl
    refine g_ld rfl rfl rfl ?_
    exact g_retI rfl h
  · replace h := h.2 hc
    refine g_ld rfl rfl rfl ?_
    refine g_c [.int 6, .int a3] (xo_push (.int 6)) rfl rfl ?_
    refine g_brN rfl rfl ⟨fun hc => ?_, fun hc => ?_⟩
    · replace h := h.1 hc
      exact k_176_22 r7 h
    · replace h := h.2 hc
      refine g_ld rfl rfl rfl ?_
      refine g_call [.ref 213] [] rfl rfl rfl (Tot.imp h (fun v6 s5 h => ?_))
      obtain ⟨x7, rfl, h⟩ := h
      change Go _ _ _ _ _ _ [.int x7] _ _
      refine g_brP rfl rfl ⟨fun hc => ?_, fun hc => ?_⟩
      · replace h := h.1 hc
        exact k_176_22 r7 h
      · replace h := h.2 hc
        refine g_ld rfl rfl rfl ?_
        refine g_c [.int 5, .ref 213] (xo_push (.int 5)) rfl rfl ?_
        refine g_ld rfl rfl rfl ?_
        refine g_get rfl rfl ?_
        change Go _ _ _ _ _ _ [.int (s5.1 7), .int 5, .ref 213] _ _
        refine g_call [.ref 213, .int 5, .int (s5.1 7)] [] rfl rfl rfl (Tot.imp h (fun v9 s8 h => ?_))
        obtain ⟨rfl, h⟩ := h
        change Go _ _ _ _ _ _ [] _ _
        exact k_176_22 r7 h
def wl_176_7 (T : Nat → List Value → yS → (Option Value → yS → Prop) → Prop)  (a1 : Int32) (a2 : Int32) (a3 : Int32) (s : yS) (P : Option Value → yS → Prop) : Prop :=
  ∃ (I : Int32 → Int32 → Int32 → yS → Prop) (μ : Int32 → Int32 → Int32 → yS → Nat), I a1 a2 a3 s ∧ ∀ (a1 : Int32) (a2 : Int32) (a3 : Int32) (s : yS), I a1 a2 a3 s → w_176_7 T (fun a1' a2' a3' s' => I a1' a2' a3' s' ∧ μ a1' a2' a3' s' < μ a1 a2 a3 s) a1 a2 a3 s P
theorem kl_176_7 {d : Nat}  {a1 : Int32} {a2 : Int32} {a3 : Int32} {s : yS} {P : Option Value → yS → Prop}  (h : wl_176_7 (Tot d)  a1 a2 a3 s P) : Go d 5 (some .int) xE_176 (xE_176.drop 7) [.ref 213, .int a1, .int a2, .int a3, .null, .null] [] s P := by
  obtain ⟨I, μ, h0, h1⟩ := h
  have key : ∀ (n : Nat) (a1 : Int32) (a2 : Int32) (a3 : Int32) (s : yS), μ a1 a2 a3 s = n → I a1 a2 a3 s → Go d 5 (some .int) xE_176 (xE_176.drop 7) [.ref 213, .int a1, .int a2, .int a3, .null, .null] [] s P := by
    intro n
    induction n using Nat.strongRecOn with
    | ind n ih =>
      intro a1 a2 a3 s e hI
      exact k_176_7 (fun a1' a2' a3' s' q => ih _ (by rw [← e]; exact q.2) _ _ _ _ rfl q.1) (h1 a1 a2 a3 s hI)
  exact key _ a1 a2 a3 s rfl h0
def w_176_0 (T : Nat → List Value → yS → (Option Value → yS → Prop) → Prop)   (s : yS) (P : Option Value → yS → Prop) : Prop :=
  T 175 [.ref 213] s (fun v2 s1 => ∃ x3, v2 = some (.int x3) ∧ (wl_176_7 T  x3 x3 1  s1 P))
set_option maxRecDepth 20000 in
theorem k_176_0 {d : Nat}   {s : yS} {P : Option Value → yS → Prop}  (h : w_176_0 (Tot d)   s P) : Go d 5 (some .int) xE_176 (xE_176.drop 0) [.ref 213, .null, .null, .null, .null, .null] [] s P := by
  unfold w_176_0 at h
  refine g_ld rfl rfl rfl ?_
  refine g_call [.ref 213] [] rfl rfl rfl (Tot.imp h (fun v2 s1 h => ?_))
  obtain ⟨x3, rfl, h⟩ := h
  change Go _ _ _ _ _ _ [.int x3] _ _
  refine g_st [.ref 213, .int x3, .null, .null, .null, .null] rfl rfl rfl ?_
  refine g_ld rfl rfl rfl ?_
  refine g_st [.ref 213, .int x3, .int x3, .null, .null, .null] rfl rfl rfl ?_
  refine g_c [.int 1] (xo_push (.int 1)) rfl rfl ?_
  refine g_st [.ref 213, .int x3, .int x3, .int 1, .null, .null] rfl rfl rfl ?_
  exact kl_176_7  h
theorem t_176 {d : Nat}  {s : yS} {P : Option Value → yS → Prop} (h : w_176_0 (Tot d)  s P) : Tot (d + 1) 176 [.ref 213] s P := tot_of (E := xE_176) (ml := 5) (ret := some .int) rfl rfl rfl (k_176_0 h)
/-! behindPoint -/
def w_177_160 (T : Nat → List Value → yS → (Option Value → yS → Prop) → Prop)  (a1 : Int32) (a2 : Int32) (a3 : Int32) (a4 : Int32) (s : yS) (P : Option Value → yS → Prop) : Prop :=
  P (some (.int a4)) s
set_option maxRecDepth 20000 in
theorem k_177_160 {d : Nat}  {a1 : Int32} {a2 : Int32} {a3 : Int32} {a4 : Int32} {s : yS} {P : Option Value → yS → Prop}  (h : w_177_160 (Tot d)  a1 a2 a3 a4 s P) : Go d 6 (some .int) xE_177 (xE_177.drop 160) [.ref 213, .int a1, .int a2, .int a3, .int a4, .null, .null, .null] [] s P := by
  unfold w_177_160 at h
  refine g_ld rfl rfl rfl ?_
  exact g_retI rfl h
def w_177_157 (T : Nat → List Value → yS → (Option Value → yS → Prop) → Prop)  (a1 : Int32) (a2 : Int32) (a3 : Int32) (a4 : Int32) (s : yS) (P : Option Value → yS → Prop) : Prop :=
  T 167 [.ref 213, .int 41] s (fun v2 s1 => v2 = none ∧ (w_177_160 T  a1 a2 a3 a4  s1 P))
set_option maxRecDepth 20000 in
theorem k_177_157 {d : Nat}  {a1 : Int32} {a2 : Int32} {a3 : Int32} {a4 : Int32} {s : yS} {P : Option Value → yS → Prop}  (h : w_177_157 (Tot d)  a1 a2 a3 a4 s P) : Go d 6 (some .int) xE_177 (xE_177.drop 157) [.ref 213, .int a1, .int a2, .int a3, .int a4, .null, .null, .null] [] s P := by
  unfold w_177_157 at h
  refine g_ld rfl rfl rfl ?_
  refine g_c [.int 41, .ref 213] (xo_push (.int 41)) rfl rfl ?_
  refine g_call [.ref 213, .int 41] [] rfl rfl rfl (Tot.imp h (fun v2 s1 h => ?_))
  obtain ⟨rfl, h⟩ := h
  change Go _ _ _ _ _ _ [] _ _
  exact k_177_160  h
def w_177_136 (T : Nat → List Value → yS → (Option Value → yS → Prop) → Prop)  (a1 : Int32) (a2 : Int32) (a3 : Int32) (a4 : Int32) (s : yS) (P : Option Value → yS → Prop) : Prop :=
  T 167 [.ref 213, .int 40] s (fun v2 s1 => v2 = none ∧ (T 164 [.ref 213, .int 41] s1 (fun v4 s3 => ∃ x5, v4 = some (.int x5) ∧ ((¬ (x5 = 0) → w_177_157 T  a1 a2 a3 a4  s3 P) ∧ (x5 = 0 → T 176 [.ref 213] s3 (fun v7 s6 => ∃ x8, v7 = some (.int x8) ∧ (xIn a4 12006 = true ∧ (∀ s9, s9 = sa s6 224 (Int32.toNatClampNeg a4) x8 → xIn a4 12006 = true ∧ (∀ s10, s10 = sa s9 226 (Int32.toNatClampNeg a4) (s9.1 28) → w_177_157 T  a1 a2 a3 a4  s10 P)))))))))
set_option maxRecDepth 20000 in
theorem k_177_136 {d : Nat}  {a1 : Int32} {a2 : Int32} {a3 : Int32} {a4 : Int32} {s : yS} {P : Option Value → yS → Prop}  (h : w_177_136 (Tot d)  a1 a2 a3 a4 s P) : Go d 6 (some .int) xE_177 (xE_177.drop 136) [.ref 213, .int a1, .int a2, .int a3, .int a4, .null, .null, .null] [] s P := by
  unfold w_177_136 at h
  refine g_ld rfl rfl rfl ?_
  refine g_c [.int 40, .ref 213] (xo_push (.int 40)) rfl rfl ?_
  refine g_call [.ref 213, .int 40] [] rfl rfl rfl (Tot.imp h (fun v2 s1 h => ?_))
  obtain ⟨rfl, h⟩ := h
  change Go _ _ _ _ _ _ [] _ _
  refine g_ld rfl rfl rfl ?_
  refine g_c [.int 41, .ref 213] (xo_push (.int 41)) rfl rfl ?_
  refine g_call [.ref 213, .int 41] [] rfl rfl rfl (Tot.imp h (fun v4 s3 h => ?_))
  obtain ⟨x5, rfl, h⟩ := h
  change Go _ _ _ _ _ _ [.int x5] _ _
  refine g_brN rfl rfl ⟨fun hc => ?_, fun hc => ?_⟩
  · replace h := h.1 hc
    exact k_177_157  h
  · replace h := h.2 hc
    refine g_ld rfl rfl rfl ?_
    refine g_call [.ref 213] [] rfl rfl rfl (Tot.imp h (fun v7 s6 h => ?_))
    obtain ⟨x8, rfl, h⟩ := h
    change Go _ _ _ _ _ _ [.int x8] _ _
    refine g_st [.ref 213, .int a1, .int a2, .int a3, .int a4, .int x8, .null, .null] rfl rfl rfl ?_
    refine g_ld rfl rfl rfl ?_
    refine g_get rfl rfl ?_
    change Go _ _ _ _ _ _ [.ref 224] _ _
    refine g_ld rfl rfl rfl ?_
    refine g_ld rfl rfl rfl ?_
    refine g_ias rfl rfl h.1 ?_
    replace h := h.2
    replace h := h _ rfl
    refine g_ld rfl rfl rfl ?_
    refine g_get rfl rfl ?_
    change Go _ _ _ _ _ _ [.ref 226] _ _
    refine g_ld rfl rfl rfl ?_
    refine g_ld rfl rfl rfl ?_
    refine g_get rfl rfl ?_
    change Go _ _ _ _ _ _ [.int ((sa s6 224 (Int32.toNatClampNeg a4) x8).1 28), .int a4, .ref 226] _ _
    refine g_ias rfl rfl h.1 ?_
    replace h := h.2
    replace h := h _ rfl
    refine g_fg 5 ?_
    exact k_177_157  h
def w_177_93 (T : Nat → List Value → yS → (Option Value → yS → Prop) → Prop)  (a1 : Int32) (a2 : Int32) (a3 : Int32) (t1 : Int32) (s : yS) (P : Option Value → yS → Prop) : Prop :=
  T 171 [.ref 213, .int t1] s (fun v2 s1 => ∃ x3, v2 = some (.int x3) ∧ (xIn x3 12006 = true ∧ (∀ s4, s4 = sa s1 227 (Int32.toNatClampNeg x3) a1 → xIn a1 12006 = true ∧ (∀ s5, s5 = sa s4 228 (Int32.toNatClampNeg a1) x3 → xIn x3 12006 = true ∧ (∀ s6, s6 = sa s5 223 (Int32.toNatClampNeg x3) a2 → ∀ s7, s7 = sf s6 7 ((s6.1 7) + 1) → (a3 = 0 → w_177_160 T  a1 a2 a3 x3  s7 P) ∧ (¬ (a3 = 0) → T 164 [.ref 213, .int 91] s7 (fun v9 s8 => ∃ x10, v9 = some (.int x10) ∧ ((x10 = 0 → w_177_136 T  a1 a2 a3 x3  s8 P) ∧ (¬ (x10 = 0) → T 174 [.ref 213] s8 (fun v12 s11 => ∃ x13, v12 = some (.int x13) ∧ (xIn x3 12006 = true ∧ (∀ s14, s14 = sa s11 229 (Int32.toNatClampNeg x3) x13 → xIn x3 12006 = true ∧ (∀ s15, s15 = sa s14 230 (Int32.toNatClampNeg x3) (s14.1 28) → w_177_136 T  a1 a2 a3 x3  s15 P)))))))))))))
set_option maxRecDepth 20000 in
theorem k_177_93 {d : Nat}  {a1 : Int32} {a2 : Int32} {a3 : Int32} {t1 : Int32} {s : yS} {P : Option Value → yS → Prop}  (h : w_177_93 (Tot d)  a1 a2 a3 t1 s P) : Go d 6 (some .int) xE_177 (xE_177.drop 93) [.ref 213, .int a1, .int a2, .int a3, .null, .null, .null, .null] [.int t1, .ref 213] s P := by
  unfold w_177_93 at h
  refine g_call [.ref 213, .int t1] [] rfl rfl rfl (Tot.imp h (fun v2 s1 h => ?_))
  obtain ⟨x3, rfl, h⟩ := h
  change Go _ _ _ _ _ _ [.int x3] _ _
  refine g_st [.ref 213, .int a1, .int a2, .int a3, .int x3, .null, .null, .null] rfl rfl rfl ?_
  refine g_ld rfl rfl rfl ?_
  refine g_get rfl rfl ?_
  change Go _ _ _ _ _ _ [.ref 227] _ _
  refine g_ld rfl rfl rfl ?_
  refine g_ld rfl rfl rfl ?_
  refine g_ias rfl rfl h.1 ?_
  replace h := h.2
  replace h := h _ rfl
  refine g_ld rfl rfl rfl ?_
  refine g_get rfl rfl ?_
  change Go _ _ _ _ _ _ [.ref 228] _ _
  refine g_ld rfl rfl rfl ?_
  refine g_ld rfl rfl rfl ?_
  refine g_ias rfl rfl h.1 ?_
  replace h := h.2
  replace h := h _ rfl
  refine g_ld rfl rfl rfl ?_
  refine g_get rfl rfl ?_
  change Go _ _ _ _ _ _ [.ref 223] _ _
  refine g_ld rfl rfl rfl ?_
  refine g_ld rfl rfl rfl ?_
  refine g_ias rfl rfl h.1 ?_
  replace h := h.2
  replace h := h _ rfl
  refine g_ld rfl rfl rfl ?_
  refine g_c [.ref 213, .ref 213] xo_dup rfl rfl ?_
  refine g_get rfl rfl ?_
  change Go _ _ _ _ _ _ [.int ((sa (sa (sa s1 227 (Int32.toNatClampNeg x3) a1) 228 (Int32.toNatClampNeg a1) x3) 223 (Int32.toNatClampNeg x3) a2).1 7), .ref 213] _ _
  refine g_c [.int 1, .int ((sa (sa (sa s1 227 (Int32.toNatClampNeg x3) a1) 228 (Int32.toNatClampNeg a1) x3) 223 (Int32.toNatClampNeg x3) a2).1 7), .ref 213] (xo_push (.int 1)) rfl rfl ?_
  refine g_c [.int (((sa (sa (sa s1 227 (Int32.toNatClampNeg x3) a1) 228 (Int32.toNatClampNeg a1) x3) 223 (Int32.toNatClampNeg x3) a2).1 7) + 1), .ref 213] xo_iadd rfl rfl ?_
  refine g_put rfl rfl rfl ?_
  replace h := h _ rfl
  refine g_ld rfl rfl rfl ?_
  refine g_brP rfl rfl ⟨fun hc => ?_, fun hc => ?_⟩
  · replace h := h.1 hc
    exact k_177_160  h
  · replace h := h.2 hc
    refine g_ld rfl rfl rfl ?_
    refine g_c [.int 91, .ref 213] (xo_push (.int 91)) rfl rfl ?_
    refine g_call [.ref 213, .int 91] [] rfl rfl rfl (Tot.imp h (fun v9 s8 h => ?_))
    obtain ⟨x10, rfl, h⟩ := h
    change Go _ _ _ _ _ _ [.int x10] _ _
    refine g_brP rfl rfl ⟨fun hc => ?_, fun hc => ?_⟩
    · replace h := h.1 hc
      exact k_177_136  h
    · replace h := h.2 hc
      refine g_ld rfl rfl rfl ?_
      refine g_call [.ref 213] [] rfl rfl rfl (Tot.imp h (fun v12 s11 h => ?_))
      obtain ⟨x13, rfl, h⟩ := h
      change Go _ _ _ _ _ _ [.int x13] _ _
      refine g_st [.ref 213, .int a1, .int a2, .int a3, .int x3, .int x13, .null, .null] rfl rfl rfl ?_
      refine g_ld rfl rfl rfl ?_
      refine g_get rfl rfl ?_
      change Go _ _ _ _ _ _ [.ref 229] _ _
      refine g_ld rfl rfl rfl ?_
      refine g_ld rfl rfl rfl ?_
      refine g_ias rfl rfl h.1 ?_
      replace h := h.2
      replace h := h _ rfl
      refine g_ld rfl rfl rfl ?_
      refine g_get rfl rfl ?_
      change Go _ _ _ _ _ _ [.ref 230] _ _
      refine g_ld rfl rfl rfl ?_
      refine g_ld rfl rfl rfl ?_
      refine g_get rfl rfl ?_
      change Go _ _ _ _ _ _ [.int ((sa s11 229 (Int32.toNatClampNeg x3) x13).1 28), .int x3, .ref 230] _ _
      refine g_ias rfl rfl h.1 ?_
      replace h := h.2
      replace h := h _ rfl
      refine g_fg 5 ?_
      exact k_177_136  h
def w_177_86 (T : Nat → List Value → yS → (Option Value → yS → Prop) → Prop)  (a1 : Int32) (a2 : Int32) (t0 : Int32) (s : yS) (P : Option Value → yS → Prop) : Prop :=
  (t0 = 0 → w_177_93 T  a1 a2 t0 3 s P) ∧ (¬ (t0 = 0) → w_177_93 T  a1 a2 t0 4 s P)
set_option maxRecDepth 20000 in
theorem k_177_86 {d : Nat}  {a1 : Int32} {a2 : Int32} {t0 : Int32} {s : yS} {P : Option Value → yS → Prop}  (h : w_177_86 (Tot d)  a1 a2 t0 s P) : Go d 6 (some .int) xE_177 (xE_177.drop 86) [.ref 213, .int a1, .int a2, .null, .null, .null, .null, .null] [.int t0] s P := by
  unfold w_177_86 at h
  refine g_st [.ref 213, .int a1, .int a2, .int t0, .null, .null, .null, .null] rfl rfl rfl ?_
  refine g_ld rfl rfl rfl ?_
  refine g_ld rfl rfl rfl ?_
  refine g_brP rfl rfl ⟨fun hc => ?_, fun hc => ?_⟩
  · replace h := h.1 hc
    refine g_c [.int 3, .ref 213] (xo_push (.int 3)) rfl rfl ?_
    exact k_177_93  h
  · replace h := h.2 hc
    refine g_c [.int 4, .ref 213] (xo_push (.int 4)) rfl rfl ?_
    refine g_go rfl ?_
    exact k_177_93  h
def w_177_85 (T : Nat → List Value → yS → (Option Value → yS → Prop) → Prop)  (a1 : Int32) (a2 : Int32) (s : yS) (P : Option Value → yS → Prop) : Prop :=
  w_177_86 T  a1 a2 0 s P
set_option maxRecDepth 20000 in
theorem k_177_85 {d : Nat}  {a1 : Int32} {a2 : Int32} {s : yS} {P : Option Value → yS → Prop}  (h : w_177_85 (Tot d)  a1 a2 s P) : Go d 6 (some .int) xE_177 (xE_177.drop 85) [.ref 213, .int a1, .int a2, .null, .null, .null, .null, .null] [] s P := by
  unfold w_177_85 at h
  refine g_c [.int 0] (xo_push (.int 0)) rfl rfl ?_
  exact k_177_86  h
def w_177_83 (T : Nat → List Value → yS → (Option Value → yS → Prop) → Prop)  (a1 : Int32) (a2 : Int32) (s : yS) (P : Option Value → yS → Prop) : Prop :=
  w_177_86 T  a1 a2 1 s P
set_option maxRecDepth 20000 in
theorem k_177_83 {d : Nat}  {a1 : Int32} {a2 : Int32} {s : yS} {P : Option Value → yS → Prop}  (h : w_177_83 (Tot d)  a1 a2 s P) : Go d 6 (some .int) xE_177 (xE_177.drop 83) [.ref 213, .int a1, .int a2, .null, .null, .null, .null, .null] [] s P := by
  unfold w_177_83 at h
  refine g_c [.int 1] (xo_push (.int 1)) rfl rfl ?_
  refine g_go rfl ?_
  exact k_177_86  h
def w_177_53 (T : Nat → List Value → yS → (Option Value → yS → Prop) → Prop)  (a1 : Int32) (a2 : Int32) (s : yS) (P : Option Value → yS → Prop) : Prop :=
  (¬ ((s.1 8) = 0) → w_177_85 T  a1 a2  s P) ∧ ((s.1 8) = 0 → xIn ((s.1 7) + 1) 12006 = true ∧ ((¬ ((s.2.1 215 (Int32.toNatClampNeg ((s.1 7) + 1))) = 3) → w_177_85 T  a1 a2  s P) ∧ ((s.2.1 215 (Int32.toNatClampNeg ((s.1 7) + 1))) = 3 → xIn ((s.1 7) + 1) 12006 = true ∧ (((s.2.1 217 (Int32.toNatClampNeg ((s.1 7) + 1))) = 40 → w_177_83 T  a1 a2  s P) ∧ (¬ ((s.2.1 217 (Int32.toNatClampNeg ((s.1 7) + 1))) = 40) → xIn ((s.1 7) + 1) 12006 = true ∧ ((¬ ((s.2.1 217 (Int32.toNatClampNeg ((s.1 7) + 1))) = 91) → w_177_85 T  a1 a2  s P) ∧ ((s.2.1 217 (Int32.toNatClampNeg ((s.1 7) + 1))) = 91 → w_177_83 T  a1 a2  s P)))))))
set_option maxRecDepth 20000 in
theorem k_177_53 {d : Nat}  {a1 : Int32} {a2 : Int32} {s : yS} {P : Option Value → yS → Prop}  (h : w_177_53 (Tot d)  a1 a2 s P) : Go d 6 (some .int) xE_177 (xE_177.drop 53) [.ref 213, .int a1, .int a2, .null, .null, .null, .null, .null] [] s P := by
  unfold w_177_53 at h
  refine g_ld rfl rfl rfl ?_
  refine g_get rfl rfl ?_
  change Go _ _ _ _ _ _ [.int (s.1 8)] _ _
  refine g_brN rfl rfl ⟨fun hc => ?_, fun hc => ?_⟩
  · replace h := h.1 hc
    exact k_177_85  h
  · replace h := h.2 hc
    refine g_ld rfl rfl rfl ?_
    refine g_get rfl rfl ?_
    change Go _ _ _ _ _ _ [.ref 215] _ _
    refine g_ld rfl rfl rfl ?_
    refine g_get rfl rfl ?_
    change Go _ _ _ _ _ _ [.int (s.1 7), .ref 215] _ _
    refine g_c [.int 1, .int (s.1 7), .ref 215] (xo_push (.int 1)) rfl rfl ?_
    refine g_c [.int ((s.1 7) + 1), .ref 215] xo_iadd rfl rfl ?_
    refine g_ial rfl rfl h.1 ?_
    replace h := h.2
    refine g_c [.int 3, .int (s.2.1 215 (Int32.toNatClampNeg ((s.1 7) + 1)))] (xo_push (.int 3)) rfl rfl ?_
    refine g_brN rfl rfl ⟨fun hc => ?_, fun hc => ?_⟩
    · replace h := h.1 hc
      exact k_177_85  h
    · replace h := h.2 hc
      refine g_ld rfl rfl rfl ?_
      refine g_get rfl rfl ?_
      change Go _ _ _ _ _ _ [.ref 217] _ _
      refine g_ld rfl rfl rfl ?_
      refine g_get rfl rfl ?_
      change Go _ _ _ _ _ _ [.int (s.1 7), .ref 217] _ _
      refine g_c [.int 1, .int (s.1 7), .ref 217] (xo_push (.int 1)) rfl rfl ?_
      refine g_c [.int ((s.1 7) + 1), .ref 217] xo_iadd rfl rfl ?_
      refine g_ial rfl rfl h.1 ?_
      replace h := h.2
      refine g_c [.int 40, .int (s.2.1 217 (Int32.toNatClampNeg ((s.1 7) + 1)))] (xo_push (.int 40)) rfl rfl ?_
      refine g_brP rfl rfl ⟨fun hc => ?_, fun hc => ?_⟩
      · replace h := h.1 hc
        exact k_177_83  h
      · replace h := h.2 hc
        refine g_ld rfl rfl rfl ?_
        refine g_get rfl rfl ?_
        change Go _ _ _ _ _ _ [.ref 217] _ _
        refine g_ld rfl rfl rfl ?_
        refine g_get rfl rfl ?_
        change Go _ _ _ _ _ _ [.int (s.1 7), .ref 217] _ _
        refine g_c [.int 1, .int (s.1 7), .ref 217] (xo_push (.int 1)) rfl rfl ?_
        refine g_c [.int ((s.1 7) + 1), .ref 217] xo_iadd rfl rfl ?_
        refine g_ial rfl rfl h.1 ?_
        replace h := h.2
        refine g_c [.int 91, .int (s.2.1 217 (Int32.toNatClampNeg ((s.1 7) + 1)))] (xo_push (.int 91)) rfl rfl ?_
        refine g_brN rfl rfl ⟨fun hc => ?_, fun hc => ?_⟩
        · replace h := h.1 hc
          exact k_177_85  h
        · replace h := h.2 hc
          exact k_177_83  h
def w_177_0 (T : Nat → List Value → yS → (Option Value → yS → Prop) → Prop)  (a1 : Int32) (s : yS) (P : Option Value → yS → Prop) : Prop :=
  ∀ s1, s1 = sf s 7 ((s.1 7) + 1) → T 168 [.ref 213, .int 40] s1 (fun v3 s2 => ∃ x4, v3 = some (.int x4) ∧ ((x4 = 0 → T 166 [.ref 213] s2 (fun v6 s5 => ∃ x7, v6 = some (.int x7) ∧ ((¬ (x7 = 0) → w_177_53 T  a1 (s.1 7)  s5 P) ∧ (x7 = 0 → T 163 [.ref 213, .int 1, .int (s5.1 7)] s5 (fun v9 s8 => v9 = none ∧ (w_177_53 T  a1 (s.1 7)  s8 P)))))) ∧ (¬ (x4 = 0) → T 171 [.ref 213, .int 5] s2 (fun v11 s10 => ∃ x12, v11 = some (.int x12) ∧ (xIn x12 12006 = true ∧ (∀ s13, s13 = sa s10 227 (Int32.toNatClampNeg x12) a1 → xIn a1 12006 = true ∧ (∀ s14, s14 = sa s13 228 (Int32.toNatClampNeg a1) x12 → xIn x12 12006 = true ∧ (∀ s15, s15 = sa s14 223 (Int32.toNatClampNeg x12) (s.1 7) → T 173 [.ref 213] s15 (fun v17 s16 => ∃ x18, v17 = some (.int x18) ∧ (xIn x12 12006 = true ∧ (∀ s19, s19 = sa s16 229 (Int32.toNatClampNeg x12) x18 → T 167 [.ref 213, .int 41] s19 (fun v21 s20 => v21 = none ∧ (P (some (.int x12)) s20)))))))))))))
set_option maxRecDepth 20000 in
theorem k_177_0 {d : Nat}  {a1 : Int32} {s : yS} {P : Option Value → yS → Prop}  (h : w_177_0 (Tot d)  a1 s P) : Go d 6 (some .int) xE_177 (xE_177.drop 0) [.ref 213, .int a1, .null, .null, .null, .null, .null, .null] [] s P := by
  unfold w_177_0 at h
  refine g_ld rfl rfl rfl ?_
  refine g_get rfl rfl ?_
  change Go _ _ _ _ _ _ [.int (s.1 7)] _ _
  refine g_st [.ref 213, .int a1, .int (s.1 7), .null, .null, .null, .null, .null] rfl rfl rfl ?_
  refine g_ld rfl rfl rfl ?_
  refine g_c [.ref 213, .ref 213] xo_dup rfl rfl ?_
  refine g_get rfl rfl ?_
  change Go _ _ _ _ _ _ [.int (s.1 7), .ref 213] _ _
  refine g_c [.int 1, .int (s.1 7), .ref 213] (xo_push (.int 1)) rfl rfl ?_
  refine g_c [.int ((s.1 7) + 1), .ref 213] xo_iadd rfl rfl ?_
  refine g_put rfl rfl rfl ?_
  replace h := h _ rfl
  refine g_ld rfl rfl rfl ?_
  refine g_c [.int 40, .ref 213] (xo_push (.int 40)) rfl rfl ?_
  refine g_call [.ref 213, .int 40] [] rfl rfl rfl (Tot.imp h (fun v3 s2 h => ?_))
  obtain ⟨x4, rfl, h⟩ := h
  change Go _ _ _ _ _ _ [.int x4] _ _
  refine g_brP rfl rfl ⟨fun hc => ?_, fun hc => ?_⟩
  · replace h := h.1 hc
    refine g_ld rfl rfl rfl ?_
    refine g_call [.ref 213] [] rfl rfl rfl (Tot.imp h (fun v6 s5 h => ?_))
    obtain ⟨x7, rfl, h⟩ := h
    change Go _ _ _ _ _ _ [.int x7] _ _
    refine g_brN rfl rfl ⟨fun hc => ?_, fun hc => ?_⟩
    · replace h := h.1 hc
      exact k_177_53  h
    · replace h := h.2 hc
      refine g_ld rfl rfl rfl ?_
      refine g_c [.int 1, .ref 213] (xo_push (.int 1)) rfl rfl ?_
      refine g_ld rfl rfl rfl ?_
      refine g_get rfl rfl ?_
      change Go _ _ _ _ _ _ [.int (s5.1 7), .int 1, .ref 213] _ _
      refine g_call [.ref 213, .int 1, .int (s5.1 7)] [] rfl rfl rfl (Tot.imp h (fun v9 s8 h => ?_))
      obtain ⟨rfl, h⟩ := h
      change Go _ _ _ _ _ _ [] _ _
      exact k_177_53  h
  · replace h := h.2 hc
    refine g_ld rfl rfl rfl ?_
    refine g_c [.int 5, .ref 213] (xo_push (.int 5)) rfl rfl ?_
    refine g_call [.ref 213, .int 5] [] rfl rfl rfl (Tot.imp h (fun v11 s10 h => ?_))
    obtain ⟨x12, rfl, h⟩ := h
    change Go _ _ _ _ _ _ [.int x12] _ _
    refine g_st [.ref 213, .int a1, .int (s.1 7), .int x12, .null, .null, .null, .null] rfl rfl rfl ?_
    refine g_ld rfl rfl rfl ?_
    refine g_get rfl rfl ?_
    change Go _ _ _ _ _ _ [.ref 227] _ _
    refine g_ld rfl rfl rfl ?_
    refine g_ld rfl rfl rfl ?_
    refine g_ias rfl rfl h.1 ?_
    replace h := h.2
    replace h := h _ rfl
    refine g_ld rfl rfl rfl ?_
    refine g_get rfl rfl ?_
    change Go _ _ _ _ _ _ [.ref 228] _ _
    refine g_ld rfl rfl rfl ?_
    refine g_ld rfl rfl rfl ?_
    refine g_ias rfl rfl h.1 ?_
    replace h := h.2
    replace h := h _ rfl
    refine g_ld rfl rfl rfl ?_
    refine g_get rfl rfl ?_
    change Go _ _ _ _ _ _ [.ref 223] _ _
    refine g_ld rfl rfl rfl ?_
    refine g_ld rfl rfl rfl ?_
    refine g_ias rfl rfl h.1 ?_
    replace h := h.2
    replace h := h _ rfl
    refine g_ld rfl rfl rfl ?_
    refine g_call [.ref 213] [] rfl rfl rfl (Tot.imp h (fun v17 s16 h => ?_))
    obtain ⟨x18, rfl, h⟩ := h
    change Go _ _ _ _ _ _ [.int x18] _ _
    refine g_st [.ref 213, .int a1, .int (s.1 7), .int x12, .int x18, .null, .null, .null] rfl rfl rfl ?_
    refine g_ld rfl rfl rfl ?_
    refine g_get rfl rfl ?_
    change Go _ _ _ _ _ _ [.ref 229] _ _
    refine g_ld rfl rfl rfl ?_
    refine g_ld rfl rfl rfl ?_
    refine g_ias rfl rfl h.1 ?_
    replace h := h.2
    replace h := h _ rfl
    refine g_ld rfl rfl rfl ?_
    refine g_c [.int 41, .ref 213] (xo_push (.int 41)) rfl rfl ?_
    refine g_call [.ref 213, .int 41] [] rfl rfl rfl (Tot.imp h (fun v21 s20 h => ?_))
    obtain ⟨rfl, h⟩ := h
    change Go _ _ _ _ _ _ [] _ _
    refine g_ld rfl rfl rfl ?_
    exact g_retI rfl h
theorem t_177 {d : Nat} {a1 : Int32} {s : yS} {P : Option Value → yS → Prop} (h : w_177_0 (Tot d) a1 s P) : Tot (d + 1) 177 [.ref 213, .int a1] s P := tot_of (E := xE_177) (ml := 6) (ret := some .int) rfl rfl rfl (k_177_0 h)
/-! firstOf -/
def w_178_31 (T : Nat → List Value → yS → (Option Value → yS → Prop) → Prop)  (a1 : Int32) (a2 : Int32) (t0 : Int32) (s : yS) (P : Option Value → yS → Prop) : Prop :=
  P (some (.int t0)) s
set_option maxRecDepth 20000 in
theorem k_178_31 {d : Nat}  {a1 : Int32} {a2 : Int32} {t0 : Int32} {s : yS} {P : Option Value → yS → Prop}  (h : w_178_31 (Tot d)  a1 a2 t0 s P) : Go d 3 (some .int) xE_178 (xE_178.drop 31) [.ref 213, .int a1, .int a2, .null, .null] [.int t0] s P := by
  unfold w_178_31 at h
  exact g_retI rfl h
def w_178_2 (T : Nat → List Value → yS → (Option Value → yS → Prop) → Prop) (R2 : Int32 → Int32 → yS → Prop) (a1 : Int32) (a2 : Int32) (s : yS) (P : Option Value → yS → Prop) : Prop :=
  xIn a2 12006 = true ∧ (((s.2.1 227 (Int32.toNatClampNeg a2)) < 0 → xIn a2 12006 = true ∧ ((¬ ((s.2.1 221 (Int32.toNatClampNeg a2)) = 2) → xIn a2 12006 = true ∧ (w_178_31 T  a1 a2 (s.2.1 222 (Int32.toNatClampNeg a2)) s P)) ∧ ((s.2.1 221 (Int32.toNatClampNeg a2)) = 2 → xIn a2 12006 = true ∧ (xIn (s.2.1 229 (Int32.toNatClampNeg a2)) 12006 = true ∧ (w_178_31 T  a1 a2 (s.2.1 222 (Int32.toNatClampNeg (s.2.1 229 (Int32.toNatClampNeg a2)))) s P))))) ∧ (¬ ((s.2.1 227 (Int32.toNatClampNeg a2)) < 0) → xIn a2 12006 = true ∧ (R2 a1 (s.2.1 227 (Int32.toNatClampNeg a2))  s)))
set_option maxRecDepth 20000 in
theorem k_178_2 {d : Nat} {R2 : Int32 → Int32 → yS → Prop} {a1 : Int32} {a2 : Int32} {s : yS} {P : Option Value → yS → Prop} (r2 : ∀ a1 a2 s, R2 a1 a2 s → Go d 3 (some .int) xE_178 (xE_178.drop 2) [.ref 213, .int a1, .int a2, .null, .null] [] s P) (h : w_178_2 (Tot d) R2 a1 a2 s P) : Go d 3 (some .int) xE_178 (xE_178.drop 2) [.ref 213, .int a1, .int a2, .null, .null] [] s P := by
  unfold w_178_2 at h
  refine g_ld rfl rfl rfl ?_
  refine g_get rfl rfl ?_
  change Go _ _ _ _ _ _ [.ref 227] _ _
  refine g_ld rfl rfl rfl ?_
  refine g_ial rfl rfl h.1 ?_
  replace h := h.2
  refine g_brP rfl rfl ⟨fun hc => ?_, fun hc => ?_⟩
  · replace h := h.1 hc
    refine g_ld rfl rfl rfl ?_
    refine g_get rfl rfl ?_
    change Go _ _ _ _ _ _ [.ref 221] _ _
    refine g_ld rfl rfl rfl ?_
    refine g_ial rfl rfl h.1 ?_
    replace h := h.2
    refine g_c [.int 2, .int (s.2.1 221 (Int32.toNatClampNeg a2))] (xo_push (.int 2)) rfl rfl ?_
    refine g_brN rfl rfl ⟨fun hc => ?_, fun hc => ?_⟩
    · replace h := h.1 hc
      refine g_ld rfl rfl rfl ?_
      refine g_get rfl rfl ?_
      change Go _ _ _ _ _ _ [.ref 222] _ _
      refine g_ld rfl rfl rfl ?_
      refine g_ial rfl rfl h.1 ?_
      replace h := h.2
      exact k_178_31  h
    · replace h := h.2 hc
      refine g_ld rfl rfl rfl ?_
      refine g_get rfl rfl ?_
      change Go _ _ _ _ _ _ [.ref 222] _ _
      refine g_ld rfl rfl rfl ?_
      refine g_get rfl rfl ?_
      change Go _ _ _ _ _ _ [.ref 229, .ref 222] _ _
      refine g_ld rfl rfl rfl ?_
      refine g_ial rfl rfl h.1 ?_
      replace h := h.2
      refine g_ial rfl rfl h.1 ?_
      replace h := h.2
      refine g_go rfl ?_
      exact k_178_31  h
  · replace h := h.2 hc
    refine g_ld rfl rfl rfl ?_
    refine g_get rfl rfl ?_
    change Go _ _ _ _ _ _ [.ref 227] _ _
    refine g_ld rfl rfl rfl ?_
    refine g_ial rfl rfl h.1 ?_
    replace h := h.2
    refine g_st [.ref 213, .int a1, .int (s.2.1 227 (Int32.toNatClampNeg a2)), .null, .null] rfl rfl rfl ?_
    refine g_go rfl ?_
    exact r2 a1 (s.2.1 227 (Int32.toNatClampNeg a2))  s h
def wl_178_2 (T : Nat → List Value → yS → (Option Value → yS → Prop) → Prop)  (a1 : Int32) (a2 : Int32) (s : yS) (P : Option Value → yS → Prop) : Prop :=
  ∃ (I : Int32 → Int32 → yS → Prop) (μ : Int32 → Int32 → yS → Nat), I a1 a2 s ∧ ∀ (a1 : Int32) (a2 : Int32) (s : yS), I a1 a2 s → w_178_2 T (fun a1' a2' s' => I a1' a2' s' ∧ μ a1' a2' s' < μ a1 a2 s) a1 a2 s P
theorem kl_178_2 {d : Nat}  {a1 : Int32} {a2 : Int32} {s : yS} {P : Option Value → yS → Prop}  (h : wl_178_2 (Tot d)  a1 a2 s P) : Go d 3 (some .int) xE_178 (xE_178.drop 2) [.ref 213, .int a1, .int a2, .null, .null] [] s P := by
  obtain ⟨I, μ, h0, h1⟩ := h
  have key : ∀ (n : Nat) (a1 : Int32) (a2 : Int32) (s : yS), μ a1 a2 s = n → I a1 a2 s → Go d 3 (some .int) xE_178 (xE_178.drop 2) [.ref 213, .int a1, .int a2, .null, .null] [] s P := by
    intro n
    induction n using Nat.strongRecOn with
    | ind n ih =>
      intro a1 a2 s e hI
      exact k_178_2 (fun a1' a2' s' q => ih _ (by rw [← e]; exact q.2) _ _ _ rfl q.1) (h1 a1 a2 s hI)
  exact key _ a1 a2 s rfl h0
def w_178_0 (T : Nat → List Value → yS → (Option Value → yS → Prop) → Prop)  (a1 : Int32) (s : yS) (P : Option Value → yS → Prop) : Prop :=
  wl_178_2 T  a1 a1  s P
set_option maxRecDepth 20000 in
theorem k_178_0 {d : Nat}  {a1 : Int32} {s : yS} {P : Option Value → yS → Prop}  (h : w_178_0 (Tot d)  a1 s P) : Go d 3 (some .int) xE_178 (xE_178.drop 0) [.ref 213, .int a1, .null, .null, .null] [] s P := by
  unfold w_178_0 at h
  refine g_ld rfl rfl rfl ?_
  refine g_st [.ref 213, .int a1, .int a1, .null, .null] rfl rfl rfl ?_
  exact kl_178_2  h
theorem t_178 {d : Nat} {a1 : Int32} {s : yS} {P : Option Value → yS → Prop} (h : w_178_0 (Tot d) a1 s P) : Tot (d + 1) 178 [.ref 213, .int a1] s P := tot_of (E := xE_178) (ml := 3) (ret := some .int) rfl rfl rfl (k_178_0 h)
/-! readAll -/
def w_179_62 (T : Nat → List Value → yS → (Option Value → yS → Prop) → Prop)   (s : yS) (P : Option Value → yS → Prop) : Prop :=
  P none s
set_option maxRecDepth 20000 in
theorem k_179_62 {d : Nat}   {s : yS} {P : Option Value → yS → Prop}  (h : w_179_62 (Tot d)   s P) : Go d 1 (none) xE_179 (xE_179.drop 62) [.ref 213, .null] [] s P := by
  unfold w_179_62 at h
  exact g_ret0 rfl h
def w_179_44 (T : Nat → List Value → yS → (Option Value → yS → Prop) → Prop)  (t1 : Int32) (t2 : Int32) (s : yS) (P : Option Value → yS → Prop) : Prop :=
  xIn t1 2 = true ∧ (∀ s1, s1 = sa s 259 (Int32.toNatClampNeg t1) t2 → T 167 [.ref 213, .int 59] s1 (fun v3 s2 => v3 = none ∧ ((¬ ((s2.1 8) = 0) → w_179_62 T    s2 P) ∧ ((s2.1 8) = 0 → xIn (s2.1 7) 12006 = true ∧ (((s2.2.1 215 (Int32.toNatClampNeg (s2.1 7))) = 0 → w_179_62 T    s2 P) ∧ (¬ ((s2.2.1 215 (Int32.toNatClampNeg (s2.1 7))) = 0) → T 163 [.ref 213, .int 1, .int (s2.1 7)] s2 (fun v5 s4 => v5 = none ∧ (w_179_62 T    s4 P))))))))
set_option maxRecDepth 20000 in
theorem k_179_44 {d : Nat}  {t1 : Int32} {t2 : Int32} {s : yS} {P : Option Value → yS → Prop}  (h : w_179_44 (Tot d)  t1 t2 s P) : Go d 1 (none) xE_179 (xE_179.drop 44) [.ref 213, .null] [.int t2, .int t1, .ref 259] s P := by
  unfold w_179_44 at h
  refine g_ias rfl rfl h.1 ?_
  replace h := h.2
  replace h := h _ rfl
  refine g_ld rfl rfl rfl ?_
  refine g_c [.int 59, .ref 213] (xo_push (.int 59)) rfl rfl ?_
  refine g_call [.ref 213, .int 59] [] rfl rfl rfl (Tot.imp h (fun v3 s2 h => ?_))
  obtain ⟨rfl, h⟩ := h
  change Go _ _ _ _ _ _ [] _ _
  refine g_ld rfl rfl rfl ?_
  refine g_get rfl rfl ?_
  change Go _ _ _ _ _ _ [.int (s2.1 8)] _ _
  refine g_brN rfl rfl ⟨fun hc => ?_, fun hc => ?_⟩
  · replace h := h.1 hc
    exact k_179_62  h
  · replace h := h.2 hc
    refine g_ld rfl rfl rfl ?_
    refine g_get rfl rfl ?_
    change Go _ _ _ _ _ _ [.ref 215] _ _
    refine g_ld rfl rfl rfl ?_
    refine g_get rfl rfl ?_
    change Go _ _ _ _ _ _ [.int (s2.1 7), .ref 215] _ _
    refine g_ial rfl rfl h.1 ?_
    replace h := h.2
    refine g_brP rfl rfl ⟨fun hc => ?_, fun hc => ?_⟩
    · replace h := h.1 hc
      exact k_179_62  h
    · replace h := h.2 hc
      refine g_ld rfl rfl rfl ?_
      refine g_c [.int 1, .ref 213] (xo_push (.int 1)) rfl rfl ?_
      refine g_ld rfl rfl rfl ?_
      refine g_get rfl rfl ?_
      change Go _ _ _ _ _ _ [.int (s2.1 7), .int 1, .ref 213] _ _
      refine g_call [.ref 213, .int 1, .int (s2.1 7)] [] rfl rfl rfl (Tot.imp h (fun v5 s4 h => ?_))
      obtain ⟨rfl, h⟩ := h
      change Go _ _ _ _ _ _ [] _ _
      exact k_179_62  h
def w_179_27 (T : Nat → List Value → yS → (Option Value → yS → Prop) → Prop)   (s : yS) (P : Option Value → yS → Prop) : Prop :=
  T 169 [.ref 213, .int 5] s (fun v2 s1 => v2 = none ∧ (∀ s3, s3 = sf s1 27 0 → (¬ ((s3.1 8) = 0) → w_179_44 T   (s3.1 30) (-1) s3 P) ∧ ((s3.1 8) = 0 → T 175 [.ref 213] s3 (fun v5 s4 => ∃ x6, v5 = some (.int x6) ∧ (w_179_44 T   (s3.1 30) x6 s4 P)))))
set_option maxRecDepth 20000 in
theorem k_179_27 {d : Nat}   {s : yS} {P : Option Value → yS → Prop}  (h : w_179_27 (Tot d)   s P) : Go d 1 (none) xE_179 (xE_179.drop 27) [.ref 213, .null] [] s P := by
  unfold w_179_27 at h
  refine g_ld rfl rfl rfl ?_
  refine g_c [.int 5, .ref 213] (xo_push (.int 5)) rfl rfl ?_
  refine g_call [.ref 213, .int 5] [] rfl rfl rfl (Tot.imp h (fun v2 s1 h => ?_))
  obtain ⟨rfl, h⟩ := h
  change Go _ _ _ _ _ _ [] _ _
  refine g_ld rfl rfl rfl ?_
  refine g_c [.int 0, .ref 213] (xo_push (.int 0)) rfl rfl ?_
  refine g_put rfl rfl rfl ?_
  replace h := h _ rfl
  refine g_ld rfl rfl rfl ?_
  refine g_get rfl rfl ?_
  change Go _ _ _ _ _ _ [.ref 259] _ _
  refine g_ld rfl rfl rfl ?_
  refine g_get rfl rfl ?_
  change Go _ _ _ _ _ _ [.int ((sf s1 27 0).1 30), .ref 259] _ _
  refine g_ld rfl rfl rfl ?_
  refine g_get rfl rfl ?_
  change Go _ _ _ _ _ _ [.int ((sf s1 27 0).1 8), .int ((sf s1 27 0).1 30), .ref 259] _ _
  refine g_brN rfl rfl ⟨fun hc => ?_, fun hc => ?_⟩
  · replace h := h.1 hc
    refine g_c [.int (-1), .int ((sf s1 27 0).1 30), .ref 259] (xo_push (.int (-1))) rfl rfl ?_
    exact k_179_44  h
  · replace h := h.2 hc
    refine g_ld rfl rfl rfl ?_
    refine g_call [.ref 213] [.int ((sf s1 27 0).1 30), .ref 259] rfl rfl rfl (Tot.imp h (fun v5 s4 h => ?_))
    obtain ⟨x6, rfl, h⟩ := h
    change Go _ _ _ _ _ _ [.int x6, .int ((sf s1 27 0).1 30), .ref 259] _ _
    refine g_go rfl ?_
    exact k_179_44  h
def w_179_0 (T : Nat → List Value → yS → (Option Value → yS → Prop) → Prop) (R0 : yS → Prop)  (s : yS) (P : Option Value → yS → Prop) : Prop :=
  (¬ ((s.1 8) = 0) → w_179_27 T    s P) ∧ ((s.1 8) = 0 → T 165 [.ref 213, .int 5] s (fun v2 s1 => ∃ x3, v2 = some (.int x3) ∧ ((¬ (x3 = 0) → w_179_27 T    s1 P) ∧ (x3 = 0 → T 165 [.ref 213, .int 0] s1 (fun v5 s4 => ∃ x6, v5 = some (.int x6) ∧ ((x6 = 0 → T 165 [.ref 213, .int 3] s4 (fun v8 s7 => ∃ x9, v8 = some (.int x9) ∧ ((x9 = 0 → T 163 [.ref 213, .int 1, .int (s7.1 7)] s7 (fun v11 s10 => v11 = none ∧ (R0   s10))) ∧ (¬ (x9 = 0) → T 184 [.ref 213] s7 (fun v13 s12 => v13 = none ∧ (R0   s12)))))) ∧ (¬ (x6 = 0) → T 180 [.ref 213] s4 (fun v15 s14 => v15 = none ∧ (R0   s14)))))))))
set_option maxRecDepth 20000 in
theorem k_179_0 {d : Nat} {R0 : yS → Prop}  {s : yS} {P : Option Value → yS → Prop} (r0 : ∀  s, R0  s → Go d 1 (none) xE_179 (xE_179.drop 0) [.ref 213, .null] [] s P) (h : w_179_0 (Tot d) R0  s P) : Go d 1 (none) xE_179 (xE_179.drop 0) [.ref 213, .null] [] s P := by
  unfold w_179_0 at h
  refine g_ld rfl rfl rfl ?_
  refine g_get rfl rfl ?_
  change Go _ _ _ _ _ _ [.int (s.1 8)] _ _
  refine g_brN rfl rfl ⟨fun hc => ?_, fun hc => ?_⟩
  · replace h := h.1 hc
    exact k_179_27  h
  · replace h := h.2 hc
    refine g_ld rfl rfl rfl ?_
    refine g_c [.int 5, .ref 213] (xo_push (.int 5)) rfl rfl ?_
    refine g_call [.ref 213, .int 5] [] rfl rfl rfl (Tot.imp h (fun v2 s1 h => ?_))
    obtain ⟨x3, rfl, h⟩ := h
    change Go _ _ _ _ _ _ [.int x3] _ _
    refine g_brN rfl rfl ⟨fun hc => ?_, fun hc => ?_⟩
    · replace h := h.1 hc
      exact k_179_27  h
    · replace h := h.2 hc
      refine g_ld rfl rfl rfl ?_
      refine g_c [.int 0, .ref 213] (xo_push (.int 0)) rfl rfl ?_
      refine g_call [.ref 213, .int 0] [] rfl rfl rfl (Tot.imp h (fun v5 s4 h => ?_))
      obtain ⟨x6, rfl, h⟩ := h
      change Go _ _ _ _ _ _ [.int x6] _ _
      refine g_brP rfl rfl ⟨fun hc => ?_, fun hc => ?_⟩
      · replace h := h.1 hc
        refine g_ld rfl rfl rfl ?_
        refine g_c [.int 3, .ref 213] (xo_push (.int 3)) rfl rfl ?_
        refine g_call [.ref 213, .int 3] [] rfl rfl rfl (Tot.imp h (fun v8 s7 h => ?_))
        obtain ⟨x9, rfl, h⟩ := h
        change Go _ _ _ _ _ _ [.int x9] _ _
        refine g_brP rfl rfl ⟨fun hc => ?_, fun hc => ?_⟩
        · replace h := h.1 hc
          refine g_ld rfl rfl rfl ?_
          refine g_c [.int 1, .ref 213] (xo_push (.int 1)) rfl rfl ?_
          refine g_ld rfl rfl rfl ?_
          refine g_get rfl rfl ?_
          change Go _ _ _ _ _ _ [.int (s7.1 7), .int 1, .ref 213] _ _
          refine g_call [.ref 213, .int 1, .int (s7.1 7)] [] rfl rfl rfl (Tot.imp h (fun v11 s10 h => ?_))
          obtain ⟨rfl, h⟩ := h
          change Go _ _ _ _ _ _ [] _ _
          refine g_go rfl ?_
          exact r0   s10 h
        · replace h := h.2 hc
          refine g_ld rfl rfl rfl ?_
          refine g_call [.ref 213] [] rfl rfl rfl (Tot.imp h (fun v13 s12 h => ?_))
          obtain ⟨rfl, h⟩ := h
          change Go _ _ _ _ _ _ [] _ _
          refine g_go rfl ?_
          exact r0   s12 h
      · replace h := h.2 hc
        refine g_ld rfl rfl rfl ?_
        refine g_call [.ref 213] [] rfl rfl rfl (Tot.imp h (fun v15 s14 h => ?_))
        obtain ⟨rfl, h⟩ := h
        change Go _ _ _ _ _ _ [] _ _
        refine g_go rfl ?_
        exact r0   s14 h
def wl_179_0 (T : Nat → List Value → yS → (Option Value → yS → Prop) → Prop)   (s : yS) (P : Option Value → yS → Prop) : Prop :=
  ∃ (I : yS → Prop) (μ : yS → Nat), I  s ∧ ∀  (s : yS), I  s → w_179_0 T (fun  s' => I  s' ∧ μ  s' < μ  s)  s P
theorem kl_179_0 {d : Nat}   {s : yS} {P : Option Value → yS → Prop}  (h : wl_179_0 (Tot d)   s P) : Go d 1 (none) xE_179 (xE_179.drop 0) [.ref 213, .null] [] s P := by
  obtain ⟨I, μ, h0, h1⟩ := h
  have key : ∀ (n : Nat)  (s : yS), μ  s = n → I  s → Go d 1 (none) xE_179 (xE_179.drop 0) [.ref 213, .null] [] s P := by
    intro n
    induction n using Nat.strongRecOn with
    | ind n ih =>
      intro  s e hI
      exact k_179_0 (fun s' q => ih _ (by rw [← e]; exact q.2) _ rfl q.1) (h1  s hI)
  exact key _  s rfl h0
theorem t_179 {d : Nat}  {s : yS} {P : Option Value → yS → Prop} (h : wl_179_0 (Tot d)  s P) : Tot (d + 1) 179 [.ref 213] s P := tot_of (E := xE_179) (ml := 1) (ret := none) rfl rfl rfl (kl_179_0 h)
/-! readType -/
def w_180_145 (T : Nat → List Value → yS → (Option Value → yS → Prop) → Prop)  (a1 : Int32) (s : yS) (P : Option Value → yS → Prop) : Prop :=
  T 167 [.ref 213, .int 125] s (fun v2 s1 => v2 = none ∧ (xIn (s1.1 30) 2 = true ∧ (xIn (s1.1 30) 2 = true ∧ (xIn ((84 * (s1.1 30)) + (s1.2.1 263 (Int32.toNatClampNeg (s1.1 30)))) 168 = true ∧ (∀ s3, s3 = sa s1 262 (Int32.toNatClampNeg ((84 * (s1.1 30)) + (s1.2.1 263 (Int32.toNatClampNeg (s1.1 30))))) (s1.2.1 233 (Int32.toNatClampNeg (s1.1 30))) → xIn (s3.1 30) 2 = true ∧ (xIn (s3.1 30) 2 = true ∧ (∀ s4, s4 = sa s3 263 (Int32.toNatClampNeg (s3.1 30)) ((s3.2.1 263 (Int32.toNatClampNeg (s3.1 30))) + 1) → xIn (s4.1 30) 2 = true ∧ (xIn (s4.1 30) 2 = true ∧ (∀ s5, s5 = sa s4 233 (Int32.toNatClampNeg (s4.1 30)) ((s4.2.1 233 (Int32.toNatClampNeg (s4.1 30))) + 1) → P none s5)))))))))
set_option maxRecDepth 20000 in
theorem k_180_145 {d : Nat}  {a1 : Int32} {s : yS} {P : Option Value → yS → Prop}  (h : w_180_145 (Tot d)  a1 s P) : Go d 2 (none) xE_180 (xE_180.drop 145) [.ref 213, .int a1, .null] [] s P := by
  unfold w_180_145 at h
  refine g_ld rfl rfl rfl ?_
  refine g_c [.int 125, .ref 213] (xo_push (.int 125)) rfl rfl ?_
  refine g_call [.ref 213, .int 125] [] rfl rfl rfl (Tot.imp h (fun v2 s1 h => ?_))
  obtain ⟨rfl, h⟩ := h
  change Go _ _ _ _ _ _ [] _ _
  refine g_ld rfl rfl rfl ?_
  refine g_get rfl rfl ?_
  change Go _ _ _ _ _ _ [.ref 262] _ _
  refine g_c [.int 84, .ref 262] (xo_push (.int 84)) rfl rfl ?_
  refine g_ld rfl rfl rfl ?_
  refine g_get rfl rfl ?_
  change Go _ _ _ _ _ _ [.int (s1.1 30), .int 84, .ref 262] _ _
  refine g_c [.int (84 * (s1.1 30)), .ref 262] xo_imul rfl rfl ?_
  refine g_ld rfl rfl rfl ?_
  refine g_get rfl rfl ?_
  change Go _ _ _ _ _ _ [.ref 263, .int (84 * (s1.1 30)), .ref 262] _ _
  refine g_ld rfl rfl rfl ?_
  refine g_get rfl rfl ?_
  change Go _ _ _ _ _ _ [.int (s1.1 30), .ref 263, .int (84 * (s1.1 30)), .ref 262] _ _
  refine g_ial rfl rfl h.1 ?_
  replace h := h.2
  refine g_c [.int ((84 * (s1.1 30)) + (s1.2.1 263 (Int32.toNatClampNeg (s1.1 30)))), .ref 262] xo_iadd rfl rfl ?_
  refine g_ld rfl rfl rfl ?_
  refine g_get rfl rfl ?_
  change Go _ _ _ _ _ _ [.ref 233, .int ((84 * (s1.1 30)) + (s1.2.1 263 (Int32.toNatClampNeg (s1.1 30)))), .ref 262] _ _
  refine g_ld rfl rfl rfl ?_
  refine g_get rfl rfl ?_
  change Go _ _ _ _ _ _ [.int (s1.1 30), .ref 233, .int ((84 * (s1.1 30)) + (s1.2.1 263 (Int32.toNatClampNeg (s1.1 30)))), .ref 262] _ _
  refine g_ial rfl rfl h.1 ?_
  replace h := h.2
  refine g_ias rfl rfl h.1 ?_
  replace h := h.2
  replace h := h _ rfl
  refine g_ld rfl rfl rfl ?_
  refine g_get rfl rfl ?_
  change Go _ _ _ _ _ _ [.ref 263] _ _
  refine g_ld rfl rfl rfl ?_
  refine g_get rfl rfl ?_
  change Go _ _ _ _ _ _ [.int ((sa s1 262 (Int32.toNatClampNeg ((84 * (s1.1 30)) + (s1.2.1 263 (Int32.toNatClampNeg (s1.1 30))))) (s1.2.1 233 (Int32.toNatClampNeg (s1.1 30)))).1 30), .ref 263] _ _
  refine g_c [.int ((sa s1 262 (Int32.toNatClampNeg ((84 * (s1.1 30)) + (s1.2.1 263 (Int32.toNatClampNeg (s1.1 30))))) (s1.2.1 233 (Int32.toNatClampNeg (s1.1 30)))).1 30), .ref 263, .int ((sa s1 262 (Int32.toNatClampNeg ((84 * (s1.1 30)) + (s1.2.1 263 (Int32.toNatClampNeg (s1.1 30))))) (s1.2.1 233 (Int32.toNatClampNeg (s1.1 30)))).1 30), .ref 263] xo_dup2 rfl rfl ?_
  refine g_ial rfl rfl h.1 ?_
  replace h := h.2
  refine g_c [.int 1, .int ((sa s1 262 (Int32.toNatClampNeg ((84 * (s1.1 30)) + (s1.2.1 263 (Int32.toNatClampNeg (s1.1 30))))) (s1.2.1 233 (Int32.toNatClampNeg (s1.1 30)))).2.1 263 (Int32.toNatClampNeg ((sa s1 262 (Int32.toNatClampNeg ((84 * (s1.1 30)) + (s1.2.1 263 (Int32.toNatClampNeg (s1.1 30))))) (s1.2.1 233 (Int32.toNatClampNeg (s1.1 30)))).1 30))), .int ((sa s1 262 (Int32.toNatClampNeg ((84 * (s1.1 30)) + (s1.2.1 263 (Int32.toNatClampNeg (s1.1 30))))) (s1.2.1 233 (Int32.toNatClampNeg (s1.1 30)))).1 30), .ref 263] (xo_push (.int 1)) rfl rfl ?_
  refine g_c [.int (((sa s1 262 (Int32.toNatClampNeg ((84 * (s1.1 30)) + (s1.2.1 263 (Int32.toNatClampNeg (s1.1 30))))) (s1.2.1 233 (Int32.toNatClampNeg (s1.1 30)))).2.1 263 (Int32.toNatClampNeg ((sa s1 262 (Int32.toNatClampNeg ((84 * (s1.1 30)) + (s1.2.1 263 (Int32.toNatClampNeg (s1.1 30))))) (s1.2.1 233 (Int32.toNatClampNeg (s1.1 30)))).1 30))) + 1), .int ((sa s1 262 (Int32.toNatClampNeg ((84 * (s1.1 30)) + (s1.2.1 263 (Int32.toNatClampNeg (s1.1 30))))) (s1.2.1 233 (Int32.toNatClampNeg (s1.1 30)))).1 30), .ref 263] xo_iadd rfl rfl ?_
  refine g_ias rfl rfl h.1 ?_
  replace h := h.2
  replace h := h _ rfl
  refine g_ld rfl rfl rfl ?_
  refine g_get rfl rfl ?_
  change Go _ _ _ _ _ _ [.ref 233] _ _
  refine g_ld rfl rfl rfl ?_
  refine g_get rfl rfl ?_
  change Go _ _ _ _ _ _ [.int ((sa (sa s1 262 (Int32.toNatClampNeg ((84 * (s1.1 30)) + (s1.2.1 263 (Int32.toNatClampNeg (s1.1 30))))) (s1.2.1 233 (Int32.toNatClampNeg (s1.1 30)))) 263 (Int32.toNatClampNeg ((sa s1 262 (Int32.toNatClampNeg ((84 * (s1.1 30)) + (s1.2.1 263 (Int32.toNatClampNeg (s1.1 30))))) (s1.2.1 233 (Int32.toNatClampNeg (s1.1 30)))).1 30)) (((sa s1 262 (Int32.toNatClampNeg ((84 * (s1.1 30)) + (s1.2.1 263 (Int32.toNatClampNeg (s1.1 30))))) (s1.2.1 233 (Int32.toNatClampNeg (s1.1 30)))).2.1 263 (Int32.toNatClampNeg ((sa s1 262 (Int32.toNatClampNeg ((84 * (s1.1 30)) + (s1.2.1 263 (Int32.toNatClampNeg (s1.1 30))))) (s1.2.1 233 (Int32.toNatClampNeg (s1.1 30)))).1 30))) + 1)).1 30), .ref 233] _ _
  refine g_c [.int ((sa (sa s1 262 (Int32.toNatClampNeg ((84 * (s1.1 30)) + (s1.2.1 263 (Int32.toNatClampNeg (s1.1 30))))) (s1.2.1 233 (Int32.toNatClampNeg (s1.1 30)))) 263 (Int32.toNatClampNeg ((sa s1 262 (Int32.toNatClampNeg ((84 * (s1.1 30)) + (s1.2.1 263 (Int32.toNatClampNeg (s1.1 30))))) (s1.2.1 233 (Int32.toNatClampNeg (s1.1 30)))).1 30)) (((sa s1 262 (Int32.toNatClampNeg ((84 * (s1.1 30)) + (s1.2.1 263 (Int32.toNatClampNeg (s1.1 30))))) (s1.2.1 233 (Int32.toNatClampNeg (s1.1 30)))).2.1 263 (Int32.toNatClampNeg ((sa s1 262 (Int32.toNatClampNeg ((84 * (s1.1 30)) + (s1.2.1 263 (Int32.toNatClampNeg (s1.1 30))))) (s1.2.1 233 (Int32.toNatClampNeg (s1.1 30)))).1 30))) + 1)).1 30), .ref 233, .int ((sa (sa s1 262 (Int32.toNatClampNeg ((84 * (s1.1 30)) + (s1.2.1 263 (Int32.toNatClampNeg (s1.1 30))))) (s1.2.1 233 (Int32.toNatClampNeg (s1.1 30)))) 263 (Int32.toNatClampNeg ((sa s1 262 (Int32.toNatClampNeg ((84 * (s1.1 30)) + (s1.2.1 263 (Int32.toNatClampNeg (s1.1 30))))) (s1.2.1 233 (Int32.toNatClampNeg (s1.1 30)))).1 30)) (((sa s1 262 (Int32.toNatClampNeg ((84 * (s1.1 30)) + (s1.2.1 263 (Int32.toNatClampNeg (s1.1 30))))) (s1.2.1 233 (Int32.toNatClampNeg (s1.1 30)))).2.1 263 (Int32.toNatClampNeg ((sa s1 262 (Int32.toNatClampNeg ((84 * (s1.1 30)) + (s1.2.1 263 (Int32.toNatClampNeg (s1.1 30))))) (s1.2.1 233 (Int32.toNatClampNeg (s1.1 30)))).1 30))) + 1)).1 30), .ref 233] xo_dup2 rfl rfl ?_
  refine g_ial rfl rfl h.1 ?_
  replace h := h.2
  refine g_c [.int 1, .int ((sa (sa s1 262 (Int32.toNatClampNeg ((84 * (s1.1 30)) + (s1.2.1 263 (Int32.toNatClampNeg (s1.1 30))))) (s1.2.1 233 (Int32.toNatClampNeg (s1.1 30)))) 263 (Int32.toNatClampNeg ((sa s1 262 (Int32.toNatClampNeg ((84 * (s1.1 30)) + (s1.2.1 263 (Int32.toNatClampNeg (s1.1 30))))) (s1.2.1 233 (Int32.toNatClampNeg (s1.1 30)))).1 30)) (((sa s1 262 (Int32.toNatClampNeg ((84 * (s1.1 30)) + (s1.2.1 263 (Int32.toNatClampNeg (s1.1 30))))) (s1.2.1 233 (Int32.toNatClampNeg (s1.1 30)))).2.1 263 (Int32.toNatClampNeg ((sa s1 262 (Int32.toNatClampNeg ((84 * (s1.1 30)) + (s1.2.1 263 (Int32.toNatClampNeg (s1.1 30))))) (s1.2.1 233 (Int32.toNatClampNeg (s1.1 30)))).1 30))) + 1)).2.1 233 (Int32.toNatClampNeg ((sa (sa s1 262 (Int32.toNatClampNeg ((84 * (s1.1 30)) + (s1.2.1 263 (Int32.toNatClampNeg (s1.1 30))))) (s1.2.1 233 (Int32.toNatClampNeg (s1.1 30)))) 263 (Int32.toNatClampNeg ((sa s1 262 (Int32.toNatClampNeg ((84 * (s1.1 30)) + (s1.2.1 263 (Int32.toNatClampNeg (s1.1 30))))) (s1.2.1 233 (Int32.toNatClampNeg (s1.1 30)))).1 30)) (((sa s1 262 (Int32.toNatClampNeg ((84 * (s1.1 30)) + (s1.2.1 263 (Int32.toNatClampNeg (s1.1 30))))) (s1.2.1 233 (Int32.toNatClampNeg (s1.1 30)))).2.1 263 (Int32.toNatClampNeg ((sa s1 262 (Int32.toNatClampNeg ((84 * (s1.1 30)) + (s1.2.1 263 (Int32.toNatClampNeg (s1.1 30))))) (s1.2.1 233 (Int32.toNatClampNeg (s1.1 30)))).1 30))) + 1)).1 30))), .int ((sa (sa s1 262 (Int32.toNatClampNeg ((84 * (s1.1 30)) + (s1.2.1 263 (Int32.toNatClampNeg (s1.1 30))))) (s1.2.1 233 (Int32.toNatClampNeg (s1.1 30)))) 263 (Int32.toNatClampNeg ((sa s1 262 (Int32.toNatClampNeg ((84 * (s1.1 30)) + (s1.2.1 263 (Int32.toNatClampNeg (s1.1 30))))) (s1.2.1 233 (Int32.toNatClampNeg (s1.1 30)))).1 30)) (((sa s1 262 (Int32.toNatClampNeg ((84 * (s1.1 30)) + (s1.2.1 263 (Int32.toNatClampNeg (s1.1 30))))) (s1.2.1 233 (Int32.toNatClampNeg (s1.1 30)))).2.1 263 (Int32.toNatClampNeg ((sa s1 262 (Int32.toNatClampNeg ((84 * (s1.1 30)) + (s1.2.1 263 (Int32.toNatClampNeg (s1.1 30))))) (s1.2.1 233 (Int32.toNatClampNeg (s1.1 30)))).1 30))) + 1)).1 30), .ref 233] (xo_push (.int 1)) rfl rfl ?_
  refine g_c [.int (((sa (sa s1 262 (Int32.toNatClampNeg ((84 * (s1.1 30)) + (s1.2.1 263 (Int32.toNatClampNeg (s1.1 30))))) (s1.2.1 233 (Int32.toNatClampNeg (s1.1 30)))) 263 (Int32.toNatClampNeg ((sa s1 262 (Int32.toNatClampNeg ((84 * (s1.1 30)) + (s1.2.1 263 (Int32.toNatClampNeg (s1.1 30))))) (s1.2.1 233 (Int32.toNatClampNeg (s1.1 30)))).1 30)) (((sa s1 262 (Int32.toNatClampNeg ((84 * (s1.1 30)) + (s1.2.1 263 (Int32.toNatClampNeg (s1.1 30))))) (s1.2.1 233 (Int32.toNatClampNeg (s1.1 30)))).2.1 263 (Int32.toNatClampNeg ((sa s1 262 (Int32.toNatClampNeg ((84 * (s1.1 30)) + (s1.2.1 263 (Int32.toNatClampNeg (s1.1 30))))) (s1.2.1 233 (Int32.toNatClampNeg (s1.1 30)))).1 30))) + 1)).2.1 233 (Int32.toNatClampNeg ((sa (sa s1 262 (Int32.toNatClampNeg ((84 * (s1.1 30)) + (s1.2.1 263 (Int32.toNatClampNeg (s1.1 30))))) (s1.2.1 233 (Int32.toNatClampNeg (s1.1 30)))) 263 (Int32.toNatClampNeg ((sa s1 262 (Int32.toNatClampNeg ((84 * (s1.1 30)) + (s1.2.1 263 (Int32.toNatClampNeg (s1.1 30))))) (s1.2.1 233 (Int32.toNatClampNeg (s1.1 30)))).1 30)) (((sa s1 262 (Int32.toNatClampNeg ((84 * (s1.1 30)) + (s1.2.1 263 (Int32.toNatClampNeg (s1.1 30))))) (s1.2.1 233 (Int32.toNatClampNeg (s1.1 30)))).2.1 263 (Int32.toNatClampNeg ((sa s1 262 (Int32.toNatClampNeg ((84 * (s1.1 30)) + (s1.2.1 263 (Int32.toNatClampNeg (s1.1 30))))) (s1.2.1 233 (Int32.toNatClampNeg (s1.1 30)))).1 30))) + 1)).1 30))) + 1), .int ((sa (sa s1 262 (Int32.toNatClampNeg ((84 * (s1.1 30)) + (s1.2.1 263 (Int32.toNatClampNeg (s1.1 30))))) (s1.2.1 233 (Int32.toNatClampNeg (s1.1 30)))) 263 (Int32.toNatClampNeg ((sa s1 262 (Int32.toNatClampNeg ((84 * (s1.1 30)) + (s1.2.1 263 (Int32.toNatClampNeg (s1.1 30))))) (s1.2.1 233 (Int32.toNatClampNeg (s1.1 30)))).1 30)) (((sa s1 262 (Int32.toNatClampNeg ((84 * (s1.1 30)) + (s1.2.1 263 (Int32.toNatClampNeg (s1.1 30))))) (s1.2.1 233 (Int32.toNatClampNeg (s1.1 30)))).2.1 263 (Int32.toNatClampNeg ((sa s1 262 (Int32.toNatClampNeg ((84 * (s1.1 30)) + (s1.2.1 263 (Int32.toNatClampNeg (s1.1 30))))) (s1.2.1 233 (Int32.toNatClampNeg (s1.1 30)))).1 30))) + 1)).1 30), .ref 233] xo_iadd rfl rfl ?_
  refine g_ias rfl rfl h.1 ?_
  replace h := h.2
  replace h := h _ rfl
  exact g_ret0 rfl h
def w_180_131 (T : Nat → List Value → yS → (Option Value → yS → Prop) → Prop) (R99 : Int32 → yS → Prop) (a1 : Int32) (s : yS) (P : Option Value → yS → Prop) : Prop :=
  T 183 [.ref 213] s (fun v2 s1 => v2 = none ∧ (T 167 [.ref 213, .int 59] s1 (fun v4 s3 => v4 = none ∧ (xIn a1 48 = true ∧ (xIn a1 48 = true ∧ (∀ s5, s5 = sa s3 243 (Int32.toNatClampNeg a1) ((s3.2.1 243 (Int32.toNatClampNeg a1)) + 1) → R99 a1  s5))))))
set_option maxRecDepth 20000 in
theorem k_180_131 {d : Nat} {R99 : Int32 → yS → Prop} {a1 : Int32} {s : yS} {P : Option Value → yS → Prop} (r99 : ∀ a1 s, R99 a1 s → Go d 2 (none) xE_180 (xE_180.drop 99) [.ref 213, .int a1, .null] [] s P) (h : w_180_131 (Tot d) R99 a1 s P) : Go d 2 (none) xE_180 (xE_180.drop 131) [.ref 213, .int a1, .null] [] s P := by
  unfold w_180_131 at h
  refine g_ld rfl rfl rfl ?_
  refine g_call [.ref 213] [] rfl rfl rfl (Tot.imp h (fun v2 s1 h => ?_))
  obtain ⟨rfl, h⟩ := h
  change Go _ _ _ _ _ _ [] _ _
  refine g_ld rfl rfl rfl ?_
  refine g_c [.int 59, .ref 213] (xo_push (.int 59)) rfl rfl ?_
  refine g_call [.ref 213, .int 59] [] rfl rfl rfl (Tot.imp h (fun v4 s3 h => ?_))
  obtain ⟨rfl, h⟩ := h
  change Go _ _ _ _ _ _ [] _ _
  refine g_ld rfl rfl rfl ?_
  refine g_get rfl rfl ?_
  change Go _ _ _ _ _ _ [.ref 243] _ _
  refine g_ld rfl rfl rfl ?_
  refine g_c [.int a1, .ref 243, .int a1, .ref 243] xo_dup2 rfl rfl ?_
  refine g_ial rfl rfl h.1 ?_
  replace h := h.2
  refine g_c [.int 1, .int (s3.2.1 243 (Int32.toNatClampNeg a1)), .int a1, .ref 243] (xo_push (.int 1)) rfl rfl ?_
  refine g_c [.int ((s3.2.1 243 (Int32.toNatClampNeg a1)) + 1), .int a1, .ref 243] xo_iadd rfl rfl ?_
  refine g_ias rfl rfl h.1 ?_
  replace h := h.2
  replace h := h _ rfl
  refine g_go rfl ?_
  exact r99 a1  (sa s3 243 (Int32.toNatClampNeg a1) ((s3.2.1 243 (Int32.toNatClampNeg a1)) + 1)) h
def w_180_128 (T : Nat → List Value → yS → (Option Value → yS → Prop) → Prop) (R99 : Int32 → yS → Prop) (a1 : Int32) (t1 : Int32) (s : yS) (P : Option Value → yS → Prop) : Prop :=
  T 163 [.ref 213, .int t1, .int (s.1 7)] s (fun v2 s1 => v2 = none ∧ (w_180_131 T R99 a1  s1 P))
set_option maxRecDepth 20000 in
theorem k_180_128 {d : Nat} {R99 : Int32 → yS → Prop} {a1 : Int32} {t1 : Int32} {s : yS} {P : Option Value → yS → Prop} (r99 : ∀ a1 s, R99 a1 s → Go d 2 (none) xE_180 (xE_180.drop 99) [.ref 213, .int a1, .null] [] s P) (h : w_180_128 (Tot d) R99 a1 t1 s P) : Go d 2 (none) xE_180 (xE_180.drop 128) [.ref 213, .int a1, .null] [.int t1, .ref 213] s P := by
  unfold w_180_128 at h
  refine g_ld rfl rfl rfl ?_
  refine g_get rfl rfl ?_
  change Go _ _ _ _ _ _ [.int (s.1 7), .int t1, .ref 213] _ _
  refine g_call [.ref 213, .int t1, .int (s.1 7)] [] rfl rfl rfl (Tot.imp h (fun v2 s1 h => ?_))
  obtain ⟨rfl, h⟩ := h
  change Go _ _ _ _ _ _ [] _ _
  exact k_180_131 r99 h
def w_180_99 (T : Nat → List Value → yS → (Option Value → yS → Prop) → Prop) (R99 : Int32 → yS → Prop) (a1 : Int32) (s : yS) (P : Option Value → yS → Prop) : Prop :=
  (¬ ((s.1 8) = 0) → w_180_145 T  a1  s P) ∧ ((s.1 8) = 0 → T 164 [.ref 213, .int 125] s (fun v2 s1 => ∃ x3, v2 = some (.int x3) ∧ ((¬ (x3 = 0) → w_180_145 T  a1  s1 P) ∧ (x3 = 0 → xIn a1 48 = true ∧ (((s1.2.1 235 (Int32.toNatClampNeg a1)) = 0 → xIn a1 48 = true ∧ ((¬ ((s1.2.1 243 (Int32.toNatClampNeg a1)) = 6) → w_180_131 T R99 a1  s1 P) ∧ ((s1.2.1 243 (Int32.toNatClampNeg a1)) = 6 → T 166 [.ref 213] s1 (fun v5 s4 => ∃ x6, v5 = some (.int x6) ∧ ((x6 = 0 → w_180_128 T R99 a1 1 s4 P) ∧ (¬ (x6 = 0) → w_180_128 T R99 a1 5 s4 P)))))) ∧ (¬ ((s1.2.1 235 (Int32.toNatClampNeg a1)) = 0) → T 182 [.ref 213, .int a1] s1 (fun v8 s7 => v8 = none ∧ (R99 a1  s7))))))))
set_option maxRecDepth 20000 in
theorem k_180_99 {d : Nat} {R99 : Int32 → yS → Prop} {a1 : Int32} {s : yS} {P : Option Value → yS → Prop} (r99 : ∀ a1 s, R99 a1 s → Go d 2 (none) xE_180 (xE_180.drop 99) [.ref 213, .int a1, .null] [] s P) (h : w_180_99 (Tot d) R99 a1 s P) : Go d 2 (none) xE_180 (xE_180.drop 99) [.ref 213, .int a1, .null] [] s P := by
  unfold w_180_99 at h
  refine g_ld rfl rfl rfl ?_
  refine g_get rfl rfl ?_
  change Go _ _ _ _ _ _ [.int (s.1 8)] _ _
  refine g_brN rfl rfl ⟨fun hc => ?_, fun hc => ?_⟩
  · replace h := h.1 hc
    exact k_180_145  h
  · replace h := h.2 hc
    refine g_ld rfl rfl rfl ?_
    refine g_c [.int 125, .ref 213] (xo_push (.int 125)) rfl rfl ?_
    refine g_call [.ref 213, .int 125] [] rfl rfl rfl (Tot.imp h (fun v2 s1 h => ?_))
    obtain ⟨x3, rfl, h⟩ := h
    change Go _ _ _ _ _ _ [.int x3] _ _
    refine g_brN rfl rfl ⟨fun hc => ?_, fun hc => ?_⟩
    · replace h := h.1 hc
      exact k_180_145  h
    · replace h := h.2 hc
      refine g_ld rfl rfl rfl ?_
      refine g_get rfl rfl ?_
      change Go _ _ _ _ _ _ [.ref 235] _ _
      refine g_ld rfl rfl rfl ?_
      refine g_zal rfl rfl h.1 ?_
      replace h := h.2
      refine g_brP rfl rfl ⟨fun hc => ?_, fun hc => ?_⟩
      · replace h := h.1 hc
        refine g_ld rfl rfl rfl ?_
        refine g_get rfl rfl ?_
        change Go _ _ _ _ _ _ [.ref 243] _ _
        refine g_ld rfl rfl rfl ?_
        refine g_ial rfl rfl h.1 ?_
        replace h := h.2
        refine g_c [.int 6, .int (s1.2.1 243 (Int32.toNatClampNeg a1))] (xo_push (.int 6)) rfl rfl ?_
        refine g_brN rfl rfl ⟨fun hc => ?_, fun hc => ?_⟩
        · replace h := h.1 hc
          exact k_180_131 r99 h
        · replace h := h.2 hc
          refine g_ld rfl rfl rfl ?_
          refine g_ld rfl rfl rfl ?_
          refine g_call [.ref 213] [.ref 213] rfl rfl rfl (Tot.imp h (fun v5 s4 h => ?_))
          obtain ⟨x6, rfl, h⟩ := h
          change Go _ _ _ _ _ _ [.int x6, .ref 213] _ _
          refine g_brP rfl rfl ⟨fun hc => ?_, fun hc => ?_⟩
          · replace h := h.1 hc
            refine g_c [.int 1, .ref 213] (xo_push (.int 1)) rfl rfl ?_
            exact k_180_128 r99 h
          · replace h := h.2 hc
            refine g_c [.int 5, .ref 213] (xo_push (.int 5)) rfl rfl ?_
            refine g_go rfl ?_
            exact k_180_128 r99 h
      · replace h := h.2 hc
        refine g_ld rfl rfl rfl ?_
        refine g_ld rfl rfl rfl ?_
        refine g_call [.ref 213, .int a1] [] rfl rfl rfl (Tot.imp h (fun v8 s7 h => ?_))
        obtain ⟨rfl, h⟩ := h
        change Go _ _ _ _ _ _ [] _ _
        refine g_go rfl ?_
        exact r99 a1  s7 h
def wl_180_99 (T : Nat → List Value → yS → (Option Value → yS → Prop) → Prop)  (a1 : Int32) (s : yS) (P : Option Value → yS → Prop) : Prop :=
  ∃ (I : Int32 → yS → Prop) (μ : Int32 → yS → Nat), I a1 s ∧ ∀ (a1 : Int32) (s : yS), I a1 s → w_180_99 T (fun a1' s' => I a1' s' ∧ μ a1' s' < μ a1 s) a1 s P
theorem kl_180_99 {d : Nat}  {a1 : Int32} {s : yS} {P : Option Value → yS → Prop}  (h : wl_180_99 (Tot d)  a1 s P) : Go d 2 (none) xE_180 (xE_180.drop 99) [.ref 213, .int a1, .null] [] s P := by
  obtain ⟨I, μ, h0, h1⟩ := h
  have key : ∀ (n : Nat) (a1 : Int32) (s : yS), μ a1 s = n → I a1 s → Go d 2 (none) xE_180 (xE_180.drop 99) [.ref 213, .int a1, .null] [] s P := by
    intro n
    induction n using Nat.strongRecOn with
    | ind n ih =>
      intro a1 s e hI
      exact k_180_99 (fun a1' s' q => ih _ (by rw [← e]; exact q.2) _ _  rfl q.1) (h1 a1 s hI)
  exact key _ a1 s rfl h0
def w_180_96 (T : Nat → List Value → yS → (Option Value → yS → Prop) → Prop)  (a1 : Int32) (s : yS) (P : Option Value → yS → Prop) : Prop :=
  T 167 [.ref 213, .int 123] s (fun v2 s1 => v2 = none ∧ (wl_180_99 T  a1  s1 P))
set_option maxRecDepth 20000 in
theorem k_180_96 {d : Nat}  {a1 : Int32} {s : yS} {P : Option Value → yS → Prop}  (h : w_180_96 (Tot d)  a1 s P) : Go d 2 (none) xE_180 (xE_180.drop 96) [.ref 213, .int a1, .null] [] s P := by
  unfold w_180_96 at h
  refine g_ld rfl rfl rfl ?_
  refine g_c [.int 123, .ref 213] (xo_push (.int 123)) rfl rfl ?_
  refine g_call [.ref 213, .int 123] [] rfl rfl rfl (Tot.imp h (fun v2 s1 h => ?_))
  obtain ⟨rfl, h⟩ := h
  change Go _ _ _ _ _ _ [] _ _
  exact kl_180_99  h
def w_180_74 (T : Nat → List Value → yS → (Option Value → yS → Prop) → Prop)  (a1 : Int32) (s : yS) (P : Option Value → yS → Prop) : Prop :=
  T 165 [.ref 213, .int 1] s (fun v2 s1 => ∃ x3, v2 = some (.int x3) ∧ ((xIn a1 48 && (x3 == 0 || x3 == 1)) = true ∧ (∀ s4, s4 = sa s1 235 (Int32.toNatClampNeg a1) x3 → xIn a1 48 = true ∧ (((s4.2.1 235 (Int32.toNatClampNeg a1)) = 0 → T 169 [.ref 213, .int 2] s4 (fun v6 s5 => v6 = none ∧ (w_180_96 T  a1  s5 P))) ∧ (¬ ((s4.2.1 235 (Int32.toNatClampNeg a1)) = 0) → ∀ s7, s7 = sf s4 7 ((s4.1 7) + 1) → w_180_96 T  a1  s7 P)))))
set_option maxRecDepth 20000 in
theorem k_180_74 {d : Nat}  {a1 : Int32} {s : yS} {P : Option Value → yS → Prop}  (h : w_180_74 (Tot d)  a1 s P) : Go d 2 (none) xE_180 (xE_180.drop 74) [.ref 213, .int a1, .null] [] s P := by
  unfold w_180_74 at h
  refine g_ld rfl rfl rfl ?_
  refine g_get rfl rfl ?_
  change Go _ _ _ _ _ _ [.ref 235] _ _
  refine g_ld rfl rfl rfl ?_
  refine g_ld rfl rfl rfl ?_
  refine g_c [.int 1, .ref 213, .int a1, .ref 235] (xo_push (.int 1)) rfl rfl ?_
  refine g_call [.ref 213, .int 1] [.int a1, .ref 235] rfl rfl rfl (Tot.imp h (fun v2 s1 h => ?_))
  obtain ⟨x3, rfl, h⟩ := h
  change Go _ _ _ _ _ _ [.int x3, .int a1, .ref 235] _ _
  refine g_zas rfl rfl h.1 ?_
  replace h := h.2
  replace h := h _ rfl
  refine g_ld rfl rfl rfl ?_
  refine g_get rfl rfl ?_
  change Go _ _ _ _ _ _ [.ref 235] _ _
  refine g_ld rfl rfl rfl ?_
  refine g_zal rfl rfl h.1 ?_
  replace h := h.2
  refine g_brP rfl rfl ⟨fun hc => ?_, fun hc => ?_⟩
  · replace h := h.1 hc
    refine g_ld rfl rfl rfl ?_
    refine g_c [.int 2, .ref 213] (xo_push (.int 2)) rfl rfl ?_
    refine g_call [.ref 213, .int 2] [] rfl rfl rfl (Tot.imp h (fun v6 s5 h => ?_))
    obtain ⟨rfl, h⟩ := h
    change Go _ _ _ _ _ _ [] _ _
    exact k_180_96  h
  · replace h := h.2 hc
    refine g_ld rfl rfl rfl ?_
    refine g_c [.ref 213, .ref 213] xo_dup rfl rfl ?_
    refine g_get rfl rfl ?_
    change Go _ _ _ _ _ _ [.int ((sa s1 235 (Int32.toNatClampNeg a1) x3).1 7), .ref 213] _ _
    refine g_c [.int 1, .int ((sa s1 235 (Int32.toNatClampNeg a1) x3).1 7), .ref 213] (xo_push (.int 1)) rfl rfl ?_
    refine g_c [.int (((sa s1 235 (Int32.toNatClampNeg a1) x3).1 7) + 1), .ref 213] xo_iadd rfl rfl ?_
    refine g_put rfl rfl rfl ?_
    replace h := h _ rfl
    refine g_go rfl ?_
    exact k_180_96  h
def w_180_0 (T : Nat → List Value → yS → (Option Value → yS → Prop) → Prop)   (s : yS) (P : Option Value → yS → Prop) : Prop :=
  xIn (s.1 30) 2 = true ∧ (xIn (s.1 30) 2 = true ∧ ((¬ ((s.2.1 233 (Int32.toNatClampNeg (s.1 30))) = 24) → ∀ s1, s1 = sf s 7 ((s.1 7) + 1) → T 170 [.ref 213] s1 (fun v3 s2 => ∃ x4, v3 = some (.int x4) ∧ (xIn ((24 * (s.1 30)) + (s.2.1 233 (Int32.toNatClampNeg (s.1 30)))) 48 = true ∧ (∀ s5, s5 = sa s2 234 (Int32.toNatClampNeg ((24 * (s.1 30)) + (s.2.1 233 (Int32.toNatClampNeg (s.1 30))))) x4 → xIn ((24 * (s.1 30)) + (s.2.1 233 (Int32.toNatClampNeg (s.1 30)))) 48 = true ∧ (∀ s6, s6 = sa s5 236 (Int32.toNatClampNeg ((24 * (s.1 30)) + (s.2.1 233 (Int32.toNatClampNeg (s.1 30))))) 0 → xIn ((24 * (s.1 30)) + (s.2.1 233 (Int32.toNatClampNeg (s.1 30)))) 48 = true ∧ (∀ s7, s7 = sa s6 239 (Int32.toNatClampNeg ((24 * (s.1 30)) + (s.2.1 233 (Int32.toNatClampNeg (s.1 30))))) 0 → xIn ((24 * (s.1 30)) + (s.2.1 233 (Int32.toNatClampNeg (s.1 30)))) 48 = true ∧ (∀ s8, s8 = sa s7 242 (Int32.toNatClampNeg ((24 * (s.1 30)) + (s.2.1 233 (Int32.toNatClampNeg (s.1 30))))) (s7.1 42) → xIn ((24 * (s.1 30)) + (s.2.1 233 (Int32.toNatClampNeg (s.1 30)))) 48 = true ∧ (∀ s9, s9 = sa s8 243 (Int32.toNatClampNeg ((24 * (s.1 30)) + (s.2.1 233 (Int32.toNatClampNeg (s.1 30))))) 0 → T 164 [.ref 213, .int 91] s9 (fun v11 s10 => ∃ x12, v11 = some (.int x12) ∧ ((x12 = 0 → w_180_74 T  ((24 * (s.1 30)) + (s.2.1 233 (Int32.toNatClampNeg (s.1 30))))  s10 P) ∧ (¬ (x12 = 0) → T 181 [.ref 213, .ref 237, .ref 238, .int (6 * ((24 * (s.1 30)) + (s.2.1 233 (Int32.toNatClampNeg (s.1 30)))))] s10 (fun v14 s13 => ∃ x15, v14 = some (.int x15) ∧ (xIn ((24 * (s.1 30)) + (s.2.1 233 (Int32.toNatClampNeg (s.1 30)))) 48 = true ∧ (∀ s16, s16 = sa s13 236 (Int32.toNatClampNeg ((24 * (s.1 30)) + (s.2.1 233 (Int32.toNatClampNeg (s.1 30))))) x15 → w_180_74 T  ((24 * (s.1 30)) + (s.2.1 233 (Int32.toNatClampNeg (s.1 30))))  s16 P)))))))))))))) ∧ ((s.2.1 233 (Int32.toNatClampNeg (s.1 30))) = 24 → T 163 [.ref 213, .int 5, .int (s.1 7)] s (fun v18 s17 => v18 = none ∧ (P none s17)))))
set_option maxRecDepth 20000 in
theorem k_180_0 {d : Nat}   {s : yS} {P : Option Value → yS → Prop}  (h : w_180_0 (Tot d)   s P) : Go d 2 (none) xE_180 (xE_180.drop 0) [.ref 213, .null, .null] [] s P := by
  unfold w_180_0 at h
  refine g_c [.int 24] (xo_push (.int 24)) rfl rfl ?_
  refine g_ld rfl rfl rfl ?_
  refine g_get rfl rfl ?_
  change Go _ _ _ _ _ _ [.int (s.1 30), .int 24] _ _
  refine g_c [.int (24 * (s.1 30))] xo_imul rfl rfl ?_
  refine g_ld rfl rfl rfl ?_
  refine g_get rfl rfl ?_
  change Go _ _ _ _ _ _ [.ref 233, .int (24 * (s.1 30))] _ _
  refine g_ld rfl rfl rfl ?_
  refine g_get rfl rfl ?_
  change Go _ _ _ _ _ _ [.int (s.1 30), .ref 233, .int (24 * (s.1 30))] _ _
  refine g_ial rfl rfl h.1 ?_
  replace h := h.2
  refine g_c [.int ((24 * (s.1 30)) + (s.2.1 233 (Int32.toNatClampNeg (s.1 30))))] xo_iadd rfl rfl ?_
  refine g_st [.ref 213, .int ((24 * (s.1 30)) + (s.2.1 233 (Int32.toNatClampNeg (s.1 30)))), .null] rfl rfl rfl ?_
  refine g_ld rfl rfl rfl ?_
  refine g_get rfl rfl ?_
  change Go _ _ _ _ _ _ [.ref 233] _ _
  refine g_ld rfl rfl rfl ?_
  refine g_get rfl rfl ?_
  change Go _ _ _ _ _ _ [.int (s.1 30), .ref 233] _ _
  refine g_ial rfl rfl h.1 ?_
  replace h := h.2
  refine g_c [.int 24, .int (s.2.1 233 (Int32.toNatClampNeg (s.1 30)))] (xo_push (.int 24)) rfl rfl ?_
  refine g_brN rfl rfl ⟨fun hc => ?_, fun hc => ?_⟩
  · replace h := h.1 hc
    refine g_ld rfl rfl rfl ?_
    refine g_c [.ref 213, .ref 213] xo_dup rfl rfl ?_
    refine g_get rfl rfl ?_
    change Go _ _ _ _ _ _ [.int (s.1 7), .ref 213] _ _
    refine g_c [.int 1, .int (s.1 7), .ref 213] (xo_push (.int 1)) rfl rfl ?_
    refine g_c [.int ((s.1 7) + 1), .ref 213] xo_iadd rfl rfl ?_
    refine g_put rfl rfl rfl ?_
    replace h := h _ rfl
    refine g_ld rfl rfl rfl ?_
    refine g_get rfl rfl ?_
    change Go _ _ _ _ _ _ [.ref 234] _ _
    refine g_ld rfl rfl rfl ?_
    refine g_ld rfl rfl rfl ?_
    refine g_call [.ref 213] [.int ((24 * (s.1 30)) + (s.2.1 233 (Int32.toNatClampNeg (s.1 30)))), .ref 234] rfl rfl rfl (Tot.imp h (fun v3 s2 h => ?_))
    obtain ⟨x4, rfl, h⟩ := h
    change Go _ _ _ _ _ _ [.int x4, .int ((24 * (s.1 30)) + (s.2.1 233 (Int32.toNatClampNeg (s.1 30)))), .ref 234] _ _
    refine g_ias rfl rfl h.1 ?_
    replace h := h.2
    replace h := h _ rfl
    refine g_ld rfl rfl rfl ?_
    refine g_get rfl rfl ?_
    change Go _ _ _ _ _ _ [.ref 236] _ _
    refine g_ld rfl rfl rfl ?_
    refine g_c [.int 0, .int ((24 * (s.1 30)) + (s.2.1 233 (Int32.toNatClampNeg (s.1 30)))), .ref 236] (xo_push (.int 0)) rfl rfl ?_
    refine g_ias rfl rfl h.1 ?_
    replace h := h.2
    replace h := h _ rfl
    refine g_ld rfl rfl rfl ?_
    refine g_get rfl rfl ?_
    change Go _ _ _ _ _ _ [.ref 239] _ _
    refine g_ld rfl rfl rfl ?_
    refine g_c [.int 0, .int ((24 * (s.1 30)) + (s.2.1 233 (Int32.toNatClampNeg (s.1 30)))), .ref 239] (xo_push (.int 0)) rfl rfl ?_
    refine g_ias rfl rfl h.1 ?_
    replace h := h.2
    replace h := h _ rfl
    refine g_ld rfl rfl rfl ?_
    refine g_get rfl rfl ?_
    change Go _ _ _ _ _ _ [.ref 242] _ _
    refine g_ld rfl rfl rfl ?_
    refine g_ld rfl rfl rfl ?_
    refine g_get rfl rfl ?_
    change Go _ _ _ _ _ _ [.int ((sa (sa (sa s2 234 (Int32.toNatClampNeg ((24 * (s.1 30)) + (s.2.1 233 (Int32.toNatClampNeg (s.1 30))))) x4) 236 (Int32.toNatClampNeg ((24 * (s.1 30)) + (s.2.1 233 (Int32.toNatClampNeg (s.1 30))))) 0) 239 (Int32.toNatClampNeg ((24 * (s.1 30)) + (s.2.1 233 (Int32.toNatClampNeg (s.1 30))))) 0).1 42), .int ((24 * (s.1 30)) + (s.2.1 233 (Int32.toNatClampNeg (s.1 30)))), .ref 242] _ _
    refine g_ias rfl rfl h.1 ?_
    replace h := h.2
    replace h := h _ rfl
    refine g_ld rfl rfl rfl ?_
    refine g_get rfl rfl ?_
    change Go _ _ _ _ _ _ [.ref 243] _ _
    refine g_ld rfl rfl rfl ?_
    refine g_c [.int 0, .int ((24 * (s.1 30)) + (s.2.1 233 (Int32.toNatClampNeg (s.1 30)))), .ref 243] (xo_push (.int 0)) rfl rfl ?_
    refine g_ias rfl rfl h.1 ?_
    replace h := h.2
    replace h := h _ rfl
    refine g_ld rfl rfl rfl ?_
    refine g_c [.int 91, .ref 213] (xo_push (.int 91)) rfl rfl ?_
    refine g_call [.ref 213, .int 91] [] rfl rfl rfl (Tot.imp h (fun v11 s10 h => ?_))
    obtain ⟨x12, rfl, h⟩ := h
    change Go _ _ _ _ _ _ [.int x12] _ _
    refine g_brP rfl rfl ⟨fun hc => ?_, fun hc => ?_⟩
    · replace h := h.1 hc
      exact k_180_74  h
    · replace h := h.2 hc
      refine g_ld rfl rfl rfl ?_
      refine g_get rfl rfl ?_
      change Go _ _ _ _ _ _ [.ref 236] _ _
      refine g_ld rfl rfl rfl ?_
      refine g_ld rfl rfl rfl ?_
      refine g_ld rfl rfl rfl ?_
      refine g_get rfl rfl ?_
      change Go _ _ _ _ _ _ [.ref 237, .ref 213, .int ((24 * (s.1 30)) + (s.2.1 233 (Int32.toNatClampNeg (s.1 30)))), .ref 236] _ _
      refine g_ld rfl rfl rfl ?_
      refine g_get rfl rfl ?_
      change Go _ _ _ _ _ _ [.ref 238, .ref 237, .ref 213, .int ((24 * (s.1 30)) + (s.2.1 233 (Int32.toNatClampNeg (s.1 30)))), .ref 236] _ _
      refine g_c [.int 6, .ref 238, .ref 237, .ref 213, .int ((24 * (s.1 30)) + (s.2.1 233 (Int32.toNatClampNeg (s.1 30)))), .ref 236] (xo_push (.int 6)) rfl rfl ?_
      refine g_ld rfl rfl rfl ?_
      refine g_c [.int (6 * ((24 * (s.1 30)) + (s.2.1 233 (Int32.toNatClampNeg (s.1 30))))), .ref 238, .ref 237, .ref 213, .int ((24 * (s.1 30)) + (s.2.1 233 (Int32.toNatClampNeg (s.1 30)))), .ref 236] xo_imul rfl rfl ?_
      refine g_call [.ref 213, .ref 237, .ref 238, .int (6 * ((24 * (s.1 30)) + (s.2.1 233 (Int32.toNatClampNeg (s.1 30)))))] [.int ((24 * (s.1 30)) + (s.2.1 233 (Int32.toNatClampNeg (s.1 30)))), .ref 236] rfl rfl rfl (Tot.imp h (fun v14 s13 h => ?_))
      obtain ⟨x15, rfl, h⟩ := h
      change Go _ _ _ _ _ _ [.int x15, .int ((24 * (s.1 30)) + (s.2.1 233 (Int32.toNatClampNeg (s.1 30)))), .ref 236] _ _
      refine g_ias rfl rfl h.1 ?_
      replace h := h.2
      replace h := h _ rfl
      exact k_180_74  h
  · replace h := h.2 hc
    refine g_ld rfl rfl rfl ?_
    refine g_c [.int 5, .ref 213] (xo_push (.int 5)) rfl rfl ?_
    refine g_ld rfl rfl rfl ?_
    refine g_get rfl rfl ?_
    change Go _ _ _ _ _ _ [.int (s.1 7), .int 5, .ref 213] _ _
    refine g_call [.ref 213, .int 5, .int (s.1 7)] [] rfl rfl rfl (Tot.imp h (fun v18 s17 h => ?_))
    obtain ⟨rfl, h⟩ := h
    change Go _ _ _ _ _ _ [] _ _
    exact g_ret0 rfl h
theorem t_180 {d : Nat}  {s : yS} {P : Option Value → yS → Prop} (h : w_180_0 (Tot d)  s P) : Tot (d + 1) 180 [.ref 213] s P := tot_of (E := xE_180) (ml := 2) (ret := none) rfl rfl rfl (k_180_0 h)
