/-! ===== the class: print (wip/p3/zdec.py) ===== -/
/-! FeatherBench$Press.begin -/
def v_31_0 (T : Nat → List Value → zS → (Option Value → zS → Prop) → Prop) (P : Nat)   (s : zS) (Q : Option Value → zS → Prop) : Prop :=
  ∀ s1, s1 = zf s 207 2 0 → Q none s1
set_option maxRecDepth 20000 in
theorem m_31_0_3 {d d0 : Nat} (hd : d = d0 + 8)   {s : zS} {Q : Option Value → zS → Prop}  (h : v_31_0 (fun j => Zt d (wd2 3 j) j) 3   s Q) : Zn d [(206, 3)] [(0, 207)] ([] : zW) ([(206, 3, 3)] : zW) xL_3 2 (none) xE_31 (xE_31.drop 0) [.ref 206, .ref 3, .null, .null] [] s Q := by
  unfold v_31_0 at h
  refine zn_ld rfl rfl rfl ?_
  refine zn_ld rfl rfl rfl ?_
  refine zn_putR (a := 206) (b := 3) rfl rfl rfl rfl rfl rfl rfl rfl rfl ?_
  refine zn_ld rfl rfl rfl ?_
  refine zn_get (v := .ref 207) rfl (zv_R (a := 206) rfl rfl) ?_
  refine zn_clr [] (a := 207) hd rfl rfl rfl rfl rfl ?_
  replace h := h _ rfl
  exact zn_ret0 rfl h
theorem zq_31_3 {d : Nat}  {s : zS} {Q : Option Value → zS → Prop} (h : v_31_0 (fun j => Zt (d + 8) (wd2 3 j) j) 3  s Q) : Zu (d + 9) [(206, 3)] ([] : zW) ([(206, 3, 3)] : zW) 31 [.ref 206, .ref 3] s Q := zu_of (E := xE_31) (L := xL_3) (ml := 2) (ret := none) rfl rfl rfl (m_31_0_3 rfl h)
set_option maxRecDepth 20000 in
theorem m_31_0_39 {d d0 : Nat} (hd : d = d0 + 8)   {s : zS} {Q : Option Value → zS → Prop}  (h : v_31_0 (fun j => Zt d (wd2 39 j) j) 39   s Q) : Zn d [(206, 3)] [(0, 207)] ([] : zW) ([(206, 3, 39)] : zW) xL_3 2 (none) xE_31 (xE_31.drop 0) [.ref 206, .ref 39, .null, .null] [] s Q := by
  unfold v_31_0 at h
  refine zn_ld rfl rfl rfl ?_
  refine zn_ld rfl rfl rfl ?_
  refine zn_putR (a := 206) (b := 39) rfl rfl rfl rfl rfl rfl rfl rfl rfl ?_
  refine zn_ld rfl rfl rfl ?_
  refine zn_get (v := .ref 207) rfl (zv_R (a := 206) rfl rfl) ?_
  refine zn_clr [] (a := 207) hd rfl rfl rfl rfl rfl ?_
  replace h := h _ rfl
  exact zn_ret0 rfl h
theorem zq_31_39 {d : Nat}  {s : zS} {Q : Option Value → zS → Prop} (h : v_31_0 (fun j => Zt (d + 8) (wd2 39 j) j) 39  s Q) : Zu (d + 9) [(206, 3)] ([] : zW) ([(206, 3, 39)] : zW) 31 [.ref 206, .ref 39] s Q := zu_of (E := xE_31) (L := xL_3) (ml := 2) (ret := none) rfl rfl rfl (m_31_0_39 rfl h)
theorem zc_31 {d P : Nat} (hP : P = 3 ∨ P = 39)  {s : zS} {Q : Option Value → zS → Prop} (h : v_31_0 (fun j => Zt (d + 8) (wd2 P j) j) P  s Q) : Zu (d + 9) [(206, 3)] [] [(206, 3, P)] 31 [.ref 206, .ref P] s Q := by
  rcases hP with rfl | rfl
  · exact zq_31_3 h
  · exact zq_31_39 h
/-! FeatherBench$Press.putWord -/
def v_33_9 (T : Nat → List Value → zS → (Option Value → zS → Prop) → Prop) (P : Nat) (R9 : Int32 → Int32 → Int32 → zS → Prop) (a1 : Int32) (a2 : Int32) (a3 : Int32) (s : zS) (Q : Option Value → zS → Prop) : Prop :=
  ((zg s (P + 8) a1).toInt ≤ a3.toInt → Q none s) ∧ (¬ ((zg s (P + 8) a1).toInt ≤ a3.toInt) → ∀ x1 : Int32, (-2147483648 ≤ a2.toInt + a3.toInt ∧ a2.toInt + a3.toInt ≤ 2147483647 → x1.toInt = a2.toInt + a3.toInt) → ∀ s2, s2 = za s 207 (zg s (P + 2) x1) → ∀ x3 : Int32, (-2147483648 ≤ a3.toInt + 1 ∧ a3.toInt + 1 ≤ 2147483647 → x3.toInt = a3.toInt + 1) → R9 a1 a2 x3 s2)
def vl_33_9 (T : Nat → List Value → zS → (Option Value → zS → Prop) → Prop) (P : Nat)  (a1 : Int32) (a2 : Int32) (a3 : Int32) (s : zS) (Q : Option Value → zS → Prop) : Prop :=
  ∃ (I : Int32 → Int32 → Int32 → zS → Prop) (μ : Int32 → Int32 → Int32 → zS → Nat), I a1 a2 a3 s ∧ ∀ (a1 : Int32) (a2 : Int32) (a3 : Int32) (s : zS), I a1 a2 a3 s → v_33_9 T P (fun a1' a2' a3' s' => I a1' a2' a3' s' ∧ μ a1' a2' a3' s' < μ a1 a2 a3 s) a1 a2 a3 s Q
def v_33_0 (T : Nat → List Value → zS → (Option Value → zS → Prop) → Prop) (P : Nat)  (a1 : Int32) (s : zS) (Q : Option Value → zS → Prop) : Prop :=
  vl_33_9 T P  a1 (zg s (P + 6) a1) 0 s Q
set_option maxRecDepth 20000 in
theorem m_33_9_3 {d d0 : Nat} (hd : d = d0 + 8) {R9 : Int32 → Int32 → Int32 → zS → Prop} {a1 : Int32} {a2 : Int32} {a3 : Int32} {s : zS} {Q : Option Value → zS → Prop} (r9 : ∀ a1 a2 a3 s, R9 a1 a2 a3 s → Zn d [] [(0, 207)] ([(206, 3, 3)] : zW) ([(206, 3, 3)] : zW) xL_3 4 (none) xE_33 (xE_33.drop 9) [.ref 206, .int a1, .int a2, .int a3, .null, .null] [] s Q) (h : v_33_9 (fun j => Zt d (wd2 3 j) j) 3 R9 a1 a2 a3 s Q) : Zn d [] [(0, 207)] ([(206, 3, 3)] : zW) ([(206, 3, 3)] : zW) xL_3 4 (none) xE_33 (xE_33.drop 9) [.ref 206, .int a1, .int a2, .int a3, .null, .null] [] s Q := by
  unfold v_33_9 at h
  refine zn_ld rfl rfl rfl ?_
  refine zn_ld rfl rfl rfl ?_
  refine zn_get (v := .ref 3) rfl (zv_C (a := 206) (n := 0) rfl rfl rfl) ?_
  refine zn_get (v := .ref 4) rfl (zv_R (a := 3) rfl rfl) ?_
  refine zn_get (v := .ref 11) rfl (zv_R (a := 4) rfl rfl) ?_
  refine zn_ld rfl rfl rfl ?_
  refine zn_row a1 [.int a3] (a := 11) hd rfl rfl rfl rfl ?_
  change Zn _ _ _ _ _ _ _ _ _ _ _ [.int (zg s 11 a1), .int a3] _ _
  refine zn_brP rfl rfl ⟨fun hcn => ?_, fun hcn => ?_⟩
  · replace h := h.1 ((i_le (x := zg s 11 a1) (y := a3) rfl rfl).mp hcn)
    exact zn_ret0 rfl h
  · replace h := h.2 (fun q => hcn ((i_le (x := zg s 11 a1) (y := a3) rfl rfl).mpr q))
    refine zn_ld rfl rfl rfl ?_
    refine zn_get (v := .ref 207) rfl (zv_R (a := 206) rfl rfl) ?_
    refine zn_ld rfl rfl rfl ?_
    refine zn_get (v := .ref 3) rfl (zv_C (a := 206) (n := 0) rfl rfl rfl) ?_
    refine zn_get (v := .ref 4) rfl (zv_R (a := 3) rfl rfl) ?_
    refine zn_get (v := .ref 5) rfl (zv_R (a := 4) rfl rfl) ?_
    refine zn_ld rfl rfl rfl ?_
    refine zn_ld rfl rfl rfl ?_
    replace h := h _ (i_add (x := a2) (y := a3) rfl rfl)
    refine zn_c [.int (a2 + a3), .ref 5, .ref 207] xo_iadd rfl rfl ?_
    refine zn_row (a2 + a3) [.ref 207] (a := 5) hd rfl rfl rfl rfl ?_
    change Zn _ _ _ _ _ _ _ _ _ _ _ [.int (zg s 5 (a2 + a3)), .ref 207] _ _
    refine zn_add (zg s 5 (a2 + a3)) [] (a := 207) hd rfl rfl rfl rfl ⟨Int32.le_toInt _, Int.le_of_lt_add_one (Int32.toInt_lt _)⟩ (fun q => absurd q (by decide)) rfl ?_
    replace h := h _ rfl
    replace h := h _ (i_add (x := a3) (y := 1) rfl (show (1 : Int32).toInt = 1 by decide))
    refine zn_inc [.ref 206, .int a1, .int a2, .int (a3 + 1), .null, .null] rfl rfl rfl rfl ?_
    refine zn_go rfl ?_
    exact r9 a1 a2 (a3 + 1) (za s 207 (zg s 5 (a2 + a3))) h
theorem ml_33_9_3 {d d0 : Nat} (hd : d = d0 + 8)  {a1 : Int32} {a2 : Int32} {a3 : Int32} {s : zS} {Q : Option Value → zS → Prop}  (h : vl_33_9 (fun j => Zt d (wd2 3 j) j) 3  a1 a2 a3 s Q) : Zn d [] [(0, 207)] ([(206, 3, 3)] : zW) ([(206, 3, 3)] : zW) xL_3 4 (none) xE_33 (xE_33.drop 9) [.ref 206, .int a1, .int a2, .int a3, .null, .null] [] s Q := by
  obtain ⟨I, μ, h0, h1⟩ := h
  have key : ∀ (n : Nat) (a1 : Int32) (a2 : Int32) (a3 : Int32) (s : zS), μ a1 a2 a3 s = n → I a1 a2 a3 s → Zn d [] [(0, 207)] ([(206, 3, 3)] : zW) ([(206, 3, 3)] : zW) xL_3 4 (none) xE_33 (xE_33.drop 9) [.ref 206, .int a1, .int a2, .int a3, .null, .null] [] s Q := by
    intro n
    induction n using Nat.strongRecOn with
    | ind n ih =>
      intro a1 a2 a3 s e hI
      exact m_33_9_3 hd (fun a1' a2' a3' s' q => ih _ (by rw [← e]; exact q.2) a1' a2' a3' s' rfl q.1) (h1 a1 a2 a3 s hI)
  exact key _ a1 a2 a3 s rfl h0
set_option maxRecDepth 20000 in
theorem m_33_0_3 {d d0 : Nat} (hd : d = d0 + 8)  {a1 : Int32} {s : zS} {Q : Option Value → zS → Prop}  (h : v_33_0 (fun j => Zt d (wd2 3 j) j) 3  a1 s Q) : Zn d [] [(0, 207)] ([(206, 3, 3)] : zW) ([(206, 3, 3)] : zW) xL_3 4 (none) xE_33 (xE_33.drop 0) [.ref 206, .int a1, .null, .null, .null, .null] [] s Q := by
  unfold v_33_0 at h
  refine zn_ld rfl rfl rfl ?_
  refine zn_get (v := .ref 3) rfl (zv_C (a := 206) (n := 0) rfl rfl rfl) ?_
  refine zn_get (v := .ref 4) rfl (zv_R (a := 3) rfl rfl) ?_
  refine zn_get (v := .ref 9) rfl (zv_R (a := 4) rfl rfl) ?_
  refine zn_ld rfl rfl rfl ?_
  refine zn_row a1 [] (a := 9) hd rfl rfl rfl rfl ?_
  change Zn _ _ _ _ _ _ _ _ _ _ _ [.int (zg s 9 a1)] _ _
  refine zn_st [.ref 206, .int a1, .int (zg s 9 a1), .null, .null, .null] rfl rfl rfl ?_
  refine zn_c [.int 0] (xo_push (.int 0)) rfl rfl ?_
  refine zn_st [.ref 206, .int a1, .int (zg s 9 a1), .int 0, .null, .null] rfl rfl rfl ?_
  exact ml_33_9_3 hd  h
theorem zq_33_3 {d : Nat} {a1 : Int32} {s : zS} {Q : Option Value → zS → Prop} (h : v_33_0 (fun j => Zt (d + 8) (wd2 3 j) j) 3 a1 s Q) : Zt (d + 9) ([(206, 3, 3)] : zW) 33 [.ref 206, .int a1] s Q := zt_of (E := xE_33) (L := xL_3) (ml := 4) (ret := none) rfl rfl rfl (m_33_0_3 rfl h)
set_option maxRecDepth 20000 in
theorem m_33_9_39 {d d0 : Nat} (hd : d = d0 + 8) {R9 : Int32 → Int32 → Int32 → zS → Prop} {a1 : Int32} {a2 : Int32} {a3 : Int32} {s : zS} {Q : Option Value → zS → Prop} (r9 : ∀ a1 a2 a3 s, R9 a1 a2 a3 s → Zn d [] [(0, 207)] ([(206, 3, 39)] : zW) ([(206, 3, 39)] : zW) xL_3 4 (none) xE_33 (xE_33.drop 9) [.ref 206, .int a1, .int a2, .int a3, .null, .null] [] s Q) (h : v_33_9 (fun j => Zt d (wd2 39 j) j) 39 R9 a1 a2 a3 s Q) : Zn d [] [(0, 207)] ([(206, 3, 39)] : zW) ([(206, 3, 39)] : zW) xL_3 4 (none) xE_33 (xE_33.drop 9) [.ref 206, .int a1, .int a2, .int a3, .null, .null] [] s Q := by
  unfold v_33_9 at h
  refine zn_ld rfl rfl rfl ?_
  refine zn_ld rfl rfl rfl ?_
  refine zn_get (v := .ref 39) rfl (zv_C (a := 206) (n := 0) rfl rfl rfl) ?_
  refine zn_get (v := .ref 40) rfl (zv_R (a := 39) rfl rfl) ?_
  refine zn_get (v := .ref 47) rfl (zv_R (a := 40) rfl rfl) ?_
  refine zn_ld rfl rfl rfl ?_
  refine zn_row a1 [.int a3] (a := 47) hd rfl rfl rfl rfl ?_
  change Zn _ _ _ _ _ _ _ _ _ _ _ [.int (zg s 47 a1), .int a3] _ _
  refine zn_brP rfl rfl ⟨fun hcn => ?_, fun hcn => ?_⟩
  · replace h := h.1 ((i_le (x := zg s 47 a1) (y := a3) rfl rfl).mp hcn)
    exact zn_ret0 rfl h
  · replace h := h.2 (fun q => hcn ((i_le (x := zg s 47 a1) (y := a3) rfl rfl).mpr q))
    refine zn_ld rfl rfl rfl ?_
    refine zn_get (v := .ref 207) rfl (zv_R (a := 206) rfl rfl) ?_
    refine zn_ld rfl rfl rfl ?_
    refine zn_get (v := .ref 39) rfl (zv_C (a := 206) (n := 0) rfl rfl rfl) ?_
    refine zn_get (v := .ref 40) rfl (zv_R (a := 39) rfl rfl) ?_
    refine zn_get (v := .ref 41) rfl (zv_R (a := 40) rfl rfl) ?_
    refine zn_ld rfl rfl rfl ?_
    refine zn_ld rfl rfl rfl ?_
    replace h := h _ (i_add (x := a2) (y := a3) rfl rfl)
    refine zn_c [.int (a2 + a3), .ref 41, .ref 207] xo_iadd rfl rfl ?_
    refine zn_row (a2 + a3) [.ref 207] (a := 41) hd rfl rfl rfl rfl ?_
    change Zn _ _ _ _ _ _ _ _ _ _ _ [.int (zg s 41 (a2 + a3)), .ref 207] _ _
    refine zn_add (zg s 41 (a2 + a3)) [] (a := 207) hd rfl rfl rfl rfl ⟨Int32.le_toInt _, Int.le_of_lt_add_one (Int32.toInt_lt _)⟩ (fun q => absurd q (by decide)) rfl ?_
    replace h := h _ rfl
    replace h := h _ (i_add (x := a3) (y := 1) rfl (show (1 : Int32).toInt = 1 by decide))
    refine zn_inc [.ref 206, .int a1, .int a2, .int (a3 + 1), .null, .null] rfl rfl rfl rfl ?_
    refine zn_go rfl ?_
    exact r9 a1 a2 (a3 + 1) (za s 207 (zg s 41 (a2 + a3))) h
theorem ml_33_9_39 {d d0 : Nat} (hd : d = d0 + 8)  {a1 : Int32} {a2 : Int32} {a3 : Int32} {s : zS} {Q : Option Value → zS → Prop}  (h : vl_33_9 (fun j => Zt d (wd2 39 j) j) 39  a1 a2 a3 s Q) : Zn d [] [(0, 207)] ([(206, 3, 39)] : zW) ([(206, 3, 39)] : zW) xL_3 4 (none) xE_33 (xE_33.drop 9) [.ref 206, .int a1, .int a2, .int a3, .null, .null] [] s Q := by
  obtain ⟨I, μ, h0, h1⟩ := h
  have key : ∀ (n : Nat) (a1 : Int32) (a2 : Int32) (a3 : Int32) (s : zS), μ a1 a2 a3 s = n → I a1 a2 a3 s → Zn d [] [(0, 207)] ([(206, 3, 39)] : zW) ([(206, 3, 39)] : zW) xL_3 4 (none) xE_33 (xE_33.drop 9) [.ref 206, .int a1, .int a2, .int a3, .null, .null] [] s Q := by
    intro n
    induction n using Nat.strongRecOn with
    | ind n ih =>
      intro a1 a2 a3 s e hI
      exact m_33_9_39 hd (fun a1' a2' a3' s' q => ih _ (by rw [← e]; exact q.2) a1' a2' a3' s' rfl q.1) (h1 a1 a2 a3 s hI)
  exact key _ a1 a2 a3 s rfl h0
set_option maxRecDepth 20000 in
theorem m_33_0_39 {d d0 : Nat} (hd : d = d0 + 8)  {a1 : Int32} {s : zS} {Q : Option Value → zS → Prop}  (h : v_33_0 (fun j => Zt d (wd2 39 j) j) 39  a1 s Q) : Zn d [] [(0, 207)] ([(206, 3, 39)] : zW) ([(206, 3, 39)] : zW) xL_3 4 (none) xE_33 (xE_33.drop 0) [.ref 206, .int a1, .null, .null, .null, .null] [] s Q := by
  unfold v_33_0 at h
  refine zn_ld rfl rfl rfl ?_
  refine zn_get (v := .ref 39) rfl (zv_C (a := 206) (n := 0) rfl rfl rfl) ?_
  refine zn_get (v := .ref 40) rfl (zv_R (a := 39) rfl rfl) ?_
  refine zn_get (v := .ref 45) rfl (zv_R (a := 40) rfl rfl) ?_
  refine zn_ld rfl rfl rfl ?_
  refine zn_row a1 [] (a := 45) hd rfl rfl rfl rfl ?_
  change Zn _ _ _ _ _ _ _ _ _ _ _ [.int (zg s 45 a1)] _ _
  refine zn_st [.ref 206, .int a1, .int (zg s 45 a1), .null, .null, .null] rfl rfl rfl ?_
  refine zn_c [.int 0] (xo_push (.int 0)) rfl rfl ?_
  refine zn_st [.ref 206, .int a1, .int (zg s 45 a1), .int 0, .null, .null] rfl rfl rfl ?_
  exact ml_33_9_39 hd  h
theorem zq_33_39 {d : Nat} {a1 : Int32} {s : zS} {Q : Option Value → zS → Prop} (h : v_33_0 (fun j => Zt (d + 8) (wd2 39 j) j) 39 a1 s Q) : Zt (d + 9) ([(206, 3, 39)] : zW) 33 [.ref 206, .int a1] s Q := zt_of (E := xE_33) (L := xL_3) (ml := 4) (ret := none) rfl rfl rfl (m_33_0_39 rfl h)
theorem zc_33 {d P : Nat} (hP : P = 3 ∨ P = 39) {a1 : Int32} {s : zS} {Q : Option Value → zS → Prop} (h : v_33_0 (fun j => Zt (d + 8) (wd2 P j) j) P a1 s Q) : Zt (d + 9) (wd2 P 33) 33 [.ref 206, .int a1] s Q := by
  rcases hP with rfl | rfl
  · exact zq_33_3 h
  · exact zq_33_39 h
/-! FeatherBench$Press.putType -/
def v_32_94 (T : Nat → List Value → zS → (Option Value → zS → Prop) → Prop) (P : Nat)  (a1 : Int32) (a2 : Int32) (a3 : Int32) (s : zS) (Q : Option Value → zS → Prop) : Prop :=
  Q none s
def v_32_92 (T : Nat → List Value → zS → (Option Value → zS → Prop) → Prop) (P : Nat) (R9 : Int32 → Int32 → Int32 → zS → Prop) (a1 : Int32) (a2 : Int32) (a3 : Int32) (a4 : Int32) (s : zS) (Q : Option Value → zS → Prop) : Prop :=
  ∀ x1 : Int32, (-2147483648 ≤ a3.toInt + 1 ∧ a3.toInt + 1 ≤ 2147483647 → x1.toInt = a3.toInt + 1) → R9 a1 a2 x1 s
def v_32_86 (T : Nat → List Value → zS → (Option Value → zS → Prop) → Prop) (P : Nat) (R9 : Int32 → Int32 → Int32 → zS → Prop) (a1 : Int32) (a2 : Int32) (a3 : Int32) (a4 : Int32) (s : zS) (Q : Option Value → zS → Prop) : Prop :=
  (a2.toInt ≤ 0 → v_32_92 T P R9 a1 a2 a3 a4 s Q) ∧ (¬ (a2.toInt ≤ 0) → ∀ s1, s1 = za s 207 44 → v_32_92 T P R9 a1 a2 a3 a4 s1 Q)
def v_32_63 (T : Nat → List Value → zS → (Option Value → zS → Prop) → Prop) (P : Nat) (R9 : Int32 → Int32 → Int32 → zS → Prop) (R63 : Int32 → Int32 → Int32 → Int32 → zS → Prop) (a1 : Int32) (a2 : Int32) (a3 : Int32) (a4 : Int32) (s : zS) (Q : Option Value → zS → Prop) : Prop :=
  (a2.toInt ≤ 0 → v_32_86 T P R9 a1 a2 a3 a4 s Q) ∧ (¬ (a2.toInt ≤ 0) → (¬ ((zg s 211 a2).toInt = 0) → v_32_86 T P R9 a1 a2 a3 a4 s Q) ∧ ((zg s 211 a2).toInt = 0 → ∀ s1, s1 = za s 207 93 → ∀ x2 : Int32, (-2147483648 ≤ a2.toInt + (-1) ∧ a2.toInt + (-1) ≤ 2147483647 → x2.toInt = a2.toInt + (-1)) → ∀ x3 : Int32, (-2147483648 ≤ (zg s1 211 x2).toInt - 1 ∧ (zg s1 211 x2).toInt - 1 ≤ 2147483647 → x3.toInt = (zg s1 211 x2).toInt - 1) → ∀ s4, s4 = zt s1 211 x2 x3 → R63 a1 x2 a3 a4 s4))
def vl_32_63 (T : Nat → List Value → zS → (Option Value → zS → Prop) → Prop) (P : Nat) (R9 : Int32 → Int32 → Int32 → zS → Prop) (a1 : Int32) (a2 : Int32) (a3 : Int32) (a4 : Int32) (s : zS) (Q : Option Value → zS → Prop) : Prop :=
  ∃ (I : Int32 → Int32 → Int32 → Int32 → zS → Prop) (μ : Int32 → Int32 → Int32 → Int32 → zS → Nat), I a1 a2 a3 a4 s ∧ ∀ (a1 : Int32) (a2 : Int32) (a3 : Int32) (a4 : Int32) (s : zS), I a1 a2 a3 a4 s → v_32_63 T P R9 (fun a1' a2' a3' a4' s' => I a1' a2' a3' a4' s' ∧ μ a1' a2' a3' a4' s' < μ a1 a2 a3 a4 s) a1 a2 a3 a4 s Q
def v_32_9 (T : Nat → List Value → zS → (Option Value → zS → Prop) → Prop) (P : Nat) (R9 : Int32 → Int32 → Int32 → zS → Prop) (a1 : Int32) (a2 : Int32) (a3 : Int32) (s : zS) (Q : Option Value → zS → Prop) : Prop :=
  (60 ≤ a3.toInt → v_32_94 T P  a1 a2 a3 s Q) ∧ (¬ (60 ≤ a3.toInt) → ((zg s 211 0).toInt ≤ 0 → v_32_94 T P  a1 a2 a3 s Q) ∧ (¬ ((zg s 211 0).toInt ≤ 0) → ∀ x1 : Int32, (-2147483648 ≤ a1.toInt + a3.toInt ∧ a1.toInt + a3.toInt ≤ 2147483647 → x1.toInt = a1.toInt + a3.toInt) → T 33 [.ref 206, .int (zg s (P + 24) ((zg s (P + 18) x1) * 6 + 0))] s (fun v3 s4 => v3 = none ∧ (((zg s4 (P + 22) (zg s (P + 18) x1)).toInt ≤ 0 → ∀ x5 : Int32, (-2147483648 ≤ (zg s4 211 a2).toInt - 1 ∧ (zg s4 211 a2).toInt - 1 ≤ 2147483647 → x5.toInt = (zg s4 211 a2).toInt - 1) → ∀ s6, s6 = zt s4 211 a2 x5 → vl_32_63 T P R9 a1 a2 a3 (zg s (P + 18) x1) s6 Q) ∧ (¬ ((zg s4 (P + 22) (zg s (P + 18) x1)).toInt ≤ 0) → ∀ x7 : Int32, (-2147483648 ≤ a2.toInt + 1 ∧ a2.toInt + 1 ≤ 2147483647 → x7.toInt = a2.toInt + 1) → ∀ s8, s8 = zt s4 211 x7 (zg s4 (P + 22) (zg s (P + 18) x1)) → ∀ s9, s9 = za s8 207 91 → v_32_92 T P R9 a1 x7 a3 (zg s (P + 18) x1) s9 Q)))))
def vl_32_9 (T : Nat → List Value → zS → (Option Value → zS → Prop) → Prop) (P : Nat)  (a1 : Int32) (a2 : Int32) (a3 : Int32) (s : zS) (Q : Option Value → zS → Prop) : Prop :=
  ∃ (I : Int32 → Int32 → Int32 → zS → Prop) (μ : Int32 → Int32 → Int32 → zS → Nat), I a1 a2 a3 s ∧ ∀ (a1 : Int32) (a2 : Int32) (a3 : Int32) (s : zS), I a1 a2 a3 s → v_32_9 T P (fun a1' a2' a3' s' => I a1' a2' a3' s' ∧ μ a1' a2' a3' s' < μ a1 a2 a3 s) a1 a2 a3 s Q
def v_32_0 (T : Nat → List Value → zS → (Option Value → zS → Prop) → Prop) (P : Nat)  (a1 : Int32) (s : zS) (Q : Option Value → zS → Prop) : Prop :=
  ∀ s1, s1 = zt s 211 0 1 → vl_32_9 T P  a1 0 0 s1 Q
set_option maxRecDepth 20000 in
theorem m_32_94_3 {d d0 : Nat} (hd : d = d0 + 8)  {a1 : Int32} {a2 : Int32} {a3 : Int32} {s : zS} {Q : Option Value → zS → Prop}  (h : v_32_94 (fun j => Zt d (wd2 3 j) j) 3  a1 a2 a3 s Q) : Zn d [] [(0, 207)] ([(206, 3, 3)] : zW) ([(206, 3, 3)] : zW) xL_3 5 (none) xE_32 (xE_32.drop 94) [.ref 206, .int a1, .int a2, .int a3, .null, .null, .null] [] s Q := by
  unfold v_32_94 at h
  exact zn_ret0 rfl h
set_option maxRecDepth 20000 in
theorem m_32_92_3 {d d0 : Nat} (hd : d = d0 + 8) {R9 : Int32 → Int32 → Int32 → zS → Prop} {a1 : Int32} {a2 : Int32} {a3 : Int32} {a4 : Int32} {s : zS} {Q : Option Value → zS → Prop} (r9 : ∀ a1 a2 a3 s, R9 a1 a2 a3 s → Zn d [] [(0, 207)] ([(206, 3, 3)] : zW) ([(206, 3, 3)] : zW) xL_3 5 (none) xE_32 (xE_32.drop 9) [.ref 206, .int a1, .int a2, .int a3, .null, .null, .null] [] s Q) (h : v_32_92 (fun j => Zt d (wd2 3 j) j) 3 R9 a1 a2 a3 a4 s Q) : Zn d [] [(0, 207)] ([(206, 3, 3)] : zW) ([(206, 3, 3)] : zW) xL_3 5 (none) xE_32 (xE_32.drop 92) [.ref 206, .int a1, .int a2, .int a3, .int a4, .null, .null] [] s Q := by
  unfold v_32_92 at h
  replace h := h _ (i_add (x := a3) (y := 1) rfl (show (1 : Int32).toInt = 1 by decide))
  refine zn_inc [.ref 206, .int a1, .int a2, .int (a3 + 1), .int a4, .null, .null] rfl rfl rfl rfl ?_
  refine zn_go rfl ?_
  refine zn_fg 4 ?_
  exact r9 a1 a2 (a3 + 1) s h
set_option maxRecDepth 20000 in
theorem m_32_86_3 {d d0 : Nat} (hd : d = d0 + 8) {R9 : Int32 → Int32 → Int32 → zS → Prop} {a1 : Int32} {a2 : Int32} {a3 : Int32} {a4 : Int32} {s : zS} {Q : Option Value → zS → Prop} (r9 : ∀ a1 a2 a3 s, R9 a1 a2 a3 s → Zn d [] [(0, 207)] ([(206, 3, 3)] : zW) ([(206, 3, 3)] : zW) xL_3 5 (none) xE_32 (xE_32.drop 9) [.ref 206, .int a1, .int a2, .int a3, .null, .null, .null] [] s Q) (h : v_32_86 (fun j => Zt d (wd2 3 j) j) 3 R9 a1 a2 a3 a4 s Q) : Zn d [] [(0, 207)] ([(206, 3, 3)] : zW) ([(206, 3, 3)] : zW) xL_3 5 (none) xE_32 (xE_32.drop 86) [.ref 206, .int a1, .int a2, .int a3, .int a4, .null, .null] [] s Q := by
  unfold v_32_86 at h
  refine zn_ld rfl rfl rfl ?_
  refine zn_brP rfl rfl ⟨fun hcn => ?_, fun hcn => ?_⟩
  · replace h := h.1 ((i_le (x := a2) (y := 0) rfl (show (0 : Int32).toInt = 0 by decide)).mp hcn)
    exact m_32_92_3 hd r9 h
  · replace h := h.2 (fun q => hcn ((i_le (x := a2) (y := 0) rfl (show (0 : Int32).toInt = 0 by decide)).mpr q))
    refine zn_ld rfl rfl rfl ?_
    refine zn_get (v := .ref 207) rfl (zv_R (a := 206) rfl rfl) ?_
    refine zn_c [.int 44, .ref 207] (xo_push (.int 44)) rfl rfl ?_
    refine zn_add 44 [] (a := 207) hd rfl rfl rfl rfl ⟨Int32.le_toInt _, Int.le_of_lt_add_one (Int32.toInt_lt _)⟩ (fun q => absurd q (by decide)) rfl ?_
    replace h := h _ rfl
    exact m_32_92_3 hd r9 h
set_option maxRecDepth 20000 in
theorem m_32_63_3 {d d0 : Nat} (hd : d = d0 + 8) {R9 : Int32 → Int32 → Int32 → zS → Prop} {R63 : Int32 → Int32 → Int32 → Int32 → zS → Prop} {a1 : Int32} {a2 : Int32} {a3 : Int32} {a4 : Int32} {s : zS} {Q : Option Value → zS → Prop} (r9 : ∀ a1 a2 a3 s, R9 a1 a2 a3 s → Zn d [] [(0, 207)] ([(206, 3, 3)] : zW) ([(206, 3, 3)] : zW) xL_3 5 (none) xE_32 (xE_32.drop 9) [.ref 206, .int a1, .int a2, .int a3, .null, .null, .null] [] s Q) (r63 : ∀ a1 a2 a3 a4 s, R63 a1 a2 a3 a4 s → Zn d [] [(0, 207)] ([(206, 3, 3)] : zW) ([(206, 3, 3)] : zW) xL_3 5 (none) xE_32 (xE_32.drop 63) [.ref 206, .int a1, .int a2, .int a3, .int a4, .null, .null] [] s Q) (h : v_32_63 (fun j => Zt d (wd2 3 j) j) 3 R9 R63 a1 a2 a3 a4 s Q) : Zn d [] [(0, 207)] ([(206, 3, 3)] : zW) ([(206, 3, 3)] : zW) xL_3 5 (none) xE_32 (xE_32.drop 63) [.ref 206, .int a1, .int a2, .int a3, .int a4, .null, .null] [] s Q := by
  unfold v_32_63 at h
  refine zn_ld rfl rfl rfl ?_
  refine zn_brP rfl rfl ⟨fun hcn => ?_, fun hcn => ?_⟩
  · replace h := h.1 ((i_le (x := a2) (y := 0) rfl (show (0 : Int32).toInt = 0 by decide)).mp hcn)
    exact m_32_86_3 hd r9 h
  · replace h := h.2 (fun q => hcn ((i_le (x := a2) (y := 0) rfl (show (0 : Int32).toInt = 0 by decide)).mpr q))
    refine zn_ld rfl rfl rfl ?_
    refine zn_get (v := .ref 211) rfl (zv_R (a := 206) rfl rfl) ?_
    refine zn_ld rfl rfl rfl ?_
    refine zn_row a2 [] (a := 211) hd rfl rfl rfl rfl ?_
    change Zn _ _ _ _ _ _ _ _ _ _ _ [.int (zg s 211 a2)] _ _
    refine zn_brN rfl rfl ⟨fun hcn => ?_, fun hcn => ?_⟩
    · replace h := h.1 (fun q => hcn ((i_eq (x := zg s 211 a2) (y := 0) rfl (show (0 : Int32).toInt = 0 by decide)).mpr q))
      exact m_32_86_3 hd r9 h
    · replace h := h.2 ((i_eq (x := zg s 211 a2) (y := 0) rfl (show (0 : Int32).toInt = 0 by decide)).mp hcn)
      refine zn_ld rfl rfl rfl ?_
      refine zn_get (v := .ref 207) rfl (zv_R (a := 206) rfl rfl) ?_
      refine zn_c [.int 93, .ref 207] (xo_push (.int 93)) rfl rfl ?_
      refine zn_add 93 [] (a := 207) hd rfl rfl rfl rfl ⟨Int32.le_toInt _, Int.le_of_lt_add_one (Int32.toInt_lt _)⟩ (fun q => absurd q (by decide)) rfl ?_
      replace h := h _ rfl
      replace h := h _ (i_add (x := a2) (y := (-1)) rfl (show ((-1) : Int32).toInt = (-1) by decide))
      refine zn_inc [.ref 206, .int a1, .int (a2 + (-1)), .int a3, .int a4, .null, .null] rfl rfl rfl rfl ?_
      refine zn_ld rfl rfl rfl ?_
      refine zn_get (v := .ref 211) rfl (zv_R (a := 206) rfl rfl) ?_
      refine zn_ld rfl rfl rfl ?_
      refine zn_ld rfl rfl rfl ?_
      refine zn_get (v := .ref 211) rfl (zv_R (a := 206) rfl rfl) ?_
      refine zn_ld rfl rfl rfl ?_
      refine zn_row (a2 + (-1)) [.int (a2 + (-1)), .ref 211] (a := 211) hd rfl rfl rfl rfl ?_
      change Zn _ _ _ _ _ _ _ _ _ _ _ [.int (zg (za s 207 93) 211 (a2 + (-1))), .int (a2 + (-1)), .ref 211] _ _
      refine zn_c [.int 1, .int (zg (za s 207 93) 211 (a2 + (-1))), .int (a2 + (-1)), .ref 211] (xo_push (.int 1)) rfl rfl ?_
      replace h := h _ (i_sub (x := zg (za s 207 93) 211 (a2 + (-1))) (y := 1) rfl (show (1 : Int32).toInt = 1 by decide))
      refine zn_c [.int ((zg (za s 207 93) 211 (a2 + (-1))) - 1), .int (a2 + (-1)), .ref 211] xo_isub rfl rfl ?_
      refine zn_set (a2 + (-1)) ((zg (za s 207 93) 211 (a2 + (-1))) - 1) [] (a := 211) hd rfl rfl rfl rfl ⟨Int32.le_toInt _, Int.le_of_lt_add_one (Int32.toInt_lt _)⟩ rfl rfl ?_
      replace h := h _ rfl
      refine zn_go rfl ?_
      exact r63 a1 (a2 + (-1)) a3 a4 (zt (za s 207 93) 211 (a2 + (-1)) ((zg (za s 207 93) 211 (a2 + (-1))) - 1)) h
theorem ml_32_63_3 {d d0 : Nat} (hd : d = d0 + 8) {R9 : Int32 → Int32 → Int32 → zS → Prop} {a1 : Int32} {a2 : Int32} {a3 : Int32} {a4 : Int32} {s : zS} {Q : Option Value → zS → Prop} (r9 : ∀ a1 a2 a3 s, R9 a1 a2 a3 s → Zn d [] [(0, 207)] ([(206, 3, 3)] : zW) ([(206, 3, 3)] : zW) xL_3 5 (none) xE_32 (xE_32.drop 9) [.ref 206, .int a1, .int a2, .int a3, .null, .null, .null] [] s Q) (h : vl_32_63 (fun j => Zt d (wd2 3 j) j) 3 R9 a1 a2 a3 a4 s Q) : Zn d [] [(0, 207)] ([(206, 3, 3)] : zW) ([(206, 3, 3)] : zW) xL_3 5 (none) xE_32 (xE_32.drop 63) [.ref 206, .int a1, .int a2, .int a3, .int a4, .null, .null] [] s Q := by
  obtain ⟨I, μ, h0, h1⟩ := h
  have key : ∀ (n : Nat) (a1 : Int32) (a2 : Int32) (a3 : Int32) (a4 : Int32) (s : zS), μ a1 a2 a3 a4 s = n → I a1 a2 a3 a4 s → Zn d [] [(0, 207)] ([(206, 3, 3)] : zW) ([(206, 3, 3)] : zW) xL_3 5 (none) xE_32 (xE_32.drop 63) [.ref 206, .int a1, .int a2, .int a3, .int a4, .null, .null] [] s Q := by
    intro n
    induction n using Nat.strongRecOn with
    | ind n ih =>
      intro a1 a2 a3 a4 s e hI
      exact m_32_63_3 hd r9 (fun a1' a2' a3' a4' s' q => ih _ (by rw [← e]; exact q.2) a1' a2' a3' a4' s' rfl q.1) (h1 a1 a2 a3 a4 s hI)
  exact key _ a1 a2 a3 a4 s rfl h0
set_option maxRecDepth 20000 in
theorem m_32_9_3 {d d0 : Nat} (hd : d = d0 + 8) {R9 : Int32 → Int32 → Int32 → zS → Prop} {a1 : Int32} {a2 : Int32} {a3 : Int32} {s : zS} {Q : Option Value → zS → Prop} (r9 : ∀ a1 a2 a3 s, R9 a1 a2 a3 s → Zn d [] [(0, 207)] ([(206, 3, 3)] : zW) ([(206, 3, 3)] : zW) xL_3 5 (none) xE_32 (xE_32.drop 9) [.ref 206, .int a1, .int a2, .int a3, .null, .null, .null] [] s Q) (h : v_32_9 (fun j => Zt d (wd2 3 j) j) 3 R9 a1 a2 a3 s Q) : Zn d [] [(0, 207)] ([(206, 3, 3)] : zW) ([(206, 3, 3)] : zW) xL_3 5 (none) xE_32 (xE_32.drop 9) [.ref 206, .int a1, .int a2, .int a3, .null, .null, .null] [] s Q := by
  unfold v_32_9 at h
  refine zn_ld rfl rfl rfl ?_
  refine zn_c [.int 60, .int a3] (xo_push (.int 60)) rfl rfl ?_
  refine zn_brP rfl rfl ⟨fun hcn => ?_, fun hcn => ?_⟩
  · replace h := h.1 ((i_le (x := 60) (y := a3) (show (60 : Int32).toInt = 60 by decide) rfl).mp hcn)
    exact m_32_94_3 hd  h
  · replace h := h.2 (fun q => hcn ((i_le (x := 60) (y := a3) (show (60 : Int32).toInt = 60 by decide) rfl).mpr q))
    refine zn_ld rfl rfl rfl ?_
    refine zn_get (v := .ref 211) rfl (zv_R (a := 206) rfl rfl) ?_
    refine zn_c [.int 0, .ref 211] (xo_push (.int 0)) rfl rfl ?_
    refine zn_row 0 [] (a := 211) hd rfl rfl rfl rfl ?_
    change Zn _ _ _ _ _ _ _ _ _ _ _ [.int (zg s 211 0)] _ _
    refine zn_brP rfl rfl ⟨fun hcn => ?_, fun hcn => ?_⟩
    · replace h := h.1 ((i_le (x := zg s 211 0) (y := 0) rfl (show (0 : Int32).toInt = 0 by decide)).mp hcn)
      exact m_32_94_3 hd  h
    · replace h := h.2 (fun q => hcn ((i_le (x := zg s 211 0) (y := 0) rfl (show (0 : Int32).toInt = 0 by decide)).mpr q))
      refine zn_ld rfl rfl rfl ?_
      refine zn_get (v := .ref 3) rfl (zv_C (a := 206) (n := 0) rfl rfl rfl) ?_
      refine zn_get (v := .ref 21) rfl (zv_R (a := 3) rfl rfl) ?_
      refine zn_ld rfl rfl rfl ?_
      refine zn_ld rfl rfl rfl ?_
      replace h := h _ (i_add (x := a1) (y := a3) rfl rfl)
      refine zn_c [.int (a1 + a3), .ref 21] xo_iadd rfl rfl ?_
      refine zn_row (a1 + a3) [] (a := 21) hd rfl rfl rfl rfl ?_
      change Zn _ _ _ _ _ _ _ _ _ _ _ [.int (zg s 21 (a1 + a3))] _ _
      refine zn_st [.ref 206, .int a1, .int a2, .int a3, .int (zg s 21 (a1 + a3)), .null, .null] rfl rfl rfl ?_
      refine zn_ld rfl rfl rfl ?_
      refine zn_ld rfl rfl rfl ?_
      refine zn_get (v := .ref 3) rfl (zv_C (a := 206) (n := 0) rfl rfl rfl) ?_
      refine zn_ld rfl rfl rfl ?_
      refine zn_c [.int 0, .int (zg s 21 (a1 + a3)), .ref 3, .ref 206] (xo_push (.int 0)) rfl rfl ?_
      refine zn_zt [.ref 3, .int (zg s 21 (a1 + a3)), .int 0] [.ref 206] (c := []) rfl rfl rfl rfl rfl (Zt.imp (zp_39 hd (Or.inl rfl)) (fun vq sq hq => ?_))
      obtain ⟨rfl, hq⟩ := hq
      rw [hq]
      change Zn _ _ _ _ _ _ _ _ _ _ _ [.int (zg s 27 ((zg s 21 (a1 + a3)) * 6 + 0)), .ref 206] _ _
      refine zn_zt [.ref 206, .int (zg s 27 ((zg s 21 (a1 + a3)) * 6 + 0))] [] rfl rfl rfl rfl rfl (Zt.imp h (fun v3 s4 h => ?_))
      obtain ⟨rfl, h⟩ := h
      change Zn _ _ _ _ _ _ _ _ _ _ _ [] _ _
      refine zn_ld rfl rfl rfl ?_
      refine zn_get (v := .ref 3) rfl (zv_C (a := 206) (n := 0) rfl rfl rfl) ?_
      refine zn_get (v := .ref 25) rfl (zv_R (a := 3) rfl rfl) ?_
      refine zn_ld rfl rfl rfl ?_
      refine zn_row (zg s 21 (a1 + a3)) [] (a := 25) hd rfl rfl rfl rfl ?_
      change Zn _ _ _ _ _ _ _ _ _ _ _ [.int (zg s4 25 (zg s 21 (a1 + a3)))] _ _
      refine zn_brP rfl rfl ⟨fun hcn => ?_, fun hcn => ?_⟩
      · replace h := h.1 ((i_le (x := zg s4 25 (zg s 21 (a1 + a3))) (y := 0) rfl (show (0 : Int32).toInt = 0 by decide)).mp hcn)
        refine zn_ld rfl rfl rfl ?_
        refine zn_get (v := .ref 211) rfl (zv_R (a := 206) rfl rfl) ?_
        refine zn_ld rfl rfl rfl ?_
        refine zn_ld rfl rfl rfl ?_
        refine zn_get (v := .ref 211) rfl (zv_R (a := 206) rfl rfl) ?_
        refine zn_ld rfl rfl rfl ?_
        refine zn_row a2 [.int a2, .ref 211] (a := 211) hd rfl rfl rfl rfl ?_
        change Zn _ _ _ _ _ _ _ _ _ _ _ [.int (zg s4 211 a2), .int a2, .ref 211] _ _
        refine zn_c [.int 1, .int (zg s4 211 a2), .int a2, .ref 211] (xo_push (.int 1)) rfl rfl ?_
        replace h := h _ (i_sub (x := zg s4 211 a2) (y := 1) rfl (show (1 : Int32).toInt = 1 by decide))
        refine zn_c [.int ((zg s4 211 a2) - 1), .int a2, .ref 211] xo_isub rfl rfl ?_
        refine zn_set a2 ((zg s4 211 a2) - 1) [] (a := 211) hd rfl rfl rfl rfl ⟨Int32.le_toInt _, Int.le_of_lt_add_one (Int32.toInt_lt _)⟩ rfl rfl ?_
        replace h := h _ rfl
        exact ml_32_63_3 hd r9 h
      · replace h := h.2 (fun q => hcn ((i_le (x := zg s4 25 (zg s 21 (a1 + a3))) (y := 0) rfl (show (0 : Int32).toInt = 0 by decide)).mpr q))
        replace h := h _ (i_add (x := a2) (y := 1) rfl (show (1 : Int32).toInt = 1 by decide))
        refine zn_inc [.ref 206, .int a1, .int (a2 + 1), .int a3, .int (zg s 21 (a1 + a3)), .null, .null] rfl rfl rfl rfl ?_
        refine zn_ld rfl rfl rfl ?_
        refine zn_get (v := .ref 211) rfl (zv_R (a := 206) rfl rfl) ?_
        refine zn_ld rfl rfl rfl ?_
        refine zn_ld rfl rfl rfl ?_
        refine zn_get (v := .ref 3) rfl (zv_C (a := 206) (n := 0) rfl rfl rfl) ?_
        refine zn_get (v := .ref 25) rfl (zv_R (a := 3) rfl rfl) ?_
        refine zn_ld rfl rfl rfl ?_
        refine zn_row (zg s 21 (a1 + a3)) [.int (a2 + 1), .ref 211] (a := 25) hd rfl rfl rfl rfl ?_
        change Zn _ _ _ _ _ _ _ _ _ _ _ [.int (zg s4 25 (zg s 21 (a1 + a3))), .int (a2 + 1), .ref 211] _ _
        refine zn_set (a2 + 1) (zg s4 25 (zg s 21 (a1 + a3))) [] (a := 211) hd rfl rfl rfl rfl ⟨Int32.le_toInt _, Int.le_of_lt_add_one (Int32.toInt_lt _)⟩ rfl rfl ?_
        replace h := h _ rfl
        refine zn_ld rfl rfl rfl ?_
        refine zn_get (v := .ref 207) rfl (zv_R (a := 206) rfl rfl) ?_
        refine zn_c [.int 91, .ref 207] (xo_push (.int 91)) rfl rfl ?_
        refine zn_add 91 [] (a := 207) hd rfl rfl rfl rfl ⟨Int32.le_toInt _, Int.le_of_lt_add_one (Int32.toInt_lt _)⟩ (fun q => absurd q (by decide)) rfl ?_
        replace h := h _ rfl
        refine zn_go rfl ?_
        exact m_32_92_3 hd r9 h
theorem ml_32_9_3 {d d0 : Nat} (hd : d = d0 + 8)  {a1 : Int32} {a2 : Int32} {a3 : Int32} {s : zS} {Q : Option Value → zS → Prop}  (h : vl_32_9 (fun j => Zt d (wd2 3 j) j) 3  a1 a2 a3 s Q) : Zn d [] [(0, 207)] ([(206, 3, 3)] : zW) ([(206, 3, 3)] : zW) xL_3 5 (none) xE_32 (xE_32.drop 9) [.ref 206, .int a1, .int a2, .int a3, .null, .null, .null] [] s Q := by
  obtain ⟨I, μ, h0, h1⟩ := h
  have key : ∀ (n : Nat) (a1 : Int32) (a2 : Int32) (a3 : Int32) (s : zS), μ a1 a2 a3 s = n → I a1 a2 a3 s → Zn d [] [(0, 207)] ([(206, 3, 3)] : zW) ([(206, 3, 3)] : zW) xL_3 5 (none) xE_32 (xE_32.drop 9) [.ref 206, .int a1, .int a2, .int a3, .null, .null, .null] [] s Q := by
    intro n
    induction n using Nat.strongRecOn with
    | ind n ih =>
      intro a1 a2 a3 s e hI
      exact m_32_9_3 hd (fun a1' a2' a3' s' q => ih _ (by rw [← e]; exact q.2) a1' a2' a3' s' rfl q.1) (h1 a1 a2 a3 s hI)
  exact key _ a1 a2 a3 s rfl h0
set_option maxRecDepth 20000 in
theorem m_32_0_3 {d d0 : Nat} (hd : d = d0 + 8)  {a1 : Int32} {s : zS} {Q : Option Value → zS → Prop}  (h : v_32_0 (fun j => Zt d (wd2 3 j) j) 3  a1 s Q) : Zn d [] [(0, 207)] ([(206, 3, 3)] : zW) ([(206, 3, 3)] : zW) xL_3 5 (none) xE_32 (xE_32.drop 0) [.ref 206, .int a1, .null, .null, .null, .null, .null] [] s Q := by
  unfold v_32_0 at h
  refine zn_c [.int 0] (xo_push (.int 0)) rfl rfl ?_
  refine zn_st [.ref 206, .int a1, .int 0, .null, .null, .null, .null] rfl rfl rfl ?_
  refine zn_ld rfl rfl rfl ?_
  refine zn_get (v := .ref 211) rfl (zv_R (a := 206) rfl rfl) ?_
  refine zn_c [.int 0, .ref 211] (xo_push (.int 0)) rfl rfl ?_
  refine zn_c [.int 1, .int 0, .ref 211] (xo_push (.int 1)) rfl rfl ?_
  refine zn_set 0 1 [] (a := 211) hd rfl rfl rfl rfl ⟨Int32.le_toInt _, Int.le_of_lt_add_one (Int32.toInt_lt _)⟩ rfl rfl ?_
  replace h := h _ rfl
  refine zn_c [.int 0] (xo_push (.int 0)) rfl rfl ?_
  refine zn_st [.ref 206, .int a1, .int 0, .int 0, .null, .null, .null] rfl rfl rfl ?_
  exact ml_32_9_3 hd  h
theorem zq_32_3 {d : Nat} {a1 : Int32} {s : zS} {Q : Option Value → zS → Prop} (h : v_32_0 (fun j => Zt (d + 8) (wd2 3 j) j) 3 a1 s Q) : Zt (d + 9) ([(206, 3, 3)] : zW) 32 [.ref 206, .int a1] s Q := zt_of (E := xE_32) (L := xL_3) (ml := 5) (ret := none) rfl rfl rfl (m_32_0_3 rfl h)
set_option maxRecDepth 20000 in
theorem m_32_94_39 {d d0 : Nat} (hd : d = d0 + 8)  {a1 : Int32} {a2 : Int32} {a3 : Int32} {s : zS} {Q : Option Value → zS → Prop}  (h : v_32_94 (fun j => Zt d (wd2 39 j) j) 39  a1 a2 a3 s Q) : Zn d [] [(0, 207)] ([(206, 3, 39)] : zW) ([(206, 3, 39)] : zW) xL_3 5 (none) xE_32 (xE_32.drop 94) [.ref 206, .int a1, .int a2, .int a3, .null, .null, .null] [] s Q := by
  unfold v_32_94 at h
  exact zn_ret0 rfl h
set_option maxRecDepth 20000 in
theorem m_32_92_39 {d d0 : Nat} (hd : d = d0 + 8) {R9 : Int32 → Int32 → Int32 → zS → Prop} {a1 : Int32} {a2 : Int32} {a3 : Int32} {a4 : Int32} {s : zS} {Q : Option Value → zS → Prop} (r9 : ∀ a1 a2 a3 s, R9 a1 a2 a3 s → Zn d [] [(0, 207)] ([(206, 3, 39)] : zW) ([(206, 3, 39)] : zW) xL_3 5 (none) xE_32 (xE_32.drop 9) [.ref 206, .int a1, .int a2, .int a3, .null, .null, .null] [] s Q) (h : v_32_92 (fun j => Zt d (wd2 39 j) j) 39 R9 a1 a2 a3 a4 s Q) : Zn d [] [(0, 207)] ([(206, 3, 39)] : zW) ([(206, 3, 39)] : zW) xL_3 5 (none) xE_32 (xE_32.drop 92) [.ref 206, .int a1, .int a2, .int a3, .int a4, .null, .null] [] s Q := by
  unfold v_32_92 at h
  replace h := h _ (i_add (x := a3) (y := 1) rfl (show (1 : Int32).toInt = 1 by decide))
  refine zn_inc [.ref 206, .int a1, .int a2, .int (a3 + 1), .int a4, .null, .null] rfl rfl rfl rfl ?_
  refine zn_go rfl ?_
  refine zn_fg 4 ?_
  exact r9 a1 a2 (a3 + 1) s h
set_option maxRecDepth 20000 in
theorem m_32_86_39 {d d0 : Nat} (hd : d = d0 + 8) {R9 : Int32 → Int32 → Int32 → zS → Prop} {a1 : Int32} {a2 : Int32} {a3 : Int32} {a4 : Int32} {s : zS} {Q : Option Value → zS → Prop} (r9 : ∀ a1 a2 a3 s, R9 a1 a2 a3 s → Zn d [] [(0, 207)] ([(206, 3, 39)] : zW) ([(206, 3, 39)] : zW) xL_3 5 (none) xE_32 (xE_32.drop 9) [.ref 206, .int a1, .int a2, .int a3, .null, .null, .null] [] s Q) (h : v_32_86 (fun j => Zt d (wd2 39 j) j) 39 R9 a1 a2 a3 a4 s Q) : Zn d [] [(0, 207)] ([(206, 3, 39)] : zW) ([(206, 3, 39)] : zW) xL_3 5 (none) xE_32 (xE_32.drop 86) [.ref 206, .int a1, .int a2, .int a3, .int a4, .null, .null] [] s Q := by
  unfold v_32_86 at h
  refine zn_ld rfl rfl rfl ?_
  refine zn_brP rfl rfl ⟨fun hcn => ?_, fun hcn => ?_⟩
  · replace h := h.1 ((i_le (x := a2) (y := 0) rfl (show (0 : Int32).toInt = 0 by decide)).mp hcn)
    exact m_32_92_39 hd r9 h
  · replace h := h.2 (fun q => hcn ((i_le (x := a2) (y := 0) rfl (show (0 : Int32).toInt = 0 by decide)).mpr q))
    refine zn_ld rfl rfl rfl ?_
    refine zn_get (v := .ref 207) rfl (zv_R (a := 206) rfl rfl) ?_
    refine zn_c [.int 44, .ref 207] (xo_push (.int 44)) rfl rfl ?_
    refine zn_add 44 [] (a := 207) hd rfl rfl rfl rfl ⟨Int32.le_toInt _, Int.le_of_lt_add_one (Int32.toInt_lt _)⟩ (fun q => absurd q (by decide)) rfl ?_
    replace h := h _ rfl
    exact m_32_92_39 hd r9 h
set_option maxRecDepth 20000 in
theorem m_32_63_39 {d d0 : Nat} (hd : d = d0 + 8) {R9 : Int32 → Int32 → Int32 → zS → Prop} {R63 : Int32 → Int32 → Int32 → Int32 → zS → Prop} {a1 : Int32} {a2 : Int32} {a3 : Int32} {a4 : Int32} {s : zS} {Q : Option Value → zS → Prop} (r9 : ∀ a1 a2 a3 s, R9 a1 a2 a3 s → Zn d [] [(0, 207)] ([(206, 3, 39)] : zW) ([(206, 3, 39)] : zW) xL_3 5 (none) xE_32 (xE_32.drop 9) [.ref 206, .int a1, .int a2, .int a3, .null, .null, .null] [] s Q) (r63 : ∀ a1 a2 a3 a4 s, R63 a1 a2 a3 a4 s → Zn d [] [(0, 207)] ([(206, 3, 39)] : zW) ([(206, 3, 39)] : zW) xL_3 5 (none) xE_32 (xE_32.drop 63) [.ref 206, .int a1, .int a2, .int a3, .int a4, .null, .null] [] s Q) (h : v_32_63 (fun j => Zt d (wd2 39 j) j) 39 R9 R63 a1 a2 a3 a4 s Q) : Zn d [] [(0, 207)] ([(206, 3, 39)] : zW) ([(206, 3, 39)] : zW) xL_3 5 (none) xE_32 (xE_32.drop 63) [.ref 206, .int a1, .int a2, .int a3, .int a4, .null, .null] [] s Q := by
  unfold v_32_63 at h
  refine zn_ld rfl rfl rfl ?_
  refine zn_brP rfl rfl ⟨fun hcn => ?_, fun hcn => ?_⟩
  · replace h := h.1 ((i_le (x := a2) (y := 0) rfl (show (0 : Int32).toInt = 0 by decide)).mp hcn)
    exact m_32_86_39 hd r9 h
  · replace h := h.2 (fun q => hcn ((i_le (x := a2) (y := 0) rfl (show (0 : Int32).toInt = 0 by decide)).mpr q))
    refine zn_ld rfl rfl rfl ?_
    refine zn_get (v := .ref 211) rfl (zv_R (a := 206) rfl rfl) ?_
    refine zn_ld rfl rfl rfl ?_
    refine zn_row a2 [] (a := 211) hd rfl rfl rfl rfl ?_
    change Zn _ _ _ _ _ _ _ _ _ _ _ [.int (zg s 211 a2)] _ _
    refine zn_brN rfl rfl ⟨fun hcn => ?_, fun hcn => ?_⟩
    · replace h := h.1 (fun q => hcn ((i_eq (x := zg s 211 a2) (y := 0) rfl (show (0 : Int32).toInt = 0 by decide)).mpr q))
      exact m_32_86_39 hd r9 h
    · replace h := h.2 ((i_eq (x := zg s 211 a2) (y := 0) rfl (show (0 : Int32).toInt = 0 by decide)).mp hcn)
      refine zn_ld rfl rfl rfl ?_
      refine zn_get (v := .ref 207) rfl (zv_R (a := 206) rfl rfl) ?_
      refine zn_c [.int 93, .ref 207] (xo_push (.int 93)) rfl rfl ?_
      refine zn_add 93 [] (a := 207) hd rfl rfl rfl rfl ⟨Int32.le_toInt _, Int.le_of_lt_add_one (Int32.toInt_lt _)⟩ (fun q => absurd q (by decide)) rfl ?_
      replace h := h _ rfl
      replace h := h _ (i_add (x := a2) (y := (-1)) rfl (show ((-1) : Int32).toInt = (-1) by decide))
      refine zn_inc [.ref 206, .int a1, .int (a2 + (-1)), .int a3, .int a4, .null, .null] rfl rfl rfl rfl ?_
      refine zn_ld rfl rfl rfl ?_
      refine zn_get (v := .ref 211) rfl (zv_R (a := 206) rfl rfl) ?_
      refine zn_ld rfl rfl rfl ?_
      refine zn_ld rfl rfl rfl ?_
      refine zn_get (v := .ref 211) rfl (zv_R (a := 206) rfl rfl) ?_
      refine zn_ld rfl rfl rfl ?_
      refine zn_row (a2 + (-1)) [.int (a2 + (-1)), .ref 211] (a := 211) hd rfl rfl rfl rfl ?_
      change Zn _ _ _ _ _ _ _ _ _ _ _ [.int (zg (za s 207 93) 211 (a2 + (-1))), .int (a2 + (-1)), .ref 211] _ _
      refine zn_c [.int 1, .int (zg (za s 207 93) 211 (a2 + (-1))), .int (a2 + (-1)), .ref 211] (xo_push (.int 1)) rfl rfl ?_
      replace h := h _ (i_sub (x := zg (za s 207 93) 211 (a2 + (-1))) (y := 1) rfl (show (1 : Int32).toInt = 1 by decide))
      refine zn_c [.int ((zg (za s 207 93) 211 (a2 + (-1))) - 1), .int (a2 + (-1)), .ref 211] xo_isub rfl rfl ?_
      refine zn_set (a2 + (-1)) ((zg (za s 207 93) 211 (a2 + (-1))) - 1) [] (a := 211) hd rfl rfl rfl rfl ⟨Int32.le_toInt _, Int.le_of_lt_add_one (Int32.toInt_lt _)⟩ rfl rfl ?_
      replace h := h _ rfl
      refine zn_go rfl ?_
      exact r63 a1 (a2 + (-1)) a3 a4 (zt (za s 207 93) 211 (a2 + (-1)) ((zg (za s 207 93) 211 (a2 + (-1))) - 1)) h
theorem ml_32_63_39 {d d0 : Nat} (hd : d = d0 + 8) {R9 : Int32 → Int32 → Int32 → zS → Prop} {a1 : Int32} {a2 : Int32} {a3 : Int32} {a4 : Int32} {s : zS} {Q : Option Value → zS → Prop} (r9 : ∀ a1 a2 a3 s, R9 a1 a2 a3 s → Zn d [] [(0, 207)] ([(206, 3, 39)] : zW) ([(206, 3, 39)] : zW) xL_3 5 (none) xE_32 (xE_32.drop 9) [.ref 206, .int a1, .int a2, .int a3, .null, .null, .null] [] s Q) (h : vl_32_63 (fun j => Zt d (wd2 39 j) j) 39 R9 a1 a2 a3 a4 s Q) : Zn d [] [(0, 207)] ([(206, 3, 39)] : zW) ([(206, 3, 39)] : zW) xL_3 5 (none) xE_32 (xE_32.drop 63) [.ref 206, .int a1, .int a2, .int a3, .int a4, .null, .null] [] s Q := by
  obtain ⟨I, μ, h0, h1⟩ := h
  have key : ∀ (n : Nat) (a1 : Int32) (a2 : Int32) (a3 : Int32) (a4 : Int32) (s : zS), μ a1 a2 a3 a4 s = n → I a1 a2 a3 a4 s → Zn d [] [(0, 207)] ([(206, 3, 39)] : zW) ([(206, 3, 39)] : zW) xL_3 5 (none) xE_32 (xE_32.drop 63) [.ref 206, .int a1, .int a2, .int a3, .int a4, .null, .null] [] s Q := by
    intro n
    induction n using Nat.strongRecOn with
    | ind n ih =>
      intro a1 a2 a3 a4 s e hI
      exact m_32_63_39 hd r9 (fun a1' a2' a3' a4' s' q => ih _ (by rw [← e]; exact q.2) a1' a2' a3' a4' s' rfl q.1) (h1 a1 a2 a3 a4 s hI)
  exact key _ a1 a2 a3 a4 s rfl h0
set_option maxRecDepth 20000 in
theorem m_32_9_39 {d d0 : Nat} (hd : d = d0 + 8) {R9 : Int32 → Int32 → Int32 → zS → Prop} {a1 : Int32} {a2 : Int32} {a3 : Int32} {s : zS} {Q : Option Value → zS → Prop} (r9 : ∀ a1 a2 a3 s, R9 a1 a2 a3 s → Zn d [] [(0, 207)] ([(206, 3, 39)] : zW) ([(206, 3, 39)] : zW) xL_3 5 (none) xE_32 (xE_32.drop 9) [.ref 206, .int a1, .int a2, .int a3, .null, .null, .null] [] s Q) (h : v_32_9 (fun j => Zt d (wd2 39 j) j) 39 R9 a1 a2 a3 s Q) : Zn d [] [(0, 207)] ([(206, 3, 39)] : zW) ([(206, 3, 39)] : zW) xL_3 5 (none) xE_32 (xE_32.drop 9) [.ref 206, .int a1, .int a2, .int a3, .null, .null, .null] [] s Q := by
  unfold v_32_9 at h
  refine zn_ld rfl rfl rfl ?_
  refine zn_c [.int 60, .int a3] (xo_push (.int 60)) rfl rfl ?_
  refine zn_brP rfl rfl ⟨fun hcn => ?_, fun hcn => ?_⟩
  · replace h := h.1 ((i_le (x := 60) (y := a3) (show (60 : Int32).toInt = 60 by decide) rfl).mp hcn)
    exact m_32_94_39 hd  h
  · replace h := h.2 (fun q => hcn ((i_le (x := 60) (y := a3) (show (60 : Int32).toInt = 60 by decide) rfl).mpr q))
    refine zn_ld rfl rfl rfl ?_
    refine zn_get (v := .ref 211) rfl (zv_R (a := 206) rfl rfl) ?_
    refine zn_c [.int 0, .ref 211] (xo_push (.int 0)) rfl rfl ?_
    refine zn_row 0 [] (a := 211) hd rfl rfl rfl rfl ?_
    change Zn _ _ _ _ _ _ _ _ _ _ _ [.int (zg s 211 0)] _ _
    refine zn_brP rfl rfl ⟨fun hcn => ?_, fun hcn => ?_⟩
    · replace h := h.1 ((i_le (x := zg s 211 0) (y := 0) rfl (show (0 : Int32).toInt = 0 by decide)).mp hcn)
      exact m_32_94_39 hd  h
    · replace h := h.2 (fun q => hcn ((i_le (x := zg s 211 0) (y := 0) rfl (show (0 : Int32).toInt = 0 by decide)).mpr q))
      refine zn_ld rfl rfl rfl ?_
      refine zn_get (v := .ref 39) rfl (zv_C (a := 206) (n := 0) rfl rfl rfl) ?_
      refine zn_get (v := .ref 57) rfl (zv_R (a := 39) rfl rfl) ?_
      refine zn_ld rfl rfl rfl ?_
      refine zn_ld rfl rfl rfl ?_
      replace h := h _ (i_add (x := a1) (y := a3) rfl rfl)
      refine zn_c [.int (a1 + a3), .ref 57] xo_iadd rfl rfl ?_
      refine zn_row (a1 + a3) [] (a := 57) hd rfl rfl rfl rfl ?_
      change Zn _ _ _ _ _ _ _ _ _ _ _ [.int (zg s 57 (a1 + a3))] _ _
      refine zn_st [.ref 206, .int a1, .int a2, .int a3, .int (zg s 57 (a1 + a3)), .null, .null] rfl rfl rfl ?_
      refine zn_ld rfl rfl rfl ?_
      refine zn_ld rfl rfl rfl ?_
      refine zn_get (v := .ref 39) rfl (zv_C (a := 206) (n := 0) rfl rfl rfl) ?_
      refine zn_ld rfl rfl rfl ?_
      refine zn_c [.int 0, .int (zg s 57 (a1 + a3)), .ref 39, .ref 206] (xo_push (.int 0)) rfl rfl ?_
      refine zn_zt [.ref 39, .int (zg s 57 (a1 + a3)), .int 0] [.ref 206] (c := []) rfl rfl rfl rfl rfl (Zt.imp (zp_39 hd (Or.inr rfl)) (fun vq sq hq => ?_))
      obtain ⟨rfl, hq⟩ := hq
      rw [hq]
      change Zn _ _ _ _ _ _ _ _ _ _ _ [.int (zg s 63 ((zg s 57 (a1 + a3)) * 6 + 0)), .ref 206] _ _
      refine zn_zt [.ref 206, .int (zg s 63 ((zg s 57 (a1 + a3)) * 6 + 0))] [] rfl rfl rfl rfl rfl (Zt.imp h (fun v3 s4 h => ?_))
      obtain ⟨rfl, h⟩ := h
      change Zn _ _ _ _ _ _ _ _ _ _ _ [] _ _
      refine zn_ld rfl rfl rfl ?_
      refine zn_get (v := .ref 39) rfl (zv_C (a := 206) (n := 0) rfl rfl rfl) ?_
      refine zn_get (v := .ref 61) rfl (zv_R (a := 39) rfl rfl) ?_
      refine zn_ld rfl rfl rfl ?_
      refine zn_row (zg s 57 (a1 + a3)) [] (a := 61) hd rfl rfl rfl rfl ?_
      change Zn _ _ _ _ _ _ _ _ _ _ _ [.int (zg s4 61 (zg s 57 (a1 + a3)))] _ _
      refine zn_brP rfl rfl ⟨fun hcn => ?_, fun hcn => ?_⟩
      · replace h := h.1 ((i_le (x := zg s4 61 (zg s 57 (a1 + a3))) (y := 0) rfl (show (0 : Int32).toInt = 0 by decide)).mp hcn)
        refine zn_ld rfl rfl rfl ?_
        refine zn_get (v := .ref 211) rfl (zv_R (a := 206) rfl rfl) ?_
        refine zn_ld rfl rfl rfl ?_
        refine zn_ld rfl rfl rfl ?_
        refine zn_get (v := .ref 211) rfl (zv_R (a := 206) rfl rfl) ?_
        refine zn_ld rfl rfl rfl ?_
        refine zn_row a2 [.int a2, .ref 211] (a := 211) hd rfl rfl rfl rfl ?_
        change Zn _ _ _ _ _ _ _ _ _ _ _ [.int (zg s4 211 a2), .int a2, .ref 211] _ _
        refine zn_c [.int 1, .int (zg s4 211 a2), .int a2, .ref 211] (xo_push (.int 1)) rfl rfl ?_
        replace h := h _ (i_sub (x := zg s4 211 a2) (y := 1) rfl (show (1 : Int32).toInt = 1 by decide))
        refine zn_c [.int ((zg s4 211 a2) - 1), .int a2, .ref 211] xo_isub rfl rfl ?_
        refine zn_set a2 ((zg s4 211 a2) - 1) [] (a := 211) hd rfl rfl rfl rfl ⟨Int32.le_toInt _, Int.le_of_lt_add_one (Int32.toInt_lt _)⟩ rfl rfl ?_
        replace h := h _ rfl
        exact ml_32_63_39 hd r9 h
      · replace h := h.2 (fun q => hcn ((i_le (x := zg s4 61 (zg s 57 (a1 + a3))) (y := 0) rfl (show (0 : Int32).toInt = 0 by decide)).mpr q))
        replace h := h _ (i_add (x := a2) (y := 1) rfl (show (1 : Int32).toInt = 1 by decide))
        refine zn_inc [.ref 206, .int a1, .int (a2 + 1), .int a3, .int (zg s 57 (a1 + a3)), .null, .null] rfl rfl rfl rfl ?_
        refine zn_ld rfl rfl rfl ?_
        refine zn_get (v := .ref 211) rfl (zv_R (a := 206) rfl rfl) ?_
        refine zn_ld rfl rfl rfl ?_
        refine zn_ld rfl rfl rfl ?_
        refine zn_get (v := .ref 39) rfl (zv_C (a := 206) (n := 0) rfl rfl rfl) ?_
        refine zn_get (v := .ref 61) rfl (zv_R (a := 39) rfl rfl) ?_
        refine zn_ld rfl rfl rfl ?_
        refine zn_row (zg s 57 (a1 + a3)) [.int (a2 + 1), .ref 211] (a := 61) hd rfl rfl rfl rfl ?_
        change Zn _ _ _ _ _ _ _ _ _ _ _ [.int (zg s4 61 (zg s 57 (a1 + a3))), .int (a2 + 1), .ref 211] _ _
        refine zn_set (a2 + 1) (zg s4 61 (zg s 57 (a1 + a3))) [] (a := 211) hd rfl rfl rfl rfl ⟨Int32.le_toInt _, Int.le_of_lt_add_one (Int32.toInt_lt _)⟩ rfl rfl ?_
        replace h := h _ rfl
        refine zn_ld rfl rfl rfl ?_
        refine zn_get (v := .ref 207) rfl (zv_R (a := 206) rfl rfl) ?_
        refine zn_c [.int 91, .ref 207] (xo_push (.int 91)) rfl rfl ?_
        refine zn_add 91 [] (a := 207) hd rfl rfl rfl rfl ⟨Int32.le_toInt _, Int.le_of_lt_add_one (Int32.toInt_lt _)⟩ (fun q => absurd q (by decide)) rfl ?_
        replace h := h _ rfl
        refine zn_go rfl ?_
        exact m_32_92_39 hd r9 h
theorem ml_32_9_39 {d d0 : Nat} (hd : d = d0 + 8)  {a1 : Int32} {a2 : Int32} {a3 : Int32} {s : zS} {Q : Option Value → zS → Prop}  (h : vl_32_9 (fun j => Zt d (wd2 39 j) j) 39  a1 a2 a3 s Q) : Zn d [] [(0, 207)] ([(206, 3, 39)] : zW) ([(206, 3, 39)] : zW) xL_3 5 (none) xE_32 (xE_32.drop 9) [.ref 206, .int a1, .int a2, .int a3, .null, .null, .null] [] s Q := by
  obtain ⟨I, μ, h0, h1⟩ := h
  have key : ∀ (n : Nat) (a1 : Int32) (a2 : Int32) (a3 : Int32) (s : zS), μ a1 a2 a3 s = n → I a1 a2 a3 s → Zn d [] [(0, 207)] ([(206, 3, 39)] : zW) ([(206, 3, 39)] : zW) xL_3 5 (none) xE_32 (xE_32.drop 9) [.ref 206, .int a1, .int a2, .int a3, .null, .null, .null] [] s Q := by
    intro n
    induction n using Nat.strongRecOn with
    | ind n ih =>
      intro a1 a2 a3 s e hI
      exact m_32_9_39 hd (fun a1' a2' a3' s' q => ih _ (by rw [← e]; exact q.2) a1' a2' a3' s' rfl q.1) (h1 a1 a2 a3 s hI)
  exact key _ a1 a2 a3 s rfl h0
set_option maxRecDepth 20000 in
theorem m_32_0_39 {d d0 : Nat} (hd : d = d0 + 8)  {a1 : Int32} {s : zS} {Q : Option Value → zS → Prop}  (h : v_32_0 (fun j => Zt d (wd2 39 j) j) 39  a1 s Q) : Zn d [] [(0, 207)] ([(206, 3, 39)] : zW) ([(206, 3, 39)] : zW) xL_3 5 (none) xE_32 (xE_32.drop 0) [.ref 206, .int a1, .null, .null, .null, .null, .null] [] s Q := by
  unfold v_32_0 at h
  refine zn_c [.int 0] (xo_push (.int 0)) rfl rfl ?_
  refine zn_st [.ref 206, .int a1, .int 0, .null, .null, .null, .null] rfl rfl rfl ?_
  refine zn_ld rfl rfl rfl ?_
  refine zn_get (v := .ref 211) rfl (zv_R (a := 206) rfl rfl) ?_
  refine zn_c [.int 0, .ref 211] (xo_push (.int 0)) rfl rfl ?_
  refine zn_c [.int 1, .int 0, .ref 211] (xo_push (.int 1)) rfl rfl ?_
  refine zn_set 0 1 [] (a := 211) hd rfl rfl rfl rfl ⟨Int32.le_toInt _, Int.le_of_lt_add_one (Int32.toInt_lt _)⟩ rfl rfl ?_
  replace h := h _ rfl
  refine zn_c [.int 0] (xo_push (.int 0)) rfl rfl ?_
  refine zn_st [.ref 206, .int a1, .int 0, .int 0, .null, .null, .null] rfl rfl rfl ?_
  exact ml_32_9_39 hd  h
theorem zq_32_39 {d : Nat} {a1 : Int32} {s : zS} {Q : Option Value → zS → Prop} (h : v_32_0 (fun j => Zt (d + 8) (wd2 39 j) j) 39 a1 s Q) : Zt (d + 9) ([(206, 3, 39)] : zW) 32 [.ref 206, .int a1] s Q := zt_of (E := xE_32) (L := xL_3) (ml := 5) (ret := none) rfl rfl rfl (m_32_0_39 rfl h)
theorem zc_32 {d P : Nat} (hP : P = 3 ∨ P = 39) {a1 : Int32} {s : zS} {Q : Option Value → zS → Prop} (h : v_32_0 (fun j => Zt (d + 8) (wd2 P j) j) P a1 s Q) : Zt (d + 9) (wd2 P 32) 32 [.ref 206, .int a1] s Q := by
  rcases hP with rfl | rfl
  · exact zq_32_3 h
  · exact zq_32_39 h
/-! FeatherBench$Press.openValue -/
def v_35_0 (T : Nat → List Value → zS → (Option Value → zS → Prop) → Prop) (P : Nat)  (a2 : Int32) (a3 : Int32) (s : zS) (Q : Option Value → zS → Prop) : Prop :=
  T 32 [.ref 206, .int (zg s 111 a2)] s (fun v1 s2 => v1 = none ∧ (∀ s3, s3 = za s2 207 123 → ∀ x4 : Int32, (-2147483648 ≤ 2 * a3.toInt ∧ 2 * a3.toInt ≤ 2147483647 → x4.toInt = 2 * a3.toInt) → ∀ s5, s5 = zt s3 209 x4 a2 → ∀ x6 : Int32, (-2147483648 ≤ 2 * a3.toInt ∧ 2 * a3.toInt ≤ 2147483647 → x6.toInt = 2 * a3.toInt) → ∀ x7 : Int32, (-2147483648 ≤ x6.toInt + 1 ∧ x6.toInt + 1 ≤ 2147483647 → x7.toInt = x6.toInt + 1) → ∀ s8, s8 = zt s5 209 x7 0 → Q none s8))
set_option maxRecDepth 20000 in
theorem m_35_0_3 {d d0 : Nat} (hd : d = d0 + 8)  {a2 : Int32} {a3 : Int32} {s : zS} {Q : Option Value → zS → Prop}  (h : v_35_0 (fun j => Zt d (wd2 3 j) j) 3  a2 a3 s Q) : Zn d [] [(0, 207)] ([(206, 3, 3)] : zW) ([(206, 3, 3)] : zW) xL_3 4 (none) xE_35 (xE_35.drop 0) [.ref 206, .ref 111, .int a2, .int a3, .null, .null, .null, .null] [] s Q := by
  unfold v_35_0 at h
  refine zn_ld rfl rfl rfl ?_
  refine zn_ld rfl rfl rfl ?_
  refine zn_ld rfl rfl rfl ?_
  refine zn_row a2 [.ref 206] (a := 111) hd rfl rfl rfl rfl ?_
  change Zn _ _ _ _ _ _ _ _ _ _ _ [.int (zg s 111 a2), .ref 206] _ _
  refine zn_zt [.ref 206, .int (zg s 111 a2)] [] rfl rfl rfl rfl rfl (Zt.imp h (fun v1 s2 h => ?_))
  obtain ⟨rfl, h⟩ := h
  change Zn _ _ _ _ _ _ _ _ _ _ _ [] _ _
  refine zn_ld rfl rfl rfl ?_
  refine zn_get (v := .ref 207) rfl (zv_R (a := 206) rfl rfl) ?_
  refine zn_c [.int 123, .ref 207] (xo_push (.int 123)) rfl rfl ?_
  refine zn_add 123 [] (a := 207) hd rfl rfl rfl rfl ⟨Int32.le_toInt _, Int.le_of_lt_add_one (Int32.toInt_lt _)⟩ (fun q => absurd q (by decide)) rfl ?_
  replace h := h _ rfl
  refine zn_ld rfl rfl rfl ?_
  refine zn_get (v := .ref 209) rfl (zv_R (a := 206) rfl rfl) ?_
  refine zn_c [.int 2, .ref 209] (xo_push (.int 2)) rfl rfl ?_
  refine zn_ld rfl rfl rfl ?_
  replace h := h _ (i_mul (x := 2) (y := a3) (show (2 : Int32).toInt = 2 by decide) rfl)
  refine zn_c [.int (2 * a3), .ref 209] xo_imul rfl rfl ?_
  refine zn_ld rfl rfl rfl ?_
  refine zn_set (2 * a3) a2 [] (a := 209) hd rfl rfl rfl rfl ⟨Int32.le_toInt _, Int.le_of_lt_add_one (Int32.toInt_lt _)⟩ rfl rfl ?_
  replace h := h _ rfl
  refine zn_ld rfl rfl rfl ?_
  refine zn_get (v := .ref 209) rfl (zv_R (a := 206) rfl rfl) ?_
  refine zn_c [.int 2, .ref 209] (xo_push (.int 2)) rfl rfl ?_
  refine zn_ld rfl rfl rfl ?_
  replace h := h _ (i_mul (x := 2) (y := a3) (show (2 : Int32).toInt = 2 by decide) rfl)
  refine zn_c [.int (2 * a3), .ref 209] xo_imul rfl rfl ?_
  refine zn_c [.int 1, .int (2 * a3), .ref 209] (xo_push (.int 1)) rfl rfl ?_
  replace h := h _ (i_add (x := (2 * a3)) (y := 1) rfl (show (1 : Int32).toInt = 1 by decide))
  refine zn_c [.int ((2 * a3) + 1), .ref 209] xo_iadd rfl rfl ?_
  refine zn_c [.int 0, .int ((2 * a3) + 1), .ref 209] (xo_push (.int 0)) rfl rfl ?_
  refine zn_set ((2 * a3) + 1) 0 [] (a := 209) hd rfl rfl rfl rfl ⟨Int32.le_toInt _, Int.le_of_lt_add_one (Int32.toInt_lt _)⟩ rfl rfl ?_
  replace h := h _ rfl
  exact zn_ret0 rfl h
theorem zq_35_3 {d : Nat} {a2 : Int32} {a3 : Int32} {s : zS} {Q : Option Value → zS → Prop} (h : v_35_0 (fun j => Zt (d + 8) (wd2 3 j) j) 3 a2 a3 s Q) : Zt (d + 9) ([(206, 3, 3)] : zW) 35 [.ref 206, .ref 111, .int a2, .int a3] s Q := zt_of (E := xE_35) (L := xL_3) (ml := 4) (ret := none) rfl rfl rfl (m_35_0_3 rfl h)
set_option maxRecDepth 20000 in
theorem m_35_0_39 {d d0 : Nat} (hd : d = d0 + 8)  {a2 : Int32} {a3 : Int32} {s : zS} {Q : Option Value → zS → Prop}  (h : v_35_0 (fun j => Zt d (wd2 39 j) j) 39  a2 a3 s Q) : Zn d [] [(0, 207)] ([(206, 3, 39)] : zW) ([(206, 3, 39)] : zW) xL_3 4 (none) xE_35 (xE_35.drop 0) [.ref 206, .ref 111, .int a2, .int a3, .null, .null, .null, .null] [] s Q := by
  unfold v_35_0 at h
  refine zn_ld rfl rfl rfl ?_
  refine zn_ld rfl rfl rfl ?_
  refine zn_ld rfl rfl rfl ?_
  refine zn_row a2 [.ref 206] (a := 111) hd rfl rfl rfl rfl ?_
  change Zn _ _ _ _ _ _ _ _ _ _ _ [.int (zg s 111 a2), .ref 206] _ _
  refine zn_zt [.ref 206, .int (zg s 111 a2)] [] rfl rfl rfl rfl rfl (Zt.imp h (fun v1 s2 h => ?_))
  obtain ⟨rfl, h⟩ := h
  change Zn _ _ _ _ _ _ _ _ _ _ _ [] _ _
  refine zn_ld rfl rfl rfl ?_
  refine zn_get (v := .ref 207) rfl (zv_R (a := 206) rfl rfl) ?_
  refine zn_c [.int 123, .ref 207] (xo_push (.int 123)) rfl rfl ?_
  refine zn_add 123 [] (a := 207) hd rfl rfl rfl rfl ⟨Int32.le_toInt _, Int.le_of_lt_add_one (Int32.toInt_lt _)⟩ (fun q => absurd q (by decide)) rfl ?_
  replace h := h _ rfl
  refine zn_ld rfl rfl rfl ?_
  refine zn_get (v := .ref 209) rfl (zv_R (a := 206) rfl rfl) ?_
  refine zn_c [.int 2, .ref 209] (xo_push (.int 2)) rfl rfl ?_
  refine zn_ld rfl rfl rfl ?_
  replace h := h _ (i_mul (x := 2) (y := a3) (show (2 : Int32).toInt = 2 by decide) rfl)
  refine zn_c [.int (2 * a3), .ref 209] xo_imul rfl rfl ?_
  refine zn_ld rfl rfl rfl ?_
  refine zn_set (2 * a3) a2 [] (a := 209) hd rfl rfl rfl rfl ⟨Int32.le_toInt _, Int.le_of_lt_add_one (Int32.toInt_lt _)⟩ rfl rfl ?_
  replace h := h _ rfl
  refine zn_ld rfl rfl rfl ?_
  refine zn_get (v := .ref 209) rfl (zv_R (a := 206) rfl rfl) ?_
  refine zn_c [.int 2, .ref 209] (xo_push (.int 2)) rfl rfl ?_
  refine zn_ld rfl rfl rfl ?_
  replace h := h _ (i_mul (x := 2) (y := a3) (show (2 : Int32).toInt = 2 by decide) rfl)
  refine zn_c [.int (2 * a3), .ref 209] xo_imul rfl rfl ?_
  refine zn_c [.int 1, .int (2 * a3), .ref 209] (xo_push (.int 1)) rfl rfl ?_
  replace h := h _ (i_add (x := (2 * a3)) (y := 1) rfl (show (1 : Int32).toInt = 1 by decide))
  refine zn_c [.int ((2 * a3) + 1), .ref 209] xo_iadd rfl rfl ?_
  refine zn_c [.int 0, .int ((2 * a3) + 1), .ref 209] (xo_push (.int 0)) rfl rfl ?_
  refine zn_set ((2 * a3) + 1) 0 [] (a := 209) hd rfl rfl rfl rfl ⟨Int32.le_toInt _, Int.le_of_lt_add_one (Int32.toInt_lt _)⟩ rfl rfl ?_
  replace h := h _ rfl
  exact zn_ret0 rfl h
theorem zq_35_39 {d : Nat} {a2 : Int32} {a3 : Int32} {s : zS} {Q : Option Value → zS → Prop} (h : v_35_0 (fun j => Zt (d + 8) (wd2 39 j) j) 39 a2 a3 s Q) : Zt (d + 9) ([(206, 3, 39)] : zW) 35 [.ref 206, .ref 111, .int a2, .int a3] s Q := zt_of (E := xE_35) (L := xL_3) (ml := 4) (ret := none) rfl rfl rfl (m_35_0_39 rfl h)
theorem zc_35 {d P : Nat} (hP : P = 3 ∨ P = 39) {a2 : Int32} {a3 : Int32} {s : zS} {Q : Option Value → zS → Prop} (h : v_35_0 (fun j => Zt (d + 8) (wd2 P j) j) P a2 a3 s Q) : Zt (d + 9) (wd2 P 35) 35 [.ref 206, .ref 111, .int a2, .int a3] s Q := by
  rcases hP with rfl | rfl
  · exact zq_35_3 h
  · exact zq_35_39 h
/-! FeatherBench$Press.putValue -/
def v_34_85 (T : Nat → List Value → zS → (Option Value → zS → Prop) → Prop) (P : Nat)  (a2 : Int32) (a3 : Int32) (a4 : Int32) (s : zS) (Q : Option Value → zS → Prop) : Prop :=
  Q none s
def v_34_83 (T : Nat → List Value → zS → (Option Value → zS → Prop) → Prop) (P : Nat) (R9 : Int32 → Int32 → Int32 → zS → Prop) (a2 : Int32) (a3 : Int32) (a4 : Int32) (a5 : Int32) (a6 : Int32) (s : zS) (Q : Option Value → zS → Prop) : Prop :=
  ∀ x1 : Int32, (-2147483648 ≤ a4.toInt + 1 ∧ a4.toInt + 1 ≤ 2147483647 → x1.toInt = a4.toInt + 1) → R9 a2 a3 x1 s
def v_34_60 (T : Nat → List Value → zS → (Option Value → zS → Prop) → Prop) (P : Nat) (R9 : Int32 → Int32 → Int32 → zS → Prop) (a2 : Int32) (a3 : Int32) (a4 : Int32) (a5 : Int32) (a6 : Int32) (s : zS) (Q : Option Value → zS → Prop) : Prop :=
  ∀ x1 : Int32, (-2147483648 ≤ 2 * a3.toInt ∧ 2 * a3.toInt ≤ 2147483647 → x1.toInt = 2 * a3.toInt) → ∀ x2 : Int32, (-2147483648 ≤ x1.toInt + 1 ∧ x1.toInt + 1 ≤ 2147483647 → x2.toInt = x1.toInt + 1) → ∀ x3 : Int32, (-2147483648 ≤ a6.toInt + 1 ∧ a6.toInt + 1 ≤ 2147483647 → x3.toInt = a6.toInt + 1) → ∀ s4, s4 = zt s 209 x2 x3 → ∀ x5 : Int32, (-2147483648 ≤ a3.toInt + 1 ∧ a3.toInt + 1 ≤ 2147483647 → x5.toInt = a3.toInt + 1) → ∀ x6 : Int32, (-2147483648 ≤ a5.toInt + 1 ∧ a5.toInt + 1 ≤ 2147483647 → x6.toInt = a5.toInt + 1) → ∀ x7 : Int32, (-2147483648 ≤ x6.toInt + a6.toInt ∧ x6.toInt + a6.toInt ≤ 2147483647 → x7.toInt = x6.toInt + a6.toInt) → T 35 [.ref 206, .ref 111, .int (zg s4 111 x7), .int x5] s4 (fun v8 s9 => v8 = none ∧ (v_34_83 T P R9 a2 x5 a4 a5 a6 s9 Q))
def v_34_9 (T : Nat → List Value → zS → (Option Value → zS → Prop) → Prop) (P : Nat) (R9 : Int32 → Int32 → Int32 → zS → Prop) (a2 : Int32) (a3 : Int32) (a4 : Int32) (s : zS) (Q : Option Value → zS → Prop) : Prop :=
  (2000 ≤ a4.toInt → v_34_85 T P  a2 a3 a4 s Q) ∧ (¬ (2000 ≤ a4.toInt) → (a3.toInt < 0 → v_34_85 T P  a2 a3 a4 s Q) ∧ (¬ (a3.toInt < 0) → (2000 ≤ (s.1 207 2).toInt → v_34_85 T P  a2 a3 a4 s Q) ∧ (¬ (2000 ≤ (s.1 207 2).toInt) → ∀ x1 : Int32, (-2147483648 ≤ 2 * a3.toInt ∧ 2 * a3.toInt ≤ 2147483647 → x1.toInt = 2 * a3.toInt) → ∀ x2 : Int32, (-2147483648 ≤ 2 * a3.toInt ∧ 2 * a3.toInt ≤ 2147483647 → x2.toInt = 2 * a3.toInt) → ∀ x3 : Int32, (-2147483648 ≤ x2.toInt + 1 ∧ x2.toInt + 1 ≤ 2147483647 → x3.toInt = x2.toInt + 1) → (¬ ((zg s 209 x3).toInt = (zg s (P + 24) ((zg s (P + 18) (zg s 111 (zg s 209 x1))) * 6 + 4)).toInt) → ((zg s 209 x3).toInt ≤ 0 → v_34_60 T P R9 a2 a3 a4 (zg s 209 x1) (zg s 209 x3) s Q) ∧ (¬ ((zg s 209 x3).toInt ≤ 0) → ∀ s5, s5 = za s 207 44 → v_34_60 T P R9 a2 a3 a4 (zg s 209 x1) (zg s 209 x3) s5 Q)) ∧ ((zg s 209 x3).toInt = (zg s (P + 24) ((zg s (P + 18) (zg s 111 (zg s 209 x1))) * 6 + 4)).toInt → ∀ s6, s6 = za s 207 125 → ∀ x7 : Int32, (-2147483648 ≤ a3.toInt + (-1) ∧ a3.toInt + (-1) ≤ 2147483647 → x7.toInt = a3.toInt + (-1)) → v_34_83 T P R9 a2 x7 a4 (zg s 209 x1) (zg s 209 x3) s6 Q))))
def vl_34_9 (T : Nat → List Value → zS → (Option Value → zS → Prop) → Prop) (P : Nat)  (a2 : Int32) (a3 : Int32) (a4 : Int32) (s : zS) (Q : Option Value → zS → Prop) : Prop :=
  ∃ (I : Int32 → Int32 → Int32 → zS → Prop) (μ : Int32 → Int32 → Int32 → zS → Nat), I a2 a3 a4 s ∧ ∀ (a2 : Int32) (a3 : Int32) (a4 : Int32) (s : zS), I a2 a3 a4 s → v_34_9 T P (fun a2' a3' a4' s' => I a2' a3' a4' s' ∧ μ a2' a3' a4' s' < μ a2 a3 a4 s) a2 a3 a4 s Q
def v_34_0 (T : Nat → List Value → zS → (Option Value → zS → Prop) → Prop) (P : Nat)  (a2 : Int32) (s : zS) (Q : Option Value → zS → Prop) : Prop :=
  T 35 [.ref 206, .ref 111, .int a2, .int 0] s (fun v1 s2 => v1 = none ∧ (vl_34_9 T P  a2 0 0 s2 Q))
set_option maxRecDepth 20000 in
theorem m_34_85_3 {d d0 : Nat} (hd : d = d0 + 8)  {a2 : Int32} {a3 : Int32} {a4 : Int32} {s : zS} {Q : Option Value → zS → Prop}  (h : v_34_85 (fun j => Zt d (wd2 3 j) j) 3  a2 a3 a4 s Q) : Zn d [] [(0, 207)] ([(206, 3, 3)] : zW) ([(206, 3, 3)] : zW) xL_3 7 (none) xE_34 (xE_34.drop 85) [.ref 206, .ref 111, .int a2, .int a3, .int a4, .null, .null, .null, .null, .null] [] s Q := by
  unfold v_34_85 at h
  exact zn_ret0 rfl h
set_option maxRecDepth 20000 in
theorem m_34_83_3 {d d0 : Nat} (hd : d = d0 + 8) {R9 : Int32 → Int32 → Int32 → zS → Prop} {a2 : Int32} {a3 : Int32} {a4 : Int32} {a5 : Int32} {a6 : Int32} {s : zS} {Q : Option Value → zS → Prop} (r9 : ∀ a2 a3 a4 s, R9 a2 a3 a4 s → Zn d [] [(0, 207)] ([(206, 3, 3)] : zW) ([(206, 3, 3)] : zW) xL_3 7 (none) xE_34 (xE_34.drop 9) [.ref 206, .ref 111, .int a2, .int a3, .int a4, .null, .null, .null, .null, .null] [] s Q) (h : v_34_83 (fun j => Zt d (wd2 3 j) j) 3 R9 a2 a3 a4 a5 a6 s Q) : Zn d [] [(0, 207)] ([(206, 3, 3)] : zW) ([(206, 3, 3)] : zW) xL_3 7 (none) xE_34 (xE_34.drop 83) [.ref 206, .ref 111, .int a2, .int a3, .int a4, .int a5, .int a6, .null, .null, .null] [] s Q := by
  unfold v_34_83 at h
  replace h := h _ (i_add (x := a4) (y := 1) rfl (show (1 : Int32).toInt = 1 by decide))
  refine zn_inc [.ref 206, .ref 111, .int a2, .int a3, .int (a4 + 1), .int a5, .int a6, .null, .null, .null] rfl rfl rfl rfl ?_
  refine zn_go rfl ?_
  refine zn_fg 5 ?_
  refine zn_fg 6 ?_
  exact r9 a2 a3 (a4 + 1) s h
set_option maxRecDepth 20000 in
theorem m_34_60_3 {d d0 : Nat} (hd : d = d0 + 8) {R9 : Int32 → Int32 → Int32 → zS → Prop} {a2 : Int32} {a3 : Int32} {a4 : Int32} {a5 : Int32} {a6 : Int32} {s : zS} {Q : Option Value → zS → Prop} (r9 : ∀ a2 a3 a4 s, R9 a2 a3 a4 s → Zn d [] [(0, 207)] ([(206, 3, 3)] : zW) ([(206, 3, 3)] : zW) xL_3 7 (none) xE_34 (xE_34.drop 9) [.ref 206, .ref 111, .int a2, .int a3, .int a4, .null, .null, .null, .null, .null] [] s Q) (h : v_34_60 (fun j => Zt d (wd2 3 j) j) 3 R9 a2 a3 a4 a5 a6 s Q) : Zn d [] [(0, 207)] ([(206, 3, 3)] : zW) ([(206, 3, 3)] : zW) xL_3 7 (none) xE_34 (xE_34.drop 60) [.ref 206, .ref 111, .int a2, .int a3, .int a4, .int a5, .int a6, .null, .null, .null] [] s Q := by
  unfold v_34_60 at h
  refine zn_ld rfl rfl rfl ?_
  refine zn_get (v := .ref 209) rfl (zv_R (a := 206) rfl rfl) ?_
  refine zn_c [.int 2, .ref 209] (xo_push (.int 2)) rfl rfl ?_
  refine zn_ld rfl rfl rfl ?_
  replace h := h _ (i_mul (x := 2) (y := a3) (show (2 : Int32).toInt = 2 by decide) rfl)
  refine zn_c [.int (2 * a3), .ref 209] xo_imul rfl rfl ?_
  refine zn_c [.int 1, .int (2 * a3), .ref 209] (xo_push (.int 1)) rfl rfl ?_
  replace h := h _ (i_add (x := (2 * a3)) (y := 1) rfl (show (1 : Int32).toInt = 1 by decide))
  refine zn_c [.int ((2 * a3) + 1), .ref 209] xo_iadd rfl rfl ?_
  refine zn_ld rfl rfl rfl ?_
  refine zn_c [.int 1, .int a6, .int ((2 * a3) + 1), .ref 209] (xo_push (.int 1)) rfl rfl ?_
  replace h := h _ (i_add (x := a6) (y := 1) rfl (show (1 : Int32).toInt = 1 by decide))
  refine zn_c [.int (a6 + 1), .int ((2 * a3) + 1), .ref 209] xo_iadd rfl rfl ?_
  refine zn_set ((2 * a3) + 1) (a6 + 1) [] (a := 209) hd rfl rfl rfl rfl ⟨Int32.le_toInt _, Int.le_of_lt_add_one (Int32.toInt_lt _)⟩ rfl rfl ?_
  replace h := h _ rfl
  replace h := h _ (i_add (x := a3) (y := 1) rfl (show (1 : Int32).toInt = 1 by decide))
  refine zn_inc [.ref 206, .ref 111, .int a2, .int (a3 + 1), .int a4, .int a5, .int a6, .null, .null, .null] rfl rfl rfl rfl ?_
  refine zn_ld rfl rfl rfl ?_
  refine zn_ld rfl rfl rfl ?_
  refine zn_ld rfl rfl rfl ?_
  refine zn_ld rfl rfl rfl ?_
  refine zn_c [.int 1, .int a5, .ref 111, .ref 111, .ref 206] (xo_push (.int 1)) rfl rfl ?_
  replace h := h _ (i_add (x := a5) (y := 1) rfl (show (1 : Int32).toInt = 1 by decide))
  refine zn_c [.int (a5 + 1), .ref 111, .ref 111, .ref 206] xo_iadd rfl rfl ?_
  refine zn_ld rfl rfl rfl ?_
  replace h := h _ (i_add (x := (a5 + 1)) (y := a6) rfl rfl)
  refine zn_c [.int ((a5 + 1) + a6), .ref 111, .ref 111, .ref 206] xo_iadd rfl rfl ?_
  refine zn_row ((a5 + 1) + a6) [.ref 111, .ref 206] (a := 111) hd rfl rfl rfl rfl ?_
  change Zn _ _ _ _ _ _ _ _ _ _ _ [.int (zg (zt s 209 ((2 * a3) + 1) (a6 + 1)) 111 ((a5 + 1) + a6)), .ref 111, .ref 206] _ _
  refine zn_ld rfl rfl rfl ?_
  refine zn_zt [.ref 206, .ref 111, .int (zg (zt s 209 ((2 * a3) + 1) (a6 + 1)) 111 ((a5 + 1) + a6)), .int (a3 + 1)] [] rfl rfl rfl rfl rfl (Zt.imp h (fun v8 s9 h => ?_))
  obtain ⟨rfl, h⟩ := h
  change Zn _ _ _ _ _ _ _ _ _ _ _ [] _ _
  exact m_34_83_3 hd r9 h
set_option maxRecDepth 20000 in
theorem m_34_9_3 {d d0 : Nat} (hd : d = d0 + 8) {R9 : Int32 → Int32 → Int32 → zS → Prop} {a2 : Int32} {a3 : Int32} {a4 : Int32} {s : zS} {Q : Option Value → zS → Prop} (r9 : ∀ a2 a3 a4 s, R9 a2 a3 a4 s → Zn d [] [(0, 207)] ([(206, 3, 3)] : zW) ([(206, 3, 3)] : zW) xL_3 7 (none) xE_34 (xE_34.drop 9) [.ref 206, .ref 111, .int a2, .int a3, .int a4, .null, .null, .null, .null, .null] [] s Q) (h : v_34_9 (fun j => Zt d (wd2 3 j) j) 3 R9 a2 a3 a4 s Q) : Zn d [] [(0, 207)] ([(206, 3, 3)] : zW) ([(206, 3, 3)] : zW) xL_3 7 (none) xE_34 (xE_34.drop 9) [.ref 206, .ref 111, .int a2, .int a3, .int a4, .null, .null, .null, .null, .null] [] s Q := by
  unfold v_34_9 at h
  refine zn_ld rfl rfl rfl ?_
  refine zn_c [.int 2000, .int a4] (xo_push (.int 2000)) rfl rfl ?_
  refine zn_brP rfl rfl ⟨fun hcn => ?_, fun hcn => ?_⟩
  · replace h := h.1 ((i_le (x := 2000) (y := a4) (show (2000 : Int32).toInt = 2000 by decide) rfl).mp hcn)
    exact m_34_85_3 hd  h
  · replace h := h.2 (fun q => hcn ((i_le (x := 2000) (y := a4) (show (2000 : Int32).toInt = 2000 by decide) rfl).mpr q))
    refine zn_ld rfl rfl rfl ?_
    refine zn_brP rfl rfl ⟨fun hcn => ?_, fun hcn => ?_⟩
    · replace h := h.1 ((i_lt (x := a3) (y := 0) rfl (show (0 : Int32).toInt = 0 by decide)).mp hcn)
      exact m_34_85_3 hd  h
    · replace h := h.2 (fun q => hcn ((i_lt (x := a3) (y := 0) rfl (show (0 : Int32).toInt = 0 by decide)).mpr q))
      refine zn_ld rfl rfl rfl ?_
      refine zn_get (v := .ref 207) rfl (zv_R (a := 206) rfl rfl) ?_
      refine zn_get (v := .int (s.1 207 2)) rfl (zv_I (a := 207) rfl rfl) ?_
      refine zn_c [.int 2000, .int (s.1 207 2)] (xo_push (.int 2000)) rfl rfl ?_
      refine zn_brP rfl rfl ⟨fun hcn => ?_, fun hcn => ?_⟩
      · replace h := h.1 ((i_le (x := 2000) (y := s.1 207 2) (show (2000 : Int32).toInt = 2000 by decide) rfl).mp hcn)
        exact m_34_85_3 hd  h
      · replace h := h.2 (fun q => hcn ((i_le (x := 2000) (y := s.1 207 2) (show (2000 : Int32).toInt = 2000 by decide) rfl).mpr q))
        refine zn_ld rfl rfl rfl ?_
        refine zn_get (v := .ref 209) rfl (zv_R (a := 206) rfl rfl) ?_
        refine zn_c [.int 2, .ref 209] (xo_push (.int 2)) rfl rfl ?_
        refine zn_ld rfl rfl rfl ?_
        replace h := h _ (i_mul (x := 2) (y := a3) (show (2 : Int32).toInt = 2 by decide) rfl)
        refine zn_c [.int (2 * a3), .ref 209] xo_imul rfl rfl ?_
        refine zn_row (2 * a3) [] (a := 209) hd rfl rfl rfl rfl ?_
        change Zn _ _ _ _ _ _ _ _ _ _ _ [.int (zg s 209 (2 * a3))] _ _
        refine zn_st [.ref 206, .ref 111, .int a2, .int a3, .int a4, .int (zg s 209 (2 * a3)), .null, .null, .null, .null] rfl rfl rfl ?_
        refine zn_ld rfl rfl rfl ?_
        refine zn_get (v := .ref 209) rfl (zv_R (a := 206) rfl rfl) ?_
        refine zn_c [.int 2, .ref 209] (xo_push (.int 2)) rfl rfl ?_
        refine zn_ld rfl rfl rfl ?_
        replace h := h _ (i_mul (x := 2) (y := a3) (show (2 : Int32).toInt = 2 by decide) rfl)
        refine zn_c [.int (2 * a3), .ref 209] xo_imul rfl rfl ?_
        refine zn_c [.int 1, .int (2 * a3), .ref 209] (xo_push (.int 1)) rfl rfl ?_
        replace h := h _ (i_add (x := (2 * a3)) (y := 1) rfl (show (1 : Int32).toInt = 1 by decide))
        refine zn_c [.int ((2 * a3) + 1), .ref 209] xo_iadd rfl rfl ?_
        refine zn_row ((2 * a3) + 1) [] (a := 209) hd rfl rfl rfl rfl ?_
        change Zn _ _ _ _ _ _ _ _ _ _ _ [.int (zg s 209 ((2 * a3) + 1))] _ _
        refine zn_st [.ref 206, .ref 111, .int a2, .int a3, .int a4, .int (zg s 209 (2 * a3)), .int (zg s 209 ((2 * a3) + 1)), .null, .null, .null] rfl rfl rfl ?_
        refine zn_ld rfl rfl rfl ?_
        refine zn_ld rfl rfl rfl ?_
        refine zn_get (v := .ref 3) rfl (zv_C (a := 206) (n := 0) rfl rfl rfl) ?_
        refine zn_ld rfl rfl rfl ?_
        refine zn_get (v := .ref 3) rfl (zv_C (a := 206) (n := 0) rfl rfl rfl) ?_
        refine zn_get (v := .ref 21) rfl (zv_R (a := 3) rfl rfl) ?_
        refine zn_ld rfl rfl rfl ?_
        refine zn_ld rfl rfl rfl ?_
        refine zn_row (zg s 209 (2 * a3)) [.ref 21, .ref 3, .int (zg s 209 ((2 * a3) + 1))] (a := 111) hd rfl rfl rfl rfl ?_
        change Zn _ _ _ _ _ _ _ _ _ _ _ [.int (zg s 111 (zg s 209 (2 * a3))), .ref 21, .ref 3, .int (zg s 209 ((2 * a3) + 1))] _ _
        refine zn_row (zg s 111 (zg s 209 (2 * a3))) [.ref 3, .int (zg s 209 ((2 * a3) + 1))] (a := 21) hd rfl rfl rfl rfl ?_
        change Zn _ _ _ _ _ _ _ _ _ _ _ [.int (zg s 21 (zg s 111 (zg s 209 (2 * a3)))), .ref 3, .int (zg s 209 ((2 * a3) + 1))] _ _
        refine zn_c [.int 4, .int (zg s 21 (zg s 111 (zg s 209 (2 * a3)))), .ref 3, .int (zg s 209 ((2 * a3) + 1))] (xo_push (.int 4)) rfl rfl ?_
        refine zn_zt [.ref 3, .int (zg s 21 (zg s 111 (zg s 209 (2 * a3)))), .int 4] [.int (zg s 209 ((2 * a3) + 1))] (c := []) rfl rfl rfl rfl rfl (Zt.imp (zp_39 hd (Or.inl rfl)) (fun vq sq hq => ?_))
        obtain ⟨rfl, hq⟩ := hq
        rw [hq]
        change Zn _ _ _ _ _ _ _ _ _ _ _ [.int (zg s 27 ((zg s 21 (zg s 111 (zg s 209 (2 * a3)))) * 6 + 4)), .int (zg s 209 ((2 * a3) + 1))] _ _
        refine zn_brN rfl rfl ⟨fun hcn => ?_, fun hcn => ?_⟩
        · replace h := h.1 (fun q => hcn ((i_eq (x := zg s 209 ((2 * a3) + 1)) (y := zg s 27 ((zg s 21 (zg s 111 (zg s 209 (2 * a3)))) * 6 + 4)) rfl rfl).mpr q))
          refine zn_ld rfl rfl rfl ?_
          refine zn_brP rfl rfl ⟨fun hcn => ?_, fun hcn => ?_⟩
          · replace h := h.1 ((i_le (x := zg s 209 ((2 * a3) + 1)) (y := 0) rfl (show (0 : Int32).toInt = 0 by decide)).mp hcn)
            exact m_34_60_3 hd r9 h
          · replace h := h.2 (fun q => hcn ((i_le (x := zg s 209 ((2 * a3) + 1)) (y := 0) rfl (show (0 : Int32).toInt = 0 by decide)).mpr q))
            refine zn_ld rfl rfl rfl ?_
            refine zn_get (v := .ref 207) rfl (zv_R (a := 206) rfl rfl) ?_
            refine zn_c [.int 44, .ref 207] (xo_push (.int 44)) rfl rfl ?_
            refine zn_add 44 [] (a := 207) hd rfl rfl rfl rfl ⟨Int32.le_toInt _, Int.le_of_lt_add_one (Int32.toInt_lt _)⟩ (fun q => absurd q (by decide)) rfl ?_
            replace h := h _ rfl
            exact m_34_60_3 hd r9 h
        · replace h := h.2 ((i_eq (x := zg s 209 ((2 * a3) + 1)) (y := zg s 27 ((zg s 21 (zg s 111 (zg s 209 (2 * a3)))) * 6 + 4)) rfl rfl).mp hcn)
          refine zn_ld rfl rfl rfl ?_
          refine zn_get (v := .ref 207) rfl (zv_R (a := 206) rfl rfl) ?_
          refine zn_c [.int 125, .ref 207] (xo_push (.int 125)) rfl rfl ?_
          refine zn_add 125 [] (a := 207) hd rfl rfl rfl rfl ⟨Int32.le_toInt _, Int.le_of_lt_add_one (Int32.toInt_lt _)⟩ (fun q => absurd q (by decide)) rfl ?_
          replace h := h _ rfl
          replace h := h _ (i_add (x := a3) (y := (-1)) rfl (show ((-1) : Int32).toInt = (-1) by decide))
          refine zn_inc [.ref 206, .ref 111, .int a2, .int (a3 + (-1)), .int a4, .int (zg s 209 (2 * a3)), .int (zg s 209 ((2 * a3) + 1)), .null, .null, .null] rfl rfl rfl rfl ?_
          refine zn_go rfl ?_
          exact m_34_83_3 hd r9 h
theorem ml_34_9_3 {d d0 : Nat} (hd : d = d0 + 8)  {a2 : Int32} {a3 : Int32} {a4 : Int32} {s : zS} {Q : Option Value → zS → Prop}  (h : vl_34_9 (fun j => Zt d (wd2 3 j) j) 3  a2 a3 a4 s Q) : Zn d [] [(0, 207)] ([(206, 3, 3)] : zW) ([(206, 3, 3)] : zW) xL_3 7 (none) xE_34 (xE_34.drop 9) [.ref 206, .ref 111, .int a2, .int a3, .int a4, .null, .null, .null, .null, .null] [] s Q := by
  obtain ⟨I, μ, h0, h1⟩ := h
  have key : ∀ (n : Nat) (a2 : Int32) (a3 : Int32) (a4 : Int32) (s : zS), μ a2 a3 a4 s = n → I a2 a3 a4 s → Zn d [] [(0, 207)] ([(206, 3, 3)] : zW) ([(206, 3, 3)] : zW) xL_3 7 (none) xE_34 (xE_34.drop 9) [.ref 206, .ref 111, .int a2, .int a3, .int a4, .null, .null, .null, .null, .null] [] s Q := by
    intro n
    induction n using Nat.strongRecOn with
    | ind n ih =>
      intro a2 a3 a4 s e hI
      exact m_34_9_3 hd (fun a2' a3' a4' s' q => ih _ (by rw [← e]; exact q.2) a2' a3' a4' s' rfl q.1) (h1 a2 a3 a4 s hI)
  exact key _ a2 a3 a4 s rfl h0
set_option maxRecDepth 20000 in
theorem m_34_0_3 {d d0 : Nat} (hd : d = d0 + 8)  {a2 : Int32} {s : zS} {Q : Option Value → zS → Prop}  (h : v_34_0 (fun j => Zt d (wd2 3 j) j) 3  a2 s Q) : Zn d [] [(0, 207)] ([(206, 3, 3)] : zW) ([(206, 3, 3)] : zW) xL_3 7 (none) xE_34 (xE_34.drop 0) [.ref 206, .ref 111, .int a2, .null, .null, .null, .null, .null, .null, .null] [] s Q := by
  unfold v_34_0 at h
  refine zn_c [.int 0] (xo_push (.int 0)) rfl rfl ?_
  refine zn_st [.ref 206, .ref 111, .int a2, .int 0, .null, .null, .null, .null, .null, .null] rfl rfl rfl ?_
  refine zn_ld rfl rfl rfl ?_
  refine zn_ld rfl rfl rfl ?_
  refine zn_ld rfl rfl rfl ?_
  refine zn_c [.int 0, .int a2, .ref 111, .ref 206] (xo_push (.int 0)) rfl rfl ?_
  refine zn_zt [.ref 206, .ref 111, .int a2, .int 0] [] rfl rfl rfl rfl rfl (Zt.imp h (fun v1 s2 h => ?_))
  obtain ⟨rfl, h⟩ := h
  change Zn _ _ _ _ _ _ _ _ _ _ _ [] _ _
  refine zn_c [.int 0] (xo_push (.int 0)) rfl rfl ?_
  refine zn_st [.ref 206, .ref 111, .int a2, .int 0, .int 0, .null, .null, .null, .null, .null] rfl rfl rfl ?_
  exact ml_34_9_3 hd  h
theorem zq_34_3 {d : Nat} {a2 : Int32} {s : zS} {Q : Option Value → zS → Prop} (h : v_34_0 (fun j => Zt (d + 8) (wd2 3 j) j) 3 a2 s Q) : Zt (d + 9) ([(206, 3, 3)] : zW) 34 [.ref 206, .ref 111, .int a2] s Q := zt_of (E := xE_34) (L := xL_3) (ml := 7) (ret := none) rfl rfl rfl (m_34_0_3 rfl h)
set_option maxRecDepth 20000 in
theorem m_34_85_39 {d d0 : Nat} (hd : d = d0 + 8)  {a2 : Int32} {a3 : Int32} {a4 : Int32} {s : zS} {Q : Option Value → zS → Prop}  (h : v_34_85 (fun j => Zt d (wd2 39 j) j) 39  a2 a3 a4 s Q) : Zn d [] [(0, 207)] ([(206, 3, 39)] : zW) ([(206, 3, 39)] : zW) xL_3 7 (none) xE_34 (xE_34.drop 85) [.ref 206, .ref 111, .int a2, .int a3, .int a4, .null, .null, .null, .null, .null] [] s Q := by
  unfold v_34_85 at h
  exact zn_ret0 rfl h
set_option maxRecDepth 20000 in
theorem m_34_83_39 {d d0 : Nat} (hd : d = d0 + 8) {R9 : Int32 → Int32 → Int32 → zS → Prop} {a2 : Int32} {a3 : Int32} {a4 : Int32} {a5 : Int32} {a6 : Int32} {s : zS} {Q : Option Value → zS → Prop} (r9 : ∀ a2 a3 a4 s, R9 a2 a3 a4 s → Zn d [] [(0, 207)] ([(206, 3, 39)] : zW) ([(206, 3, 39)] : zW) xL_3 7 (none) xE_34 (xE_34.drop 9) [.ref 206, .ref 111, .int a2, .int a3, .int a4, .null, .null, .null, .null, .null] [] s Q) (h : v_34_83 (fun j => Zt d (wd2 39 j) j) 39 R9 a2 a3 a4 a5 a6 s Q) : Zn d [] [(0, 207)] ([(206, 3, 39)] : zW) ([(206, 3, 39)] : zW) xL_3 7 (none) xE_34 (xE_34.drop 83) [.ref 206, .ref 111, .int a2, .int a3, .int a4, .int a5, .int a6, .null, .null, .null] [] s Q := by
  unfold v_34_83 at h
  replace h := h _ (i_add (x := a4) (y := 1) rfl (show (1 : Int32).toInt = 1 by decide))
  refine zn_inc [.ref 206, .ref 111, .int a2, .int a3, .int (a4 + 1), .int a5, .int a6, .null, .null, .null] rfl rfl rfl rfl ?_
  refine zn_go rfl ?_
  refine zn_fg 5 ?_
  refine zn_fg 6 ?_
  exact r9 a2 a3 (a4 + 1) s h
set_option maxRecDepth 20000 in
theorem m_34_60_39 {d d0 : Nat} (hd : d = d0 + 8) {R9 : Int32 → Int32 → Int32 → zS → Prop} {a2 : Int32} {a3 : Int32} {a4 : Int32} {a5 : Int32} {a6 : Int32} {s : zS} {Q : Option Value → zS → Prop} (r9 : ∀ a2 a3 a4 s, R9 a2 a3 a4 s → Zn d [] [(0, 207)] ([(206, 3, 39)] : zW) ([(206, 3, 39)] : zW) xL_3 7 (none) xE_34 (xE_34.drop 9) [.ref 206, .ref 111, .int a2, .int a3, .int a4, .null, .null, .null, .null, .null] [] s Q) (h : v_34_60 (fun j => Zt d (wd2 39 j) j) 39 R9 a2 a3 a4 a5 a6 s Q) : Zn d [] [(0, 207)] ([(206, 3, 39)] : zW) ([(206, 3, 39)] : zW) xL_3 7 (none) xE_34 (xE_34.drop 60) [.ref 206, .ref 111, .int a2, .int a3, .int a4, .int a5, .int a6, .null, .null, .null] [] s Q := by
  unfold v_34_60 at h
  refine zn_ld rfl rfl rfl ?_
  refine zn_get (v := .ref 209) rfl (zv_R (a := 206) rfl rfl) ?_
  refine zn_c [.int 2, .ref 209] (xo_push (.int 2)) rfl rfl ?_
  refine zn_ld rfl rfl rfl ?_
  replace h := h _ (i_mul (x := 2) (y := a3) (show (2 : Int32).toInt = 2 by decide) rfl)
  refine zn_c [.int (2 * a3), .ref 209] xo_imul rfl rfl ?_
  refine zn_c [.int 1, .int (2 * a3), .ref 209] (xo_push (.int 1)) rfl rfl ?_
  replace h := h _ (i_add (x := (2 * a3)) (y := 1) rfl (show (1 : Int32).toInt = 1 by decide))
  refine zn_c [.int ((2 * a3) + 1), .ref 209] xo_iadd rfl rfl ?_
  refine zn_ld rfl rfl rfl ?_
  refine zn_c [.int 1, .int a6, .int ((2 * a3) + 1), .ref 209] (xo_push (.int 1)) rfl rfl ?_
  replace h := h _ (i_add (x := a6) (y := 1) rfl (show (1 : Int32).toInt = 1 by decide))
  refine zn_c [.int (a6 + 1), .int ((2 * a3) + 1), .ref 209] xo_iadd rfl rfl ?_
  refine zn_set ((2 * a3) + 1) (a6 + 1) [] (a := 209) hd rfl rfl rfl rfl ⟨Int32.le_toInt _, Int.le_of_lt_add_one (Int32.toInt_lt _)⟩ rfl rfl ?_
  replace h := h _ rfl
  replace h := h _ (i_add (x := a3) (y := 1) rfl (show (1 : Int32).toInt = 1 by decide))
  refine zn_inc [.ref 206, .ref 111, .int a2, .int (a3 + 1), .int a4, .int a5, .int a6, .null, .null, .null] rfl rfl rfl rfl ?_
  refine zn_ld rfl rfl rfl ?_
  refine zn_ld rfl rfl rfl ?_
  refine zn_ld rfl rfl rfl ?_
  refine zn_ld rfl rfl rfl ?_
  refine zn_c [.int 1, .int a5, .ref 111, .ref 111, .ref 206] (xo_push (.int 1)) rfl rfl ?_
  replace h := h _ (i_add (x := a5) (y := 1) rfl (show (1 : Int32).toInt = 1 by decide))
  refine zn_c [.int (a5 + 1), .ref 111, .ref 111, .ref 206] xo_iadd rfl rfl ?_
  refine zn_ld rfl rfl rfl ?_
  replace h := h _ (i_add (x := (a5 + 1)) (y := a6) rfl rfl)
  refine zn_c [.int ((a5 + 1) + a6), .ref 111, .ref 111, .ref 206] xo_iadd rfl rfl ?_
  refine zn_row ((a5 + 1) + a6) [.ref 111, .ref 206] (a := 111) hd rfl rfl rfl rfl ?_
  change Zn _ _ _ _ _ _ _ _ _ _ _ [.int (zg (zt s 209 ((2 * a3) + 1) (a6 + 1)) 111 ((a5 + 1) + a6)), .ref 111, .ref 206] _ _
  refine zn_ld rfl rfl rfl ?_
  refine zn_zt [.ref 206, .ref 111, .int (zg (zt s 209 ((2 * a3) + 1) (a6 + 1)) 111 ((a5 + 1) + a6)), .int (a3 + 1)] [] rfl rfl rfl rfl rfl (Zt.imp h (fun v8 s9 h => ?_))
  obtain ⟨rfl, h⟩ := h
  change Zn _ _ _ _ _ _ _ _ _ _ _ [] _ _
  exact m_34_83_39 hd r9 h
set_option maxRecDepth 20000 in
theorem m_34_9_39 {d d0 : Nat} (hd : d = d0 + 8) {R9 : Int32 → Int32 → Int32 → zS → Prop} {a2 : Int32} {a3 : Int32} {a4 : Int32} {s : zS} {Q : Option Value → zS → Prop} (r9 : ∀ a2 a3 a4 s, R9 a2 a3 a4 s → Zn d [] [(0, 207)] ([(206, 3, 39)] : zW) ([(206, 3, 39)] : zW) xL_3 7 (none) xE_34 (xE_34.drop 9) [.ref 206, .ref 111, .int a2, .int a3, .int a4, .null, .null, .null, .null, .null] [] s Q) (h : v_34_9 (fun j => Zt d (wd2 39 j) j) 39 R9 a2 a3 a4 s Q) : Zn d [] [(0, 207)] ([(206, 3, 39)] : zW) ([(206, 3, 39)] : zW) xL_3 7 (none) xE_34 (xE_34.drop 9) [.ref 206, .ref 111, .int a2, .int a3, .int a4, .null, .null, .null, .null, .null] [] s Q := by
  unfold v_34_9 at h
  refine zn_ld rfl rfl rfl ?_
  refine zn_c [.int 2000, .int a4] (xo_push (.int 2000)) rfl rfl ?_
  refine zn_brP rfl rfl ⟨fun hcn => ?_, fun hcn => ?_⟩
  · replace h := h.1 ((i_le (x := 2000) (y := a4) (show (2000 : Int32).toInt = 2000 by decide) rfl).mp hcn)
    exact m_34_85_39 hd  h
  · replace h := h.2 (fun q => hcn ((i_le (x := 2000) (y := a4) (show (2000 : Int32).toInt = 2000 by decide) rfl).mpr q))
    refine zn_ld rfl rfl rfl ?_
    refine zn_brP rfl rfl ⟨fun hcn => ?_, fun hcn => ?_⟩
    · replace h := h.1 ((i_lt (x := a3) (y := 0) rfl (show (0 : Int32).toInt = 0 by decide)).mp hcn)
      exact m_34_85_39 hd  h
    · replace h := h.2 (fun q => hcn ((i_lt (x := a3) (y := 0) rfl (show (0 : Int32).toInt = 0 by decide)).mpr q))
      refine zn_ld rfl rfl rfl ?_
      refine zn_get (v := .ref 207) rfl (zv_R (a := 206) rfl rfl) ?_
      refine zn_get (v := .int (s.1 207 2)) rfl (zv_I (a := 207) rfl rfl) ?_
      refine zn_c [.int 2000, .int (s.1 207 2)] (xo_push (.int 2000)) rfl rfl ?_
      refine zn_brP rfl rfl ⟨fun hcn => ?_, fun hcn => ?_⟩
      · replace h := h.1 ((i_le (x := 2000) (y := s.1 207 2) (show (2000 : Int32).toInt = 2000 by decide) rfl).mp hcn)
        exact m_34_85_39 hd  h
      · replace h := h.2 (fun q => hcn ((i_le (x := 2000) (y := s.1 207 2) (show (2000 : Int32).toInt = 2000 by decide) rfl).mpr q))
        refine zn_ld rfl rfl rfl ?_
        refine zn_get (v := .ref 209) rfl (zv_R (a := 206) rfl rfl) ?_
        refine zn_c [.int 2, .ref 209] (xo_push (.int 2)) rfl rfl ?_
        refine zn_ld rfl rfl rfl ?_
        replace h := h _ (i_mul (x := 2) (y := a3) (show (2 : Int32).toInt = 2 by decide) rfl)
        refine zn_c [.int (2 * a3), .ref 209] xo_imul rfl rfl ?_
        refine zn_row (2 * a3) [] (a := 209) hd rfl rfl rfl rfl ?_
        change Zn _ _ _ _ _ _ _ _ _ _ _ [.int (zg s 209 (2 * a3))] _ _
        refine zn_st [.ref 206, .ref 111, .int a2, .int a3, .int a4, .int (zg s 209 (2 * a3)), .null, .null, .null, .null] rfl rfl rfl ?_
        refine zn_ld rfl rfl rfl ?_
        refine zn_get (v := .ref 209) rfl (zv_R (a := 206) rfl rfl) ?_
        refine zn_c [.int 2, .ref 209] (xo_push (.int 2)) rfl rfl ?_
        refine zn_ld rfl rfl rfl ?_
        replace h := h _ (i_mul (x := 2) (y := a3) (show (2 : Int32).toInt = 2 by decide) rfl)
        refine zn_c [.int (2 * a3), .ref 209] xo_imul rfl rfl ?_
        refine zn_c [.int 1, .int (2 * a3), .ref 209] (xo_push (.int 1)) rfl rfl ?_
        replace h := h _ (i_add (x := (2 * a3)) (y := 1) rfl (show (1 : Int32).toInt = 1 by decide))
        refine zn_c [.int ((2 * a3) + 1), .ref 209] xo_iadd rfl rfl ?_
        refine zn_row ((2 * a3) + 1) [] (a := 209) hd rfl rfl rfl rfl ?_
        change Zn _ _ _ _ _ _ _ _ _ _ _ [.int (zg s 209 ((2 * a3) + 1))] _ _
        refine zn_st [.ref 206, .ref 111, .int a2, .int a3, .int a4, .int (zg s 209 (2 * a3)), .int (zg s 209 ((2 * a3) + 1)), .null, .null, .null] rfl rfl rfl ?_
        refine zn_ld rfl rfl rfl ?_
        refine zn_ld rfl rfl rfl ?_
        refine zn_get (v := .ref 39) rfl (zv_C (a := 206) (n := 0) rfl rfl rfl) ?_
        refine zn_ld rfl rfl rfl ?_
        refine zn_get (v := .ref 39) rfl (zv_C (a := 206) (n := 0) rfl rfl rfl) ?_
        refine zn_get (v := .ref 57) rfl (zv_R (a := 39) rfl rfl) ?_
        refine zn_ld rfl rfl rfl ?_
        refine zn_ld rfl rfl rfl ?_
        refine zn_row (zg s 209 (2 * a3)) [.ref 57, .ref 39, .int (zg s 209 ((2 * a3) + 1))] (a := 111) hd rfl rfl rfl rfl ?_
        change Zn _ _ _ _ _ _ _ _ _ _ _ [.int (zg s 111 (zg s 209 (2 * a3))), .ref 57, .ref 39, .int (zg s 209 ((2 * a3) + 1))] _ _
        refine zn_row (zg s 111 (zg s 209 (2 * a3))) [.ref 39, .int (zg s 209 ((2 * a3) + 1))] (a := 57) hd rfl rfl rfl rfl ?_
        change Zn _ _ _ _ _ _ _ _ _ _ _ [.int (zg s 57 (zg s 111 (zg s 209 (2 * a3)))), .ref 39, .int (zg s 209 ((2 * a3) + 1))] _ _
        refine zn_c [.int 4, .int (zg s 57 (zg s 111 (zg s 209 (2 * a3)))), .ref 39, .int (zg s 209 ((2 * a3) + 1))] (xo_push (.int 4)) rfl rfl ?_
        refine zn_zt [.ref 39, .int (zg s 57 (zg s 111 (zg s 209 (2 * a3)))), .int 4] [.int (zg s 209 ((2 * a3) + 1))] (c := []) rfl rfl rfl rfl rfl (Zt.imp (zp_39 hd (Or.inr rfl)) (fun vq sq hq => ?_))
        obtain ⟨rfl, hq⟩ := hq
        rw [hq]
        change Zn _ _ _ _ _ _ _ _ _ _ _ [.int (zg s 63 ((zg s 57 (zg s 111 (zg s 209 (2 * a3)))) * 6 + 4)), .int (zg s 209 ((2 * a3) + 1))] _ _
        refine zn_brN rfl rfl ⟨fun hcn => ?_, fun hcn => ?_⟩
        · replace h := h.1 (fun q => hcn ((i_eq (x := zg s 209 ((2 * a3) + 1)) (y := zg s 63 ((zg s 57 (zg s 111 (zg s 209 (2 * a3)))) * 6 + 4)) rfl rfl).mpr q))
          refine zn_ld rfl rfl rfl ?_
          refine zn_brP rfl rfl ⟨fun hcn => ?_, fun hcn => ?_⟩
          · replace h := h.1 ((i_le (x := zg s 209 ((2 * a3) + 1)) (y := 0) rfl (show (0 : Int32).toInt = 0 by decide)).mp hcn)
            exact m_34_60_39 hd r9 h
          · replace h := h.2 (fun q => hcn ((i_le (x := zg s 209 ((2 * a3) + 1)) (y := 0) rfl (show (0 : Int32).toInt = 0 by decide)).mpr q))
            refine zn_ld rfl rfl rfl ?_
            refine zn_get (v := .ref 207) rfl (zv_R (a := 206) rfl rfl) ?_
            refine zn_c [.int 44, .ref 207] (xo_push (.int 44)) rfl rfl ?_
            refine zn_add 44 [] (a := 207) hd rfl rfl rfl rfl ⟨Int32.le_toInt _, Int.le_of_lt_add_one (Int32.toInt_lt _)⟩ (fun q => absurd q (by decide)) rfl ?_
            replace h := h _ rfl
            exact m_34_60_39 hd r9 h
        · replace h := h.2 ((i_eq (x := zg s 209 ((2 * a3) + 1)) (y := zg s 63 ((zg s 57 (zg s 111 (zg s 209 (2 * a3)))) * 6 + 4)) rfl rfl).mp hcn)
          refine zn_ld rfl rfl rfl ?_
          refine zn_get (v := .ref 207) rfl (zv_R (a := 206) rfl rfl) ?_
          refine zn_c [.int 125, .ref 207] (xo_push (.int 125)) rfl rfl ?_
          refine zn_add 125 [] (a := 207) hd rfl rfl rfl rfl ⟨Int32.le_toInt _, Int.le_of_lt_add_one (Int32.toInt_lt _)⟩ (fun q => absurd q (by decide)) rfl ?_
          replace h := h _ rfl
          replace h := h _ (i_add (x := a3) (y := (-1)) rfl (show ((-1) : Int32).toInt = (-1) by decide))
          refine zn_inc [.ref 206, .ref 111, .int a2, .int (a3 + (-1)), .int a4, .int (zg s 209 (2 * a3)), .int (zg s 209 ((2 * a3) + 1)), .null, .null, .null] rfl rfl rfl rfl ?_
          refine zn_go rfl ?_
          exact m_34_83_39 hd r9 h
theorem ml_34_9_39 {d d0 : Nat} (hd : d = d0 + 8)  {a2 : Int32} {a3 : Int32} {a4 : Int32} {s : zS} {Q : Option Value → zS → Prop}  (h : vl_34_9 (fun j => Zt d (wd2 39 j) j) 39  a2 a3 a4 s Q) : Zn d [] [(0, 207)] ([(206, 3, 39)] : zW) ([(206, 3, 39)] : zW) xL_3 7 (none) xE_34 (xE_34.drop 9) [.ref 206, .ref 111, .int a2, .int a3, .int a4, .null, .null, .null, .null, .null] [] s Q := by
  obtain ⟨I, μ, h0, h1⟩ := h
  have key : ∀ (n : Nat) (a2 : Int32) (a3 : Int32) (a4 : Int32) (s : zS), μ a2 a3 a4 s = n → I a2 a3 a4 s → Zn d [] [(0, 207)] ([(206, 3, 39)] : zW) ([(206, 3, 39)] : zW) xL_3 7 (none) xE_34 (xE_34.drop 9) [.ref 206, .ref 111, .int a2, .int a3, .int a4, .null, .null, .null, .null, .null] [] s Q := by
    intro n
    induction n using Nat.strongRecOn with
    | ind n ih =>
      intro a2 a3 a4 s e hI
      exact m_34_9_39 hd (fun a2' a3' a4' s' q => ih _ (by rw [← e]; exact q.2) a2' a3' a4' s' rfl q.1) (h1 a2 a3 a4 s hI)
  exact key _ a2 a3 a4 s rfl h0
set_option maxRecDepth 20000 in
theorem m_34_0_39 {d d0 : Nat} (hd : d = d0 + 8)  {a2 : Int32} {s : zS} {Q : Option Value → zS → Prop}  (h : v_34_0 (fun j => Zt d (wd2 39 j) j) 39  a2 s Q) : Zn d [] [(0, 207)] ([(206, 3, 39)] : zW) ([(206, 3, 39)] : zW) xL_3 7 (none) xE_34 (xE_34.drop 0) [.ref 206, .ref 111, .int a2, .null, .null, .null, .null, .null, .null, .null] [] s Q := by
  unfold v_34_0 at h
  refine zn_c [.int 0] (xo_push (.int 0)) rfl rfl ?_
  refine zn_st [.ref 206, .ref 111, .int a2, .int 0, .null, .null, .null, .null, .null, .null] rfl rfl rfl ?_
  refine zn_ld rfl rfl rfl ?_
  refine zn_ld rfl rfl rfl ?_
  refine zn_ld rfl rfl rfl ?_
  refine zn_c [.int 0, .int a2, .ref 111, .ref 206] (xo_push (.int 0)) rfl rfl ?_
  refine zn_zt [.ref 206, .ref 111, .int a2, .int 0] [] rfl rfl rfl rfl rfl (Zt.imp h (fun v1 s2 h => ?_))
  obtain ⟨rfl, h⟩ := h
  change Zn _ _ _ _ _ _ _ _ _ _ _ [] _ _
  refine zn_c [.int 0] (xo_push (.int 0)) rfl rfl ?_
  refine zn_st [.ref 206, .ref 111, .int a2, .int 0, .int 0, .null, .null, .null, .null, .null] rfl rfl rfl ?_
  exact ml_34_9_39 hd  h
theorem zq_34_39 {d : Nat} {a2 : Int32} {s : zS} {Q : Option Value → zS → Prop} (h : v_34_0 (fun j => Zt (d + 8) (wd2 39 j) j) 39 a2 s Q) : Zt (d + 9) ([(206, 3, 39)] : zW) 34 [.ref 206, .ref 111, .int a2] s Q := zt_of (E := xE_34) (L := xL_3) (ml := 7) (ret := none) rfl rfl rfl (m_34_0_39 rfl h)
theorem zc_34 {d P : Nat} (hP : P = 3 ∨ P = 39) {a2 : Int32} {s : zS} {Q : Option Value → zS → Prop} (h : v_34_0 (fun j => Zt (d + 8) (wd2 P j) j) P a2 s Q) : Zt (d + 9) (wd2 P 34) 34 [.ref 206, .ref 111, .int a2] s Q := by
  rcases hP with rfl | rfl
  · exact zq_34_3 h
  · exact zq_34_39 h
/-! FeatherBench.print -/
def v_148_47 (T : Nat → List Value → zS → (Option Value → zS → Prop) → Prop) (P : Nat) (dz : Nat)  (a1 : Int32) (s : zS) (Q : Option Value → zS → Prop) : Prop :=
  Q (some (.int (-1))) s
def v_148_21 (T : Nat → List Value → zS → (Option Value → zS → Prop) → Prop) (P : Nat) (dz : Nat)  (a1 : Int32) (s : zS) (Q : Option Value → zS → Prop) : Prop :=
  (¬ (a1.toInt = 1) → v_148_47 T P dz  a1 s Q) ∧ (a1.toInt = 1 → (¬ ((s.1 105 13).toInt = 0) → v_148_47 T P dz  a1 s Q) ∧ ((s.1 105 13).toInt = 0 → Zu dz [(206, 3)] [] [(206, 3, P)] 31 [.ref 206, .ref P] s (fun v1 s2 => v1 = none ∧ (T 34 [.ref 206, .ref 111, .int (s2.1 105 14)] s2 (fun v3 s4 => v3 = none ∧ (Q (some (.int (s4.1 207 2))) s4))))))
def v_148_0 (T : Nat → List Value → zS → (Option Value → zS → Prop) → Prop) (P : Nat) (dz : Nat)  (a1 : Int32) (s : zS) (Q : Option Value → zS → Prop) : Prop :=
  (¬ (a1.toInt = 0) → v_148_21 T P dz  a1 s Q) ∧ (a1.toInt = 0 → ((s.1 0 11).toInt = 0 → v_148_21 T P dz  a1 s Q) ∧ (¬ ((s.1 0 11).toInt = 0) → Zu dz [(206, 3)] [] [(206, 3, P)] 31 [.ref 206, .ref P] s (fun v1 s2 => v1 = none ∧ (T 32 [.ref 206, .int (s2.1 P 13)] s2 (fun v3 s4 => v3 = none ∧ (Q (some (.int (s4.1 207 2))) s4))))))
set_option maxRecDepth 20000 in
theorem m_148_47_3 {d d0 : Nat} (hd : d = d0 + 8)  {a1 : Int32} {s : zS} {Q : Option Value → zS → Prop}  (h : v_148_47 (fun j => Zt d (wd2 3 j) j) 3 d  a1 s Q) : Zn d [(206, 3)] [(0, 207)] ([(0, 9, 3)] : zW) ([] : zW) xL_11 2 (some .int) xE_148 (xE_148.drop 47) [.ref 0, .int a1, .null, .null] [] s Q := by
  unfold v_148_47 at h
  refine zn_c [.int (-1)] (xo_push (.int (-1))) rfl rfl ?_
  refine zn_wk (c := []) rfl ?_
  exact zn_retI rfl h
set_option maxRecDepth 20000 in
theorem m_148_21_3 {d d0 : Nat} (hd : d = d0 + 8)  {a1 : Int32} {s : zS} {Q : Option Value → zS → Prop}  (h : v_148_21 (fun j => Zt d (wd2 3 j) j) 3 d  a1 s Q) : Zn d [(206, 3)] [(0, 207)] ([(0, 9, 3)] : zW) ([] : zW) xL_11 2 (some .int) xE_148 (xE_148.drop 21) [.ref 0, .int a1, .null, .null] [] s Q := by
  unfold v_148_21 at h
  refine zn_ld rfl rfl rfl ?_
  refine zn_c [.int 1, .int a1] (xo_push (.int 1)) rfl rfl ?_
  refine zn_brN rfl rfl ⟨fun hcn => ?_, fun hcn => ?_⟩
  · replace h := h.1 (fun q => hcn ((i_eq (x := a1) (y := 1) rfl (show (1 : Int32).toInt = 1 by decide)).mpr q))
    exact m_148_47_3 hd  h
  · replace h := h.2 ((i_eq (x := a1) (y := 1) rfl (show (1 : Int32).toInt = 1 by decide)).mp hcn)
    refine zn_ld rfl rfl rfl ?_
    refine zn_get (v := .ref 105) rfl (zv_R (a := 0) rfl rfl) ?_
    refine zn_get (v := .int (s.1 105 13)) rfl (zv_I (a := 105) rfl rfl) ?_
    refine zn_brN rfl rfl ⟨fun hcn => ?_, fun hcn => ?_⟩
    · replace h := h.1 (fun q => hcn ((i_eq (x := s.1 105 13) (y := 0) rfl (show (0 : Int32).toInt = 0 by decide)).mpr q))
      exact m_148_47_3 hd  h
    · replace h := h.2 ((i_eq (x := s.1 105 13) (y := 0) rfl (show (0 : Int32).toInt = 0 by decide)).mp hcn)
      refine zn_ld rfl rfl rfl ?_
      refine zn_get (v := .ref 206) rfl (zv_R (a := 0) rfl rfl) ?_
      refine zn_ld rfl rfl rfl ?_
      refine zn_get (v := .ref 3) rfl (zv_C (a := 0) (n := 0) rfl rfl rfl) ?_
      refine zn_zu [.ref 206, .ref 3] [] (c := ([] : zW)) (c' := ([(206, 3, 3)] : zW)) (w1 := ([(0, 9, 3)] : zW)) rfl rfl rfl rfl rfl rfl rfl (Zu.imp h (fun v1 s2 h => ?_))
      obtain ⟨rfl, h⟩ := h
      change Zn _ _ _ _ _ _ _ _ _ _ _ [] _ _
      refine zn_ld rfl rfl rfl ?_
      refine zn_get (v := .ref 206) rfl (zv_R (a := 0) rfl rfl) ?_
      refine zn_ld rfl rfl rfl ?_
      refine zn_get (v := .ref 105) rfl (zv_R (a := 0) rfl rfl) ?_
      refine zn_get (v := .ref 111) rfl (zv_R (a := 105) rfl rfl) ?_
      refine zn_ld rfl rfl rfl ?_
      refine zn_get (v := .ref 105) rfl (zv_R (a := 0) rfl rfl) ?_
      refine zn_get (v := .int (s2.1 105 14)) rfl (zv_I (a := 105) rfl rfl) ?_
      refine zn_zt [.ref 206, .ref 111, .int (s2.1 105 14)] [] rfl rfl rfl rfl rfl (Zt.imp h (fun v3 s4 h => ?_))
      obtain ⟨rfl, h⟩ := h
      change Zn _ _ _ _ _ _ _ _ _ _ _ [] _ _
      refine zn_ld rfl rfl rfl ?_
      refine zn_get (v := .ref 206) rfl (zv_R (a := 0) rfl rfl) ?_
      refine zn_get (v := .ref 207) rfl (zv_R (a := 206) rfl rfl) ?_
      refine zn_get (v := .int (s4.1 207 2)) rfl (zv_I (a := 207) rfl rfl) ?_
      refine zn_wk (c := []) rfl ?_
      exact zn_retI rfl h
set_option maxRecDepth 20000 in
theorem m_148_0_3 {d d0 : Nat} (hd : d = d0 + 8)  {a1 : Int32} {s : zS} {Q : Option Value → zS → Prop}  (h : v_148_0 (fun j => Zt d (wd2 3 j) j) 3 d  a1 s Q) : Zn d [(206, 3)] [(0, 207)] ([(0, 9, 3)] : zW) ([] : zW) xL_11 2 (some .int) xE_148 (xE_148.drop 0) [.ref 0, .int a1, .null, .null] [] s Q := by
  unfold v_148_0 at h
  refine zn_ld rfl rfl rfl ?_
  refine zn_brN rfl rfl ⟨fun hcn => ?_, fun hcn => ?_⟩
  · replace h := h.1 (fun q => hcn ((i_eq (x := a1) (y := 0) rfl (show (0 : Int32).toInt = 0 by decide)).mpr q))
    exact m_148_21_3 hd  h
  · replace h := h.2 ((i_eq (x := a1) (y := 0) rfl (show (0 : Int32).toInt = 0 by decide)).mp hcn)
    refine zn_ld rfl rfl rfl ?_
    refine zn_get (v := .int (s.1 0 11)) rfl (zv_I (a := 0) rfl rfl) ?_
    refine zn_brP rfl rfl ⟨fun hcn => ?_, fun hcn => ?_⟩
    · replace h := h.1 ((i_eq (x := s.1 0 11) (y := 0) rfl (show (0 : Int32).toInt = 0 by decide)).mp hcn)
      exact m_148_21_3 hd  h
    · replace h := h.2 (fun q => hcn ((i_eq (x := s.1 0 11) (y := 0) rfl (show (0 : Int32).toInt = 0 by decide)).mpr q))
      refine zn_ld rfl rfl rfl ?_
      refine zn_get (v := .ref 206) rfl (zv_R (a := 0) rfl rfl) ?_
      refine zn_ld rfl rfl rfl ?_
      refine zn_get (v := .ref 3) rfl (zv_C (a := 0) (n := 0) rfl rfl rfl) ?_
      refine zn_zu [.ref 206, .ref 3] [] (c := ([] : zW)) (c' := ([(206, 3, 3)] : zW)) (w1 := ([(0, 9, 3)] : zW)) rfl rfl rfl rfl rfl rfl rfl (Zu.imp h (fun v1 s2 h => ?_))
      obtain ⟨rfl, h⟩ := h
      change Zn _ _ _ _ _ _ _ _ _ _ _ [] _ _
      refine zn_ld rfl rfl rfl ?_
      refine zn_get (v := .ref 206) rfl (zv_R (a := 0) rfl rfl) ?_
      refine zn_ld rfl rfl rfl ?_
      refine zn_get (v := .ref 3) rfl (zv_C (a := 0) (n := 1) rfl rfl rfl) ?_
      refine zn_get (v := .int (s2.1 3 13)) rfl (zv_I (a := 3) rfl rfl) ?_
      refine zn_zt [.ref 206, .int (s2.1 3 13)] [] rfl rfl rfl rfl rfl (Zt.imp h (fun v3 s4 h => ?_))
      obtain ⟨rfl, h⟩ := h
      change Zn _ _ _ _ _ _ _ _ _ _ _ [] _ _
      refine zn_ld rfl rfl rfl ?_
      refine zn_get (v := .ref 206) rfl (zv_R (a := 0) rfl rfl) ?_
      refine zn_get (v := .ref 207) rfl (zv_R (a := 206) rfl rfl) ?_
      refine zn_get (v := .int (s4.1 207 2)) rfl (zv_I (a := 207) rfl rfl) ?_
      refine zn_wk (c := []) rfl ?_
      exact zn_retI rfl h
theorem zq_148_3 {d : Nat} {a1 : Int32} {s : zS} {Q : Option Value → zS → Prop} (h : v_148_0 (fun j => Zt (d + 8) (wd2 3 j) j) 3 (d + 8) a1 s Q) : Zu (d + 9) [(206, 3)] ([(0, 9, 3)] : zW) ([] : zW) 148 [.ref 0, .int a1] s Q := zu_of (E := xE_148) (L := xL_11) (ml := 2) (ret := some .int) rfl rfl rfl (m_148_0_3 rfl h)
set_option maxRecDepth 20000 in
theorem m_148_47_39 {d d0 : Nat} (hd : d = d0 + 8)  {a1 : Int32} {s : zS} {Q : Option Value → zS → Prop}  (h : v_148_47 (fun j => Zt d (wd2 39 j) j) 39 d  a1 s Q) : Zn d [(206, 3)] [(0, 207)] ([(0, 9, 39)] : zW) ([] : zW) xL_11 2 (some .int) xE_148 (xE_148.drop 47) [.ref 0, .int a1, .null, .null] [] s Q := by
  unfold v_148_47 at h
  refine zn_c [.int (-1)] (xo_push (.int (-1))) rfl rfl ?_
  refine zn_wk (c := []) rfl ?_
  exact zn_retI rfl h
set_option maxRecDepth 20000 in
theorem m_148_21_39 {d d0 : Nat} (hd : d = d0 + 8)  {a1 : Int32} {s : zS} {Q : Option Value → zS → Prop}  (h : v_148_21 (fun j => Zt d (wd2 39 j) j) 39 d  a1 s Q) : Zn d [(206, 3)] [(0, 207)] ([(0, 9, 39)] : zW) ([] : zW) xL_11 2 (some .int) xE_148 (xE_148.drop 21) [.ref 0, .int a1, .null, .null] [] s Q := by
  unfold v_148_21 at h
  refine zn_ld rfl rfl rfl ?_
  refine zn_c [.int 1, .int a1] (xo_push (.int 1)) rfl rfl ?_
  refine zn_brN rfl rfl ⟨fun hcn => ?_, fun hcn => ?_⟩
  · replace h := h.1 (fun q => hcn ((i_eq (x := a1) (y := 1) rfl (show (1 : Int32).toInt = 1 by decide)).mpr q))
    exact m_148_47_39 hd  h
  · replace h := h.2 ((i_eq (x := a1) (y := 1) rfl (show (1 : Int32).toInt = 1 by decide)).mp hcn)
    refine zn_ld rfl rfl rfl ?_
    refine zn_get (v := .ref 105) rfl (zv_R (a := 0) rfl rfl) ?_
    refine zn_get (v := .int (s.1 105 13)) rfl (zv_I (a := 105) rfl rfl) ?_
    refine zn_brN rfl rfl ⟨fun hcn => ?_, fun hcn => ?_⟩
    · replace h := h.1 (fun q => hcn ((i_eq (x := s.1 105 13) (y := 0) rfl (show (0 : Int32).toInt = 0 by decide)).mpr q))
      exact m_148_47_39 hd  h
    · replace h := h.2 ((i_eq (x := s.1 105 13) (y := 0) rfl (show (0 : Int32).toInt = 0 by decide)).mp hcn)
      refine zn_ld rfl rfl rfl ?_
      refine zn_get (v := .ref 206) rfl (zv_R (a := 0) rfl rfl) ?_
      refine zn_ld rfl rfl rfl ?_
      refine zn_get (v := .ref 39) rfl (zv_C (a := 0) (n := 0) rfl rfl rfl) ?_
      refine zn_zu [.ref 206, .ref 39] [] (c := ([] : zW)) (c' := ([(206, 3, 39)] : zW)) (w1 := ([(0, 9, 39)] : zW)) rfl rfl rfl rfl rfl rfl rfl (Zu.imp h (fun v1 s2 h => ?_))
      obtain ⟨rfl, h⟩ := h
      change Zn _ _ _ _ _ _ _ _ _ _ _ [] _ _
      refine zn_ld rfl rfl rfl ?_
      refine zn_get (v := .ref 206) rfl (zv_R (a := 0) rfl rfl) ?_
      refine zn_ld rfl rfl rfl ?_
      refine zn_get (v := .ref 105) rfl (zv_R (a := 0) rfl rfl) ?_
      refine zn_get (v := .ref 111) rfl (zv_R (a := 105) rfl rfl) ?_
      refine zn_ld rfl rfl rfl ?_
      refine zn_get (v := .ref 105) rfl (zv_R (a := 0) rfl rfl) ?_
      refine zn_get (v := .int (s2.1 105 14)) rfl (zv_I (a := 105) rfl rfl) ?_
      refine zn_zt [.ref 206, .ref 111, .int (s2.1 105 14)] [] rfl rfl rfl rfl rfl (Zt.imp h (fun v3 s4 h => ?_))
      obtain ⟨rfl, h⟩ := h
      change Zn _ _ _ _ _ _ _ _ _ _ _ [] _ _
      refine zn_ld rfl rfl rfl ?_
      refine zn_get (v := .ref 206) rfl (zv_R (a := 0) rfl rfl) ?_
      refine zn_get (v := .ref 207) rfl (zv_R (a := 206) rfl rfl) ?_
      refine zn_get (v := .int (s4.1 207 2)) rfl (zv_I (a := 207) rfl rfl) ?_
      refine zn_wk (c := []) rfl ?_
      exact zn_retI rfl h
set_option maxRecDepth 20000 in
theorem m_148_0_39 {d d0 : Nat} (hd : d = d0 + 8)  {a1 : Int32} {s : zS} {Q : Option Value → zS → Prop}  (h : v_148_0 (fun j => Zt d (wd2 39 j) j) 39 d  a1 s Q) : Zn d [(206, 3)] [(0, 207)] ([(0, 9, 39)] : zW) ([] : zW) xL_11 2 (some .int) xE_148 (xE_148.drop 0) [.ref 0, .int a1, .null, .null] [] s Q := by
  unfold v_148_0 at h
  refine zn_ld rfl rfl rfl ?_
  refine zn_brN rfl rfl ⟨fun hcn => ?_, fun hcn => ?_⟩
  · replace h := h.1 (fun q => hcn ((i_eq (x := a1) (y := 0) rfl (show (0 : Int32).toInt = 0 by decide)).mpr q))
    exact m_148_21_39 hd  h
  · replace h := h.2 ((i_eq (x := a1) (y := 0) rfl (show (0 : Int32).toInt = 0 by decide)).mp hcn)
    refine zn_ld rfl rfl rfl ?_
    refine zn_get (v := .int (s.1 0 11)) rfl (zv_I (a := 0) rfl rfl) ?_
    refine zn_brP rfl rfl ⟨fun hcn => ?_, fun hcn => ?_⟩
    · replace h := h.1 ((i_eq (x := s.1 0 11) (y := 0) rfl (show (0 : Int32).toInt = 0 by decide)).mp hcn)
      exact m_148_21_39 hd  h
    · replace h := h.2 (fun q => hcn ((i_eq (x := s.1 0 11) (y := 0) rfl (show (0 : Int32).toInt = 0 by decide)).mpr q))
      refine zn_ld rfl rfl rfl ?_
      refine zn_get (v := .ref 206) rfl (zv_R (a := 0) rfl rfl) ?_
      refine zn_ld rfl rfl rfl ?_
      refine zn_get (v := .ref 39) rfl (zv_C (a := 0) (n := 0) rfl rfl rfl) ?_
      refine zn_zu [.ref 206, .ref 39] [] (c := ([] : zW)) (c' := ([(206, 3, 39)] : zW)) (w1 := ([(0, 9, 39)] : zW)) rfl rfl rfl rfl rfl rfl rfl (Zu.imp h (fun v1 s2 h => ?_))
      obtain ⟨rfl, h⟩ := h
      change Zn _ _ _ _ _ _ _ _ _ _ _ [] _ _
      refine zn_ld rfl rfl rfl ?_
      refine zn_get (v := .ref 206) rfl (zv_R (a := 0) rfl rfl) ?_
      refine zn_ld rfl rfl rfl ?_
      refine zn_get (v := .ref 39) rfl (zv_C (a := 0) (n := 1) rfl rfl rfl) ?_
      refine zn_get (v := .int (s2.1 39 13)) rfl (zv_I (a := 39) rfl rfl) ?_
      refine zn_zt [.ref 206, .int (s2.1 39 13)] [] rfl rfl rfl rfl rfl (Zt.imp h (fun v3 s4 h => ?_))
      obtain ⟨rfl, h⟩ := h
      change Zn _ _ _ _ _ _ _ _ _ _ _ [] _ _
      refine zn_ld rfl rfl rfl ?_
      refine zn_get (v := .ref 206) rfl (zv_R (a := 0) rfl rfl) ?_
      refine zn_get (v := .ref 207) rfl (zv_R (a := 206) rfl rfl) ?_
      refine zn_get (v := .int (s4.1 207 2)) rfl (zv_I (a := 207) rfl rfl) ?_
      refine zn_wk (c := []) rfl ?_
      exact zn_retI rfl h
theorem zq_148_39 {d : Nat} {a1 : Int32} {s : zS} {Q : Option Value → zS → Prop} (h : v_148_0 (fun j => Zt (d + 8) (wd2 39 j) j) 39 (d + 8) a1 s Q) : Zu (d + 9) [(206, 3)] ([(0, 9, 39)] : zW) ([] : zW) 148 [.ref 0, .int a1] s Q := zu_of (E := xE_148) (L := xL_11) (ml := 2) (ret := some .int) rfl rfl rfl (m_148_0_39 rfl h)
theorem zc_148 {d P : Nat} (hP : P = 3 ∨ P = 39) {a1 : Int32} {s : zS} {Q : Option Value → zS → Prop} (h : v_148_0 (fun j => Zt (d + 8) (wd2 P j) j) P (d + 8) a1 s Q) : Zu (d + 9) [(206, 3)] [(0, 9, P)] [] 148 [.ref 0, .int a1] s Q := by
  rcases hP with rfl | rfl
  · exact zq_148_3 h
  · exact zq_148_39 h
section ZZZL
variable {d P : Nat} {s u : zS} {a1 a2 a3 : Int32}
theorem zw_33 (hP : P = 3 ∨ P = 39) : Zt (d + 9) (wd2 P 33) 33 [.ref 206, .int a1] s (fun v _ => v = none) := by
  refine zc_33 hP ?_
  unfold v_33_0
  refine ⟨fun _ _ c3 _ => 0 ≤ c3.toInt, fun _ _ c3 _ => (2147483647 - c3.toInt).toNat, (show (0 : Int) ≤ (0 : Int32).toInt by decide), ?_⟩
  intro c1 c2 c3 u i1
  unfold v_33_9
  refine ⟨fun _ => rfl, fun y x1 _ s2 _ x3 hx3 => ?_⟩
  have hm : (zg u (P + 8) c1).toInt ≤ 2147483647 := Int.le_of_lt_add_one (Int32.toInt_lt _)
  have := hx3 (by omega)
  exact ⟨by omega, by dsimp only; omega⟩
theorem zw_32 (hP : P = 3 ∨ P = 39) : Zt (d + 18) (wd2 P 32) 32 [.ref 206, .int a1] s (fun v _ => v = none) := by
  refine zc_32 (d := d + 9) hP ?_
  unfold v_32_0
  intro s1 _
  refine ⟨fun _ _ c3 _ => 0 ≤ c3.toInt, fun _ _ c3 _ => (60 - c3.toInt).toNat, (show (0 : Int) ≤ (0 : Int32).toInt by decide), ?_⟩
  intro c1 c2 c3 u i1
  have nx : ∀ (q2 q4 : Int32) (w : zS), ¬ 60 ≤ c3.toInt → v_32_92 (fun j => Zt (d + 9 + 8) (wd2 P j) j) P (fun _ _ a3' _ => 0 ≤ a3'.toInt ∧ (60 - a3'.toInt).toNat < (60 - c3.toInt).toNat) c1 q2 c3 q4 w (fun v _ => v = none) := fun q2 q4 w y => by
    unfold v_32_92
    intro x1 hx1
    have := hx1 (by omega)
    exact ⟨by omega, by omega⟩
  unfold v_32_9 v_32_94
  refine ⟨fun _ => rfl, fun y => ⟨fun _ => rfl, fun _ x1 _ => ?_⟩⟩
  refine Zt.imp (Zt.mo (d := 9) (by omega) (zw_33 (d := 0) hP)) ?_
  rintro v3 s4 rfl
  refine ⟨rfl, fun _ x5 _ s6 _ => ?_, fun _ x7 _ s8 _ s9 _ => nx _ _ _ y⟩
  refine ⟨fun _ _ b3 _ _ => b3 = c3, fun _ b2 _ _ _ => b2.toInt.toNat, rfl, ?_⟩
  intro b1 b2 b3 b4 w e3
  subst e3
  unfold v_32_63 v_32_86
  refine ⟨fun _ => ⟨fun _ => ?_, fun _ s1 _ => ?_⟩, fun y2 => ⟨fun _ => ⟨fun _ => ?_, fun _ s1 _ => ?_⟩, fun _ s1 _ x2 hx2 x3 _ s4 _ => ?_⟩⟩
  · unfold v_32_92
    intro x1 hx1
    have := hx1 (by omega)
    exact ⟨by omega, by dsimp only; omega⟩
  · unfold v_32_92
    intro x1 hx1
    have := hx1 (by omega)
    exact ⟨by omega, by dsimp only; omega⟩
  · unfold v_32_92
    intro x1 hx1
    have := hx1 (by omega)
    exact ⟨by omega, by dsimp only; omega⟩
  · unfold v_32_92
    intro x1 hx1
    have := hx1 (by omega)
    exact ⟨by omega, by dsimp only; omega⟩
  · have := hx2 (by have := b2.toInt_lt; omega)
    exact ⟨rfl, by dsimp only; omega⟩
theorem zw_35 (hP : P = 3 ∨ P = 39) : Zt (d + 27) (wd2 P 35) 35 [.ref 206, .ref 111, .int a2, .int a3] s (fun v _ => v = none) := by
  refine zc_35 (d := d + 18) hP ?_
  unfold v_35_0
  refine Zt.imp (Zt.mo (d := 18) (by omega) (zw_32 (d := 0) hP)) ?_
  rintro v1 s2 rfl
  exact ⟨rfl, fun _ _ _ _ _ _ _ _ _ _ _ _ => rfl⟩
theorem zw_34 (hP : P = 3 ∨ P = 39) : Zt (d + 36) (wd2 P 34) 34 [.ref 206, .ref 111, .int a2] s (fun v _ => v = none) := by
  refine zc_34 (d := d + 27) hP ?_
  unfold v_34_0
  refine Zt.imp (Zt.mo (d := 27) (by omega) (zw_35 (d := 0) hP)) ?_
  rintro v1 s2 rfl
  refine ⟨rfl, ?_⟩
  refine ⟨fun _ _ c4 _ => 0 ≤ c4.toInt, fun _ _ c4 _ => (2000 - c4.toInt).toNat, (show (0 : Int) ≤ (0 : Int32).toInt by decide), ?_⟩
  intro c2 c3 c4 u i1
  have nx : ∀ (q3 q5 q6 : Int32) (w : zS), ¬ 2000 ≤ c4.toInt → v_34_83 (fun j => Zt (d + 27 + 8) (wd2 P j) j) P (fun _ _ a4' _ => 0 ≤ a4'.toInt ∧ (2000 - a4'.toInt).toNat < (2000 - c4.toInt).toNat) c2 q3 c4 q5 q6 w (fun v _ => v = none) := fun q3 q5 q6 w y => by
    unfold v_34_83
    intro x1 hx1
    have := hx1 (by omega)
    exact ⟨by omega, by omega⟩
  have f60 : ∀ (q5 q6 : Int32) (w : zS), ¬ 2000 ≤ c4.toInt → v_34_60 (fun j => Zt (d + 27 + 8) (wd2 P j) j) P (fun _ _ a4' _ => 0 ≤ a4'.toInt ∧ (2000 - a4'.toInt).toNat < (2000 - c4.toInt).toNat) c2 c3 c4 q5 q6 w (fun v _ => v = none) := fun q5 q6 w y => by
    unfold v_34_60
    intro x1 _ x2 _ x3 _ s4 _ x5 _ x6 _ x7 _
    refine Zt.imp (Zt.mo (d := 27) (by omega) (zw_35 (d := 0) hP)) ?_
    rintro v8 s9 rfl
    exact ⟨rfl, nx _ _ _ _ y⟩
  unfold v_34_9 v_34_85
  exact ⟨fun _ => rfl, fun y => ⟨fun _ => rfl, fun _ => ⟨fun _ => rfl, fun _ x1 _ x2 _ x3 _ => ⟨fun _ => ⟨fun _ => f60 _ _ _ y, fun _ s5 _ => f60 _ _ _ y⟩, fun _ s6 _ x7 _ => nx _ _ _ _ y⟩⟩⟩⟩
theorem zw_31 (hP : P = 3 ∨ P = 39) : Zu (d + 9) [(206, 3)] [] [(206, 3, P)] 31 [.ref 206, .ref P] s (fun v _ => v = none) := by
  refine zc_31 hP ?_
  unfold v_31_0
  exact fun _ _ => rfl
/-- print -/
theorem zw_148 (hP : P = 3 ∨ P = 39) : Zu (d + 45) [(206, 3)] [(0, 9, P)] [] 148 [.ref 0, .int a1] s (fun _ _ => True) := by
  refine zc_148 (d := d + 36) hP ?_
  have f21 : v_148_21 (fun j => Zt (d + 36 + 8) (wd2 P j) j) P (d + 36 + 8) a1 s (fun _ _ => True) := by
    unfold v_148_21 v_148_47
    refine ⟨fun _ => trivial, fun _ => ⟨fun _ => trivial, fun _ => ?_⟩⟩
    refine Zu.imp (Zu.mo (d := 9) (by omega) (zw_31 (d := 0) hP)) ?_
    rintro v1 s2 rfl
    refine ⟨rfl, ?_⟩
    refine Zt.imp (Zt.mo (d := 36) (by omega) (zw_34 (d := 0) hP)) ?_
    rintro v3 s4 rfl
    exact ⟨rfl, trivial⟩
  unfold v_148_0
  refine ⟨fun _ => f21, fun _ => ⟨fun _ => f21, fun _ => ?_⟩⟩
  refine Zu.imp (Zu.mo (d := 9) (by omega) (zw_31 (d := 0) hP)) ?_
  rintro v1 s2 rfl
  refine ⟨rfl, ?_⟩
  refine Zt.imp (Zt.mo (d := 18) (by omega) (zw_32 (d := 0) hP)) ?_
  rintro v3 s4 rfl
  exact ⟨rfl, trivial⟩
end ZZZL
