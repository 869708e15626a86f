/-! FeatherBench$Text.same -/
def v_111_25 (T : Nat → List Value → zS → (Option Value → zS → Prop) → Prop) (P : Nat) (R25 : Int32 → Int32 → Int32 → Int32 → Int32 → Int32 → zS → Prop) (a1 : Int32) (a3 : Int32) (a4 : Int32) (a5 : Int32) (a6 : Int32) (a7 : Int32) (s : zS) (Q : Option Value → zS → Prop) : Prop :=
  (a4.toInt ≤ a7.toInt → Q (some (.int 1)) s) ∧ (¬ (a4.toInt ≤ a7.toInt) → ∀ x1 : Int32, (-2147483648 ≤ a5.toInt + a7.toInt ∧ a5.toInt + a7.toInt ≤ 2147483647 → x1.toInt = a5.toInt + a7.toInt) → ∀ x2 : Int32, (-2147483648 ≤ a6.toInt + a7.toInt ∧ a6.toInt + a7.toInt ≤ 2147483647 → x2.toInt = a6.toInt + a7.toInt) → ((zg s (P + 2) x1).toInt = (zg s (P + 2) x2).toInt → ∀ x3 : Int32, (-2147483648 ≤ a7.toInt + 1 ∧ a7.toInt + 1 ≤ 2147483647 → x3.toInt = a7.toInt + 1) → R25 a1 a3 a4 a5 a6 x3 s) ∧ (¬ ((zg s (P + 2) x1).toInt = (zg s (P + 2) x2).toInt) → Q (some (.int 0)) s))
def vl_111_25 (T : Nat → List Value → zS → (Option Value → zS → Prop) → Prop) (P : Nat)  (a1 : Int32) (a3 : Int32) (a4 : Int32) (a5 : Int32) (a6 : Int32) (a7 : Int32) (s : zS) (Q : Option Value → zS → Prop) : Prop :=
  ∃ (I : Int32 → Int32 → Int32 → Int32 → Int32 → Int32 → zS → Prop) (μ : Int32 → Int32 → Int32 → Int32 → Int32 → Int32 → zS → Nat), I a1 a3 a4 a5 a6 a7 s ∧ ∀ (a1 : Int32) (a3 : Int32) (a4 : Int32) (a5 : Int32) (a6 : Int32) (a7 : Int32) (s : zS), I a1 a3 a4 a5 a6 a7 s → v_111_25 T P (fun a1' a3' a4' a5' a6' a7' s' => I a1' a3' a4' a5' a6' a7' s' ∧ μ a1' a3' a4' a5' a6' a7' s' < μ a1 a3 a4 a5 a6 a7 s) a1 a3 a4 a5 a6 a7 s Q
def v_111_0 (T : Nat → List Value → zS → (Option Value → zS → Prop) → Prop) (P : Nat)  (a1 : Int32) (a3 : Int32) (s : zS) (Q : Option Value → zS → Prop) : Prop :=
  ((zg s (P + 8) a1).toInt = (zg s (P + 8) a3).toInt → vl_111_25 T P  a1 a3 (zg s (P + 8) a1) (zg s (P + 6) a1) (zg s (P + 6) a3) 0 s Q) ∧ (¬ ((zg s (P + 8) a1).toInt = (zg s (P + 8) a3).toInt) → Q (some (.int 0)) s)
set_option maxRecDepth 20000 in
theorem m_111_25_3 {d d0 : Nat} (hd : d = d0 + 8) {R25 : Int32 → Int32 → Int32 → Int32 → Int32 → Int32 → zS → Prop} {a1 : Int32} {a3 : Int32} {a4 : Int32} {a5 : Int32} {a6 : Int32} {a7 : Int32} {s : zS} {Q : Option Value → zS → Prop} (r25 : ∀ a1 a3 a4 a5 a6 a7 s, R25 a1 a3 a4 a5 a6 a7 s → Zn d [] [] ([] : zW) ([] : zW) xL_9 8 (some .boolean) xE_111 (xE_111.drop 25) [.ref 4, .int a1, .ref 4, .int a3, .int a4, .int a5, .int a6, .int a7, .null, .null, .null, .null] [] s Q) (h : v_111_25 (fun j => Zt d (wd 3 j) j) 3 R25 a1 a3 a4 a5 a6 a7 s Q) : Zn d [] [] ([] : zW) ([] : zW) xL_9 8 (some .boolean) xE_111 (xE_111.drop 25) [.ref 4, .int a1, .ref 4, .int a3, .int a4, .int a5, .int a6, .int a7, .null, .null, .null, .null] [] s Q := by
  unfold v_111_25 at h
  refine zn_ld rfl rfl rfl ?_
  refine zn_ld rfl rfl rfl ?_
  refine zn_brP rfl rfl ⟨fun hcn => ?_, fun hcn => ?_⟩
  · replace h := h.1 ((i_le (x := a4) (y := a7) rfl rfl).mp hcn)
    refine zn_c [.int 1] (xo_push (.int 1)) rfl rfl ?_
    exact zn_retZ rfl rfl h
  · replace h := h.2 (fun q => hcn ((i_le (x := a4) (y := a7) rfl rfl).mpr q))
    refine zn_ld rfl rfl rfl ?_
    refine zn_get (v := .ref 5) rfl (zv_R (a := 4) rfl rfl) ?_
    refine zn_ld rfl rfl rfl ?_
    refine zn_ld rfl rfl rfl ?_
    replace h := h _ (i_add (x := a5) (y := a7) rfl rfl)
    refine zn_c [.int (a5 + a7), .ref 5] xo_iadd rfl rfl ?_
    refine zn_row (a5 + a7) [] (a := 5) hd rfl rfl rfl rfl ?_
    change Zn _ _ _ _ _ _ _ _ _ _ _ [.int (zg s 5 (a5 + a7))] _ _
    refine zn_ld rfl rfl rfl ?_
    refine zn_get (v := .ref 5) rfl (zv_R (a := 4) rfl rfl) ?_
    refine zn_ld rfl rfl rfl ?_
    refine zn_ld rfl rfl rfl ?_
    replace h := h _ (i_add (x := a6) (y := a7) rfl rfl)
    refine zn_c [.int (a6 + a7), .ref 5, .int (zg s 5 (a5 + a7))] xo_iadd rfl rfl ?_
    refine zn_row (a6 + a7) [.int (zg s 5 (a5 + a7))] (a := 5) hd rfl rfl rfl rfl ?_
    change Zn _ _ _ _ _ _ _ _ _ _ _ [.int (zg s 5 (a6 + a7)), .int (zg s 5 (a5 + a7))] _ _
    refine zn_brP rfl rfl ⟨fun hcn => ?_, fun hcn => ?_⟩
    · replace h := h.1 ((i_eq (x := zg s 5 (a5 + a7)) (y := zg s 5 (a6 + a7)) rfl rfl).mp hcn)
      replace h := h _ (i_add (x := a7) (y := 1) rfl (show (1 : Int32).toInt = 1 by decide))
      refine zn_inc [.ref 4, .int a1, .ref 4, .int a3, .int a4, .int a5, .int a6, .int (a7 + 1), .null, .null, .null, .null] rfl rfl rfl rfl ?_
      refine zn_go rfl ?_
      exact r25 a1 a3 a4 a5 a6 (a7 + 1) s h
    · replace h := h.2 (fun q => hcn ((i_eq (x := zg s 5 (a5 + a7)) (y := zg s 5 (a6 + a7)) rfl rfl).mpr q))
      refine zn_c [.int 0] (xo_push (.int 0)) rfl rfl ?_
      exact zn_retZ rfl rfl h
theorem ml_111_25_3 {d d0 : Nat} (hd : d = d0 + 8)  {a1 : Int32} {a3 : Int32} {a4 : Int32} {a5 : Int32} {a6 : Int32} {a7 : Int32} {s : zS} {Q : Option Value → zS → Prop}  (h : vl_111_25 (fun j => Zt d (wd 3 j) j) 3  a1 a3 a4 a5 a6 a7 s Q) : Zn d [] [] ([] : zW) ([] : zW) xL_9 8 (some .boolean) xE_111 (xE_111.drop 25) [.ref 4, .int a1, .ref 4, .int a3, .int a4, .int a5, .int a6, .int a7, .null, .null, .null, .null] [] s Q := by
  obtain ⟨I, μ, h0, h1⟩ := h
  have key : ∀ (n : Nat) (a1 : Int32) (a3 : Int32) (a4 : Int32) (a5 : Int32) (a6 : Int32) (a7 : Int32) (s : zS), μ a1 a3 a4 a5 a6 a7 s = n → I a1 a3 a4 a5 a6 a7 s → Zn d [] [] ([] : zW) ([] : zW) xL_9 8 (some .boolean) xE_111 (xE_111.drop 25) [.ref 4, .int a1, .ref 4, .int a3, .int a4, .int a5, .int a6, .int a7, .null, .null, .null, .null] [] s Q := by
    intro n
    induction n using Nat.strongRecOn with
    | ind n ih =>
      intro a1 a3 a4 a5 a6 a7 s e hI
      exact m_111_25_3 hd (fun a1' a3' a4' a5' a6' a7' s' q => ih _ (by rw [← e]; exact q.2) a1' a3' a4' a5' a6' a7' s' rfl q.1) (h1 a1 a3 a4 a5 a6 a7 s hI)
  exact key _ a1 a3 a4 a5 a6 a7 s rfl h0
set_option maxRecDepth 20000 in
theorem m_111_0_3 {d d0 : Nat} (hd : d = d0 + 8)  {a1 : Int32} {a3 : Int32} {s : zS} {Q : Option Value → zS → Prop}  (h : v_111_0 (fun j => Zt d (wd 3 j) j) 3  a1 a3 s Q) : Zn d [] [] ([] : zW) ([] : zW) xL_9 8 (some .boolean) xE_111 (xE_111.drop 0) [.ref 4, .int a1, .ref 4, .int a3, .null, .null, .null, .null, .null, .null, .null, .null] [] s Q := by
  unfold v_111_0 at h
  refine zn_ld rfl rfl rfl ?_
  refine zn_get (v := .ref 11) rfl (zv_R (a := 4) rfl rfl) ?_
  refine zn_ld rfl rfl rfl ?_
  refine zn_row a1 [] (a := 11) hd rfl rfl rfl rfl ?_
  change Zn _ _ _ _ _ _ _ _ _ _ _ [.int (zg s 11 a1)] _ _
  refine zn_st [.ref 4, .int a1, .ref 4, .int a3, .int (zg s 11 a1), .null, .null, .null, .null, .null, .null, .null] rfl rfl rfl ?_
  refine zn_ld rfl rfl rfl ?_
  refine zn_ld rfl rfl rfl ?_
  refine zn_get (v := .ref 11) rfl (zv_R (a := 4) rfl rfl) ?_
  refine zn_ld rfl rfl rfl ?_
  refine zn_row a3 [.int (zg s 11 a1)] (a := 11) hd rfl rfl rfl rfl ?_
  change Zn _ _ _ _ _ _ _ _ _ _ _ [.int (zg s 11 a3), .int (zg s 11 a1)] _ _
  refine zn_brP rfl rfl ⟨fun hcn => ?_, fun hcn => ?_⟩
  · replace h := h.1 ((i_eq (x := zg s 11 a1) (y := zg s 11 a3) rfl rfl).mp hcn)
    refine zn_ld rfl rfl rfl ?_
    refine zn_get (v := .ref 9) rfl (zv_R (a := 4) rfl rfl) ?_
    refine zn_ld rfl rfl rfl ?_
    refine zn_row a1 [] (a := 9) hd rfl rfl rfl rfl ?_
    change Zn _ _ _ _ _ _ _ _ _ _ _ [.int (zg s 9 a1)] _ _
    refine zn_st [.ref 4, .int a1, .ref 4, .int a3, .int (zg s 11 a1), .int (zg s 9 a1), .null, .null, .null, .null, .null, .null] rfl rfl rfl ?_
    refine zn_ld rfl rfl rfl ?_
    refine zn_get (v := .ref 9) rfl (zv_R (a := 4) rfl rfl) ?_
    refine zn_ld rfl rfl rfl ?_
    refine zn_row a3 [] (a := 9) hd rfl rfl rfl rfl ?_
    change Zn _ _ _ _ _ _ _ _ _ _ _ [.int (zg s 9 a3)] _ _
    refine zn_st [.ref 4, .int a1, .ref 4, .int a3, .int (zg s 11 a1), .int (zg s 9 a1), .int (zg s 9 a3), .null, .null, .null, .null, .null] rfl rfl rfl ?_
    refine zn_c [.int 0] (xo_push (.int 0)) rfl rfl ?_
    refine zn_st [.ref 4, .int a1, .ref 4, .int a3, .int (zg s 11 a1), .int (zg s 9 a1), .int (zg s 9 a3), .int 0, .null, .null, .null, .null] rfl rfl rfl ?_
    exact ml_111_25_3 hd  h
  · replace h := h.2 (fun q => hcn ((i_eq (x := zg s 11 a1) (y := zg s 11 a3) rfl rfl).mpr q))
    refine zn_c [.int 0] (xo_push (.int 0)) rfl rfl ?_
    exact zn_retZ rfl rfl h
theorem zq_111_3 {d : Nat} {a1 : Int32} {a3 : Int32} {s : zS} {Q : Option Value → zS → Prop} (h : v_111_0 (fun j => Zt (d + 8) (wd 3 j) j) 3 a1 a3 s Q) : Zt (d + 9) ([] : zW) 111 [.ref 4, .int a1, .ref 4, .int a3] s Q := zt_of (E := xE_111) (L := xL_9) (ml := 8) (ret := some .boolean) rfl rfl rfl (m_111_0_3 rfl h)
set_option maxRecDepth 20000 in
theorem m_111_25_39 {d d0 : Nat} (hd : d = d0 + 8) {R25 : Int32 → Int32 → Int32 → Int32 → Int32 → Int32 → zS → Prop} {a1 : Int32} {a3 : Int32} {a4 : Int32} {a5 : Int32} {a6 : Int32} {a7 : Int32} {s : zS} {Q : Option Value → zS → Prop} (r25 : ∀ a1 a3 a4 a5 a6 a7 s, R25 a1 a3 a4 a5 a6 a7 s → Zn d [] [] ([] : zW) ([] : zW) xL_9 8 (some .boolean) xE_111 (xE_111.drop 25) [.ref 40, .int a1, .ref 40, .int a3, .int a4, .int a5, .int a6, .int a7, .null, .null, .null, .null] [] s Q) (h : v_111_25 (fun j => Zt d (wd 39 j) j) 39 R25 a1 a3 a4 a5 a6 a7 s Q) : Zn d [] [] ([] : zW) ([] : zW) xL_9 8 (some .boolean) xE_111 (xE_111.drop 25) [.ref 40, .int a1, .ref 40, .int a3, .int a4, .int a5, .int a6, .int a7, .null, .null, .null, .null] [] s Q := by
  unfold v_111_25 at h
  refine zn_ld rfl rfl rfl ?_
  refine zn_ld rfl rfl rfl ?_
  refine zn_brP rfl rfl ⟨fun hcn => ?_, fun hcn => ?_⟩
  · replace h := h.1 ((i_le (x := a4) (y := a7) rfl rfl).mp hcn)
    refine zn_c [.int 1] (xo_push (.int 1)) rfl rfl ?_
    exact zn_retZ rfl rfl h
  · replace h := h.2 (fun q => hcn ((i_le (x := a4) (y := a7) rfl rfl).mpr q))
    refine zn_ld rfl rfl rfl ?_
    refine zn_get (v := .ref 41) rfl (zv_R (a := 40) rfl rfl) ?_
    refine zn_ld rfl rfl rfl ?_
    refine zn_ld rfl rfl rfl ?_
    replace h := h _ (i_add (x := a5) (y := a7) rfl rfl)
    refine zn_c [.int (a5 + a7), .ref 41] xo_iadd rfl rfl ?_
    refine zn_row (a5 + a7) [] (a := 41) hd rfl rfl rfl rfl ?_
    change Zn _ _ _ _ _ _ _ _ _ _ _ [.int (zg s 41 (a5 + a7))] _ _
    refine zn_ld rfl rfl rfl ?_
    refine zn_get (v := .ref 41) rfl (zv_R (a := 40) rfl rfl) ?_
    refine zn_ld rfl rfl rfl ?_
    refine zn_ld rfl rfl rfl ?_
    replace h := h _ (i_add (x := a6) (y := a7) rfl rfl)
    refine zn_c [.int (a6 + a7), .ref 41, .int (zg s 41 (a5 + a7))] xo_iadd rfl rfl ?_
    refine zn_row (a6 + a7) [.int (zg s 41 (a5 + a7))] (a := 41) hd rfl rfl rfl rfl ?_
    change Zn _ _ _ _ _ _ _ _ _ _ _ [.int (zg s 41 (a6 + a7)), .int (zg s 41 (a5 + a7))] _ _
    refine zn_brP rfl rfl ⟨fun hcn => ?_, fun hcn => ?_⟩
    · replace h := h.1 ((i_eq (x := zg s 41 (a5 + a7)) (y := zg s 41 (a6 + a7)) rfl rfl).mp hcn)
      replace h := h _ (i_add (x := a7) (y := 1) rfl (show (1 : Int32).toInt = 1 by decide))
      refine zn_inc [.ref 40, .int a1, .ref 40, .int a3, .int a4, .int a5, .int a6, .int (a7 + 1), .null, .null, .null, .null] rfl rfl rfl rfl ?_
      refine zn_go rfl ?_
      exact r25 a1 a3 a4 a5 a6 (a7 + 1) s h
    · replace h := h.2 (fun q => hcn ((i_eq (x := zg s 41 (a5 + a7)) (y := zg s 41 (a6 + a7)) rfl rfl).mpr q))
      refine zn_c [.int 0] (xo_push (.int 0)) rfl rfl ?_
      exact zn_retZ rfl rfl h
theorem ml_111_25_39 {d d0 : Nat} (hd : d = d0 + 8)  {a1 : Int32} {a3 : Int32} {a4 : Int32} {a5 : Int32} {a6 : Int32} {a7 : Int32} {s : zS} {Q : Option Value → zS → Prop}  (h : vl_111_25 (fun j => Zt d (wd 39 j) j) 39  a1 a3 a4 a5 a6 a7 s Q) : Zn d [] [] ([] : zW) ([] : zW) xL_9 8 (some .boolean) xE_111 (xE_111.drop 25) [.ref 40, .int a1, .ref 40, .int a3, .int a4, .int a5, .int a6, .int a7, .null, .null, .null, .null] [] s Q := by
  obtain ⟨I, μ, h0, h1⟩ := h
  have key : ∀ (n : Nat) (a1 : Int32) (a3 : Int32) (a4 : Int32) (a5 : Int32) (a6 : Int32) (a7 : Int32) (s : zS), μ a1 a3 a4 a5 a6 a7 s = n → I a1 a3 a4 a5 a6 a7 s → Zn d [] [] ([] : zW) ([] : zW) xL_9 8 (some .boolean) xE_111 (xE_111.drop 25) [.ref 40, .int a1, .ref 40, .int a3, .int a4, .int a5, .int a6, .int a7, .null, .null, .null, .null] [] s Q := by
    intro n
    induction n using Nat.strongRecOn with
    | ind n ih =>
      intro a1 a3 a4 a5 a6 a7 s e hI
      exact m_111_25_39 hd (fun a1' a3' a4' a5' a6' a7' s' q => ih _ (by rw [← e]; exact q.2) a1' a3' a4' a5' a6' a7' s' rfl q.1) (h1 a1 a3 a4 a5 a6 a7 s hI)
  exact key _ a1 a3 a4 a5 a6 a7 s rfl h0
set_option maxRecDepth 20000 in
theorem m_111_0_39 {d d0 : Nat} (hd : d = d0 + 8)  {a1 : Int32} {a3 : Int32} {s : zS} {Q : Option Value → zS → Prop}  (h : v_111_0 (fun j => Zt d (wd 39 j) j) 39  a1 a3 s Q) : Zn d [] [] ([] : zW) ([] : zW) xL_9 8 (some .boolean) xE_111 (xE_111.drop 0) [.ref 40, .int a1, .ref 40, .int a3, .null, .null, .null, .null, .null, .null, .null, .null] [] s Q := by
  unfold v_111_0 at h
  refine zn_ld rfl rfl rfl ?_
  refine zn_get (v := .ref 47) rfl (zv_R (a := 40) rfl rfl) ?_
  refine zn_ld rfl rfl rfl ?_
  refine zn_row a1 [] (a := 47) hd rfl rfl rfl rfl ?_
  change Zn _ _ _ _ _ _ _ _ _ _ _ [.int (zg s 47 a1)] _ _
  refine zn_st [.ref 40, .int a1, .ref 40, .int a3, .int (zg s 47 a1), .null, .null, .null, .null, .null, .null, .null] rfl rfl rfl ?_
  refine zn_ld rfl rfl rfl ?_
  refine zn_ld rfl rfl rfl ?_
  refine zn_get (v := .ref 47) rfl (zv_R (a := 40) rfl rfl) ?_
  refine zn_ld rfl rfl rfl ?_
  refine zn_row a3 [.int (zg s 47 a1)] (a := 47) hd rfl rfl rfl rfl ?_
  change Zn _ _ _ _ _ _ _ _ _ _ _ [.int (zg s 47 a3), .int (zg s 47 a1)] _ _
  refine zn_brP rfl rfl ⟨fun hcn => ?_, fun hcn => ?_⟩
  · replace h := h.1 ((i_eq (x := zg s 47 a1) (y := zg s 47 a3) rfl rfl).mp hcn)
    refine zn_ld rfl rfl rfl ?_
    refine zn_get (v := .ref 45) rfl (zv_R (a := 40) rfl rfl) ?_
    refine zn_ld rfl rfl rfl ?_
    refine zn_row a1 [] (a := 45) hd rfl rfl rfl rfl ?_
    change Zn _ _ _ _ _ _ _ _ _ _ _ [.int (zg s 45 a1)] _ _
    refine zn_st [.ref 40, .int a1, .ref 40, .int a3, .int (zg s 47 a1), .int (zg s 45 a1), .null, .null, .null, .null, .null, .null] rfl rfl rfl ?_
    refine zn_ld rfl rfl rfl ?_
    refine zn_get (v := .ref 45) rfl (zv_R (a := 40) rfl rfl) ?_
    refine zn_ld rfl rfl rfl ?_
    refine zn_row a3 [] (a := 45) hd rfl rfl rfl rfl ?_
    change Zn _ _ _ _ _ _ _ _ _ _ _ [.int (zg s 45 a3)] _ _
    refine zn_st [.ref 40, .int a1, .ref 40, .int a3, .int (zg s 47 a1), .int (zg s 45 a1), .int (zg s 45 a3), .null, .null, .null, .null, .null] rfl rfl rfl ?_
    refine zn_c [.int 0] (xo_push (.int 0)) rfl rfl ?_
    refine zn_st [.ref 40, .int a1, .ref 40, .int a3, .int (zg s 47 a1), .int (zg s 45 a1), .int (zg s 45 a3), .int 0, .null, .null, .null, .null] rfl rfl rfl ?_
    exact ml_111_25_39 hd  h
  · replace h := h.2 (fun q => hcn ((i_eq (x := zg s 47 a1) (y := zg s 47 a3) rfl rfl).mpr q))
    refine zn_c [.int 0] (xo_push (.int 0)) rfl rfl ?_
    exact zn_retZ rfl rfl h
theorem zq_111_39 {d : Nat} {a1 : Int32} {a3 : Int32} {s : zS} {Q : Option Value → zS → Prop} (h : v_111_0 (fun j => Zt (d + 8) (wd 39 j) j) 39 a1 a3 s Q) : Zt (d + 9) ([] : zW) 111 [.ref 40, .int a1, .ref 40, .int a3] s Q := zt_of (E := xE_111) (L := xL_9) (ml := 8) (ret := some .boolean) rfl rfl rfl (m_111_0_39 rfl h)
theorem zc_111 {d P : Nat} (hP : P = 3 ∨ P = 39) {a1 : Int32} {a3 : Int32} {s : zS} {Q : Option Value → zS → Prop} (h : v_111_0 (fun j => Zt (d + 8) (wd P j) j) P a1 a3 s Q) : Zt (d + 9) (wd P 111) 111 [.ref (P + 1), .int a1, .ref (P + 1), .int a3] s Q := by
  rcases hP with rfl | rfl
  · exact zq_111_3 h
  · exact zq_111_39 h
/-! FeatherBench$Text.takeToken -/
def v_112_69 (T : Nat → List Value → zS → (Option Value → zS → Prop) → Prop) (P : Nat)  (a1 : Int32) (a2 : Int32) (a3 : Int32) (t1 : Int32) (s : zS) (Q : Option Value → zS → Prop) : Prop :=
  ∀ x1 : Int32, (-2147483648 ≤ a3.toInt - a1.toInt ∧ a3.toInt - a1.toInt ≤ 2147483647 → x1.toInt = a3.toInt - a1.toInt) → T 113 [.ref (P + 1), .int t1, .int a1, .int x1] s (fun v2 s3 => v2 = none ∧ (Q (some (.int a3)) s3))
def v_112_55 (T : Nat → List Value → zS → (Option Value → zS → Prop) → Prop) (P : Nat)  (a1 : Int32) (a2 : Int32) (a3 : Int32) (s : zS) (Q : Option Value → zS → Prop) : Prop :=
  ∀ x1 : Int32, (-2147483648 ≤ a3.toInt - a1.toInt ∧ a3.toInt - a1.toInt ≤ 2147483647 → x1.toInt = a3.toInt - a1.toInt) → (x1.toInt ≤ 12 → ∀ x2 : Int32, (-2147483648 ≤ a3.toInt - a1.toInt ∧ a3.toInt - a1.toInt ≤ 2147483647 → x2.toInt = a3.toInt - a1.toInt) → T 115 [.ref (P + 1), .int a1, .int x2] s (fun v3 s4 => ∃ x5, v3 = some (.int x5) ∧ (v_112_69 T P  a1 a2 a3 x5 s4 Q))) ∧ (¬ (x1.toInt ≤ 12) → v_112_69 T P  a1 a2 a3 2 s Q)
def v_112_53 (T : Nat → List Value → zS → (Option Value → zS → Prop) → Prop) (P : Nat) (R36 : Int32 → Int32 → Int32 → zS → Prop) (a1 : Int32) (a2 : Int32) (a3 : Int32) (s : zS) (Q : Option Value → zS → Prop) : Prop :=
  ∀ x1 : Int32, (-2147483648 ≤ a3.toInt + 1 ∧ a3.toInt + 1 ≤ 2147483647 → x1.toInt = a3.toInt + 1) → R36 a1 a2 x1 s
def v_112_36 (T : Nat → List Value → zS → (Option Value → zS → Prop) → Prop) (P : Nat) (R36 : Int32 → Int32 → Int32 → zS → Prop) (a1 : Int32) (a2 : Int32) (a3 : Int32) (s : zS) (Q : Option Value → zS → Prop) : Prop :=
  ((s.1 (P + 2) 2).toInt ≤ a3.toInt → v_112_55 T P  a1 a2 a3 s Q) ∧ (¬ ((s.1 (P + 2) 2).toInt ≤ a3.toInt) → (¬ ((zLet (zg s (P + 2) a3)).toInt = 0) → v_112_53 T P R36 a1 a2 a3 s Q) ∧ ((zLet (zg s (P + 2) a3)).toInt = 0 → ((zDig (zg s (P + 2) a3)).toInt = 0 → v_112_55 T P  a1 a2 a3 s Q) ∧ (¬ ((zDig (zg s (P + 2) a3)).toInt = 0) → v_112_53 T P R36 a1 a2 a3 s Q)))
def vl_112_36 (T : Nat → List Value → zS → (Option Value → zS → Prop) → Prop) (P : Nat)  (a1 : Int32) (a2 : Int32) (a3 : Int32) (s : zS) (Q : Option Value → zS → Prop) : Prop :=
  ∃ (I : Int32 → Int32 → Int32 → zS → Prop) (μ : Int32 → Int32 → Int32 → zS → Nat), I a1 a2 a3 s ∧ ∀ (a1 : Int32) (a2 : Int32) (a3 : Int32) (s : zS), I a1 a2 a3 s → v_112_36 T P (fun a1' a2' a3' s' => I a1' a2' a3' s' ∧ μ a1' a2' a3' s' < μ a1 a2 a3 s) a1 a2 a3 s Q
def v_112_25 (T : Nat → List Value → zS → (Option Value → zS → Prop) → Prop) (P : Nat)  (a1 : Int32) (a2 : Int32) (t1 : Int32) (s : zS) (Q : Option Value → zS → Prop) : Prop :=
  T 113 [.ref (P + 1), .int t1, .int a1, .int 1] s (fun v1 s2 => v1 = none ∧ (∀ x3 : Int32, (-2147483648 ≤ a1.toInt + 1 ∧ a1.toInt + 1 ≤ 2147483647 → x3.toInt = a1.toInt + 1) → Q (some (.int x3)) s2))
def v_112_11 (T : Nat → List Value → zS → (Option Value → zS → Prop) → Prop) (P : Nat)  (a1 : Int32) (a2 : Int32) (s : zS) (Q : Option Value → zS → Prop) : Prop :=
  ∀ x1 : Int32, (-2147483648 ≤ a1.toInt + 1 ∧ a1.toInt + 1 ≤ 2147483647 → x1.toInt = a1.toInt + 1) → Q (some (.int x1)) s
def v_112_0 (T : Nat → List Value → zS → (Option Value → zS → Prop) → Prop) (P : Nat)  (a1 : Int32) (s : zS) (Q : Option Value → zS → Prop) : Prop :=
  ((zg s (P + 2) a1).toInt = 10 → v_112_11 T P  a1 (zg s (P + 2) a1) s Q) ∧ (¬ ((zg s (P + 2) a1).toInt = 10) → (¬ ((zg s (P + 2) a1).toInt = 32) → (¬ ((zLet (zg s (P + 2) a1)).toInt = 0) → ∀ x1 : Int32, (-2147483648 ≤ a1.toInt + 1 ∧ a1.toInt + 1 ≤ 2147483647 → x1.toInt = a1.toInt + 1) → vl_112_36 T P  a1 (zg s (P + 2) a1) x1 s Q) ∧ ((zLet (zg s (P + 2) a1)).toInt = 0 → ((zSgn (zg s (P + 2) a1)).toInt = 0 → v_112_25 T P  a1 (zg s (P + 2) a1) 2 s Q) ∧ (¬ ((zSgn (zg s (P + 2) a1)).toInt = 0) → v_112_25 T P  a1 (zg s (P + 2) a1) (zg s (P + 2) a1) s Q))) ∧ ((zg s (P + 2) a1).toInt = 32 → v_112_11 T P  a1 (zg s (P + 2) a1) s Q))
set_option maxRecDepth 20000 in
theorem m_112_69_3 {d d0 : Nat} (hd : d = d0 + 8)  {a1 : Int32} {a2 : Int32} {a3 : Int32} {t1 : Int32} {s : zS} {Q : Option Value → zS → Prop}  (h : v_112_69 (fun j => Zt d (wd 3 j) j) 3  a1 a2 a3 t1 s Q) : Zn d [] [(3, 99), (3, 98), (0, 403), (0, 439)] ([] : zW) ([] : zW) xL_9 4 (some .int) xE_112 (xE_112.drop 69) [.ref 4, .int a1, .int a2, .int a3, .null, .null] [.int t1, .ref 4] s Q := by
  unfold v_112_69 at h
  refine zn_ld rfl rfl rfl ?_
  refine zn_ld rfl rfl rfl ?_
  refine zn_ld rfl rfl rfl ?_
  replace h := h _ (i_sub (x := a3) (y := a1) rfl rfl)
  refine zn_c [.int (a3 - a1), .int a1, .int t1, .ref 4] xo_isub rfl rfl ?_
  refine zn_zt [.ref 4, .int t1, .int a1, .int (a3 - a1)] [] rfl rfl rfl rfl rfl (Zt.imp h (fun v2 s3 h => ?_))
  obtain ⟨rfl, h⟩ := h
  change Zn _ _ _ _ _ _ _ _ _ _ _ [] _ _
  refine zn_ld rfl rfl rfl ?_
  exact zn_retI rfl h
set_option maxRecDepth 20000 in
theorem m_112_55_3 {d d0 : Nat} (hd : d = d0 + 8)  {a1 : Int32} {a2 : Int32} {a3 : Int32} {s : zS} {Q : Option Value → zS → Prop}  (h : v_112_55 (fun j => Zt d (wd 3 j) j) 3  a1 a2 a3 s Q) : Zn d [] [(3, 99), (3, 98), (0, 403), (0, 439)] ([] : zW) ([] : zW) xL_9 4 (some .int) xE_112 (xE_112.drop 55) [.ref 4, .int a1, .int a2, .int a3, .null, .null] [] s Q := by
  unfold v_112_55 at h
  refine zn_ld rfl rfl rfl ?_
  refine zn_ld rfl rfl rfl ?_
  refine zn_ld rfl rfl rfl ?_
  replace h := h _ (i_sub (x := a3) (y := a1) rfl rfl)
  refine zn_c [.int (a3 - a1), .ref 4] xo_isub rfl rfl ?_
  refine zn_c [.int 12, .int (a3 - a1), .ref 4] (xo_push (.int 12)) rfl rfl ?_
  refine zn_brP rfl rfl ⟨fun hcn => ?_, fun hcn => ?_⟩
  · replace h := h.1 ((i_le (x := (a3 - a1)) (y := 12) rfl (show (12 : Int32).toInt = 12 by decide)).mp hcn)
    refine zn_ld rfl rfl rfl ?_
    refine zn_ld rfl rfl rfl ?_
    refine zn_ld rfl rfl rfl ?_
    refine zn_ld rfl rfl rfl ?_
    replace h := h _ (i_sub (x := a3) (y := a1) rfl rfl)
    refine zn_c [.int (a3 - a1), .int a1, .ref 4, .ref 4] xo_isub rfl rfl ?_
    refine zn_zt [.ref 4, .int a1, .int (a3 - a1)] [.ref 4] rfl rfl rfl rfl rfl (Zt.imp h (fun v3 s4 h => ?_))
    obtain ⟨x5, rfl, h⟩ := h
    change Zn _ _ _ _ _ _ _ _ _ _ _ [.int x5, .ref 4] _ _
    exact m_112_69_3 hd  h
  · replace h := h.2 (fun q => hcn ((i_le (x := (a3 - a1)) (y := 12) rfl (show (12 : Int32).toInt = 12 by decide)).mpr q))
    refine zn_c [.int 2, .ref 4] (xo_push (.int 2)) rfl rfl ?_
    refine zn_go rfl ?_
    exact m_112_69_3 hd  h
set_option maxRecDepth 20000 in
theorem m_112_53_3 {d d0 : Nat} (hd : d = d0 + 8) {R36 : Int32 → Int32 → Int32 → zS → Prop} {a1 : Int32} {a2 : Int32} {a3 : Int32} {s : zS} {Q : Option Value → zS → Prop} (r36 : ∀ a1 a2 a3 s, R36 a1 a2 a3 s → Zn d [] [(3, 99), (3, 98), (0, 403), (0, 439)] ([] : zW) ([] : zW) xL_9 4 (some .int) xE_112 (xE_112.drop 36) [.ref 4, .int a1, .int a2, .int a3, .null, .null] [] s Q) (h : v_112_53 (fun j => Zt d (wd 3 j) j) 3 R36 a1 a2 a3 s Q) : Zn d [] [(3, 99), (3, 98), (0, 403), (0, 439)] ([] : zW) ([] : zW) xL_9 4 (some .int) xE_112 (xE_112.drop 53) [.ref 4, .int a1, .int a2, .int a3, .null, .null] [] s Q := by
  unfold v_112_53 at h
  replace h := h _ (i_add (x := a3) (y := 1) rfl (show (1 : Int32).toInt = 1 by decide))
  refine zn_inc [.ref 4, .int a1, .int a2, .int (a3 + 1), .null, .null] rfl rfl rfl rfl ?_
  refine zn_go rfl ?_
  exact r36 a1 a2 (a3 + 1) s h
set_option maxRecDepth 20000 in
theorem m_112_36_3 {d d0 : Nat} (hd : d = d0 + 8) {R36 : Int32 → Int32 → Int32 → zS → Prop} {a1 : Int32} {a2 : Int32} {a3 : Int32} {s : zS} {Q : Option Value → zS → Prop} (r36 : ∀ a1 a2 a3 s, R36 a1 a2 a3 s → Zn d [] [(3, 99), (3, 98), (0, 403), (0, 439)] ([] : zW) ([] : zW) xL_9 4 (some .int) xE_112 (xE_112.drop 36) [.ref 4, .int a1, .int a2, .int a3, .null, .null] [] s Q) (h : v_112_36 (fun j => Zt d (wd 3 j) j) 3 R36 a1 a2 a3 s Q) : Zn d [] [(3, 99), (3, 98), (0, 403), (0, 439)] ([] : zW) ([] : zW) xL_9 4 (some .int) xE_112 (xE_112.drop 36) [.ref 4, .int a1, .int a2, .int a3, .null, .null] [] s Q := by
  unfold v_112_36 at h
  refine zn_ld rfl rfl rfl ?_
  refine zn_ld rfl rfl rfl ?_
  refine zn_get (v := .ref 5) rfl (zv_R (a := 4) rfl rfl) ?_
  refine zn_get (v := .int (s.1 5 2)) rfl (zv_I (a := 5) rfl rfl) ?_
  refine zn_brP rfl rfl ⟨fun hcn => ?_, fun hcn => ?_⟩
  · replace h := h.1 ((i_le (x := s.1 5 2) (y := a3) rfl rfl).mp hcn)
    exact m_112_55_3 hd  h
  · replace h := h.2 (fun q => hcn ((i_le (x := s.1 5 2) (y := a3) rfl rfl).mpr q))
    refine zn_ld rfl rfl rfl ?_
    refine zn_get (v := .ref 5) rfl (zv_R (a := 4) rfl rfl) ?_
    refine zn_ld rfl rfl rfl ?_
    refine zn_row a3 [] (a := 5) hd rfl rfl rfl rfl ?_
    change Zn _ _ _ _ _ _ _ _ _ _ _ [.int (zg s 5 a3)] _ _
    refine zn_zt [.int (zg s 5 a3)] [] (c := []) rfl rfl rfl rfl rfl (Zt.imp (zp_117 hd) (fun vq sq hq => ?_))
    obtain ⟨rfl, hq⟩ := hq
    rw [hq]
    change Zn _ _ _ _ _ _ _ _ _ _ _ [.int (zLet (zg s 5 a3))] _ _
    refine zn_brN rfl rfl ⟨fun hcn => ?_, fun hcn => ?_⟩
    · replace h := h.1 (fun q => hcn ((i_eq (x := zLet (zg s 5 a3)) (y := 0) rfl (show (0 : Int32).toInt = 0 by decide)).mpr q))
      exact m_112_53_3 hd r36 h
    · replace h := h.2 ((i_eq (x := zLet (zg s 5 a3)) (y := 0) rfl (show (0 : Int32).toInt = 0 by decide)).mp hcn)
      refine zn_ld rfl rfl rfl ?_
      refine zn_get (v := .ref 5) rfl (zv_R (a := 4) rfl rfl) ?_
      refine zn_ld rfl rfl rfl ?_
      refine zn_row a3 [] (a := 5) hd rfl rfl rfl rfl ?_
      change Zn _ _ _ _ _ _ _ _ _ _ _ [.int (zg s 5 a3)] _ _
      refine zn_zt [.int (zg s 5 a3)] [] (c := []) rfl rfl rfl rfl rfl (Zt.imp (zp_118 hd) (fun vq sq hq => ?_))
      obtain ⟨rfl, hq⟩ := hq
      rw [hq]
      change Zn _ _ _ _ _ _ _ _ _ _ _ [.int (zDig (zg s 5 a3))] _ _
      refine zn_brP rfl rfl ⟨fun hcn => ?_, fun hcn => ?_⟩
      · replace h := h.1 ((i_eq (x := zDig (zg s 5 a3)) (y := 0) rfl (show (0 : Int32).toInt = 0 by decide)).mp hcn)
        exact m_112_55_3 hd  h
      · replace h := h.2 (fun q => hcn ((i_eq (x := zDig (zg s 5 a3)) (y := 0) rfl (show (0 : Int32).toInt = 0 by decide)).mpr q))
        exact m_112_53_3 hd r36 h
theorem ml_112_36_3 {d d0 : Nat} (hd : d = d0 + 8)  {a1 : Int32} {a2 : Int32} {a3 : Int32} {s : zS} {Q : Option Value → zS → Prop}  (h : vl_112_36 (fun j => Zt d (wd 3 j) j) 3  a1 a2 a3 s Q) : Zn d [] [(3, 99), (3, 98), (0, 403), (0, 439)] ([] : zW) ([] : zW) xL_9 4 (some .int) xE_112 (xE_112.drop 36) [.ref 4, .int a1, .int a2, .int a3, .null, .null] [] s Q := by
  obtain ⟨I, μ, h0, h1⟩ := h
  have key : ∀ (n : Nat) (a1 : Int32) (a2 : Int32) (a3 : Int32) (s : zS), μ a1 a2 a3 s = n → I a1 a2 a3 s → Zn d [] [(3, 99), (3, 98), (0, 403), (0, 439)] ([] : zW) ([] : zW) xL_9 4 (some .int) xE_112 (xE_112.drop 36) [.ref 4, .int a1, .int a2, .int a3, .null, .null] [] s Q := by
    intro n
    induction n using Nat.strongRecOn with
    | ind n ih =>
      intro a1 a2 a3 s e hI
      exact m_112_36_3 hd (fun a1' a2' a3' s' q => ih _ (by rw [← e]; exact q.2) a1' a2' a3' s' rfl q.1) (h1 a1 a2 a3 s hI)
  exact key _ a1 a2 a3 s rfl h0
set_option maxRecDepth 20000 in
theorem m_112_25_3 {d d0 : Nat} (hd : d = d0 + 8)  {a1 : Int32} {a2 : Int32} {t1 : Int32} {s : zS} {Q : Option Value → zS → Prop}  (h : v_112_25 (fun j => Zt d (wd 3 j) j) 3  a1 a2 t1 s Q) : Zn d [] [(3, 99), (3, 98), (0, 403), (0, 439)] ([] : zW) ([] : zW) xL_9 4 (some .int) xE_112 (xE_112.drop 25) [.ref 4, .int a1, .int a2, .null, .null, .null] [.int t1, .ref 4] s Q := by
  unfold v_112_25 at h
  refine zn_ld rfl rfl rfl ?_
  refine zn_c [.int 1, .int a1, .int t1, .ref 4] (xo_push (.int 1)) rfl rfl ?_
  refine zn_zt [.ref 4, .int t1, .int a1, .int 1] [] rfl rfl rfl rfl rfl (Zt.imp h (fun v1 s2 h => ?_))
  obtain ⟨rfl, h⟩ := h
  change Zn _ _ _ _ _ _ _ _ _ _ _ [] _ _
  refine zn_ld rfl rfl rfl ?_
  refine zn_c [.int 1, .int a1] (xo_push (.int 1)) rfl rfl ?_
  replace h := h _ (i_add (x := a1) (y := 1) rfl (show (1 : Int32).toInt = 1 by decide))
  refine zn_c [.int (a1 + 1)] xo_iadd rfl rfl ?_
  exact zn_retI rfl h
set_option maxRecDepth 20000 in
theorem m_112_11_3 {d d0 : Nat} (hd : d = d0 + 8)  {a1 : Int32} {a2 : Int32} {s : zS} {Q : Option Value → zS → Prop}  (h : v_112_11 (fun j => Zt d (wd 3 j) j) 3  a1 a2 s Q) : Zn d [] [(3, 99), (3, 98), (0, 403), (0, 439)] ([] : zW) ([] : zW) xL_9 4 (some .int) xE_112 (xE_112.drop 11) [.ref 4, .int a1, .int a2, .null, .null, .null] [] s Q := by
  unfold v_112_11 at h
  refine zn_ld rfl rfl rfl ?_
  refine zn_c [.int 1, .int a1] (xo_push (.int 1)) rfl rfl ?_
  replace h := h _ (i_add (x := a1) (y := 1) rfl (show (1 : Int32).toInt = 1 by decide))
  refine zn_c [.int (a1 + 1)] xo_iadd rfl rfl ?_
  exact zn_retI rfl h
set_option maxRecDepth 20000 in
theorem m_112_0_3 {d d0 : Nat} (hd : d = d0 + 8)  {a1 : Int32} {s : zS} {Q : Option Value → zS → Prop}  (h : v_112_0 (fun j => Zt d (wd 3 j) j) 3  a1 s Q) : Zn d [] [(3, 99), (3, 98), (0, 403), (0, 439)] ([] : zW) ([] : zW) xL_9 4 (some .int) xE_112 (xE_112.drop 0) [.ref 4, .int a1, .null, .null, .null, .null] [] s Q := by
  unfold v_112_0 at h
  refine zn_ld rfl rfl rfl ?_
  refine zn_get (v := .ref 5) rfl (zv_R (a := 4) rfl rfl) ?_
  refine zn_ld rfl rfl rfl ?_
  refine zn_row a1 [] (a := 5) hd rfl rfl rfl rfl ?_
  change Zn _ _ _ _ _ _ _ _ _ _ _ [.int (zg s 5 a1)] _ _
  refine zn_st [.ref 4, .int a1, .int (zg s 5 a1), .null, .null, .null] rfl rfl rfl ?_
  refine zn_ld rfl rfl rfl ?_
  refine zn_c [.int 10, .int (zg s 5 a1)] (xo_push (.int 10)) rfl rfl ?_
  refine zn_brP rfl rfl ⟨fun hcn => ?_, fun hcn => ?_⟩
  · replace h := h.1 ((i_eq (x := zg s 5 a1) (y := 10) rfl (show (10 : Int32).toInt = 10 by decide)).mp hcn)
    exact m_112_11_3 hd  h
  · replace h := h.2 (fun q => hcn ((i_eq (x := zg s 5 a1) (y := 10) rfl (show (10 : Int32).toInt = 10 by decide)).mpr q))
    refine zn_ld rfl rfl rfl ?_
    refine zn_c [.int 32, .int (zg s 5 a1)] (xo_push (.int 32)) rfl rfl ?_
    refine zn_brN rfl rfl ⟨fun hcn => ?_, fun hcn => ?_⟩
    · replace h := h.1 (fun q => hcn ((i_eq (x := zg s 5 a1) (y := 32) rfl (show (32 : Int32).toInt = 32 by decide)).mpr q))
      refine zn_ld rfl rfl rfl ?_
      refine zn_zt [.int (zg s 5 a1)] [] (c := []) rfl rfl rfl rfl rfl (Zt.imp (zp_117 hd) (fun vq sq hq => ?_))
      obtain ⟨rfl, hq⟩ := hq
      rw [hq]
      change Zn _ _ _ _ _ _ _ _ _ _ _ [.int (zLet (zg s 5 a1))] _ _
      refine zn_brN rfl rfl ⟨fun hcn => ?_, fun hcn => ?_⟩
      · replace h := h.1 (fun q => hcn ((i_eq (x := zLet (zg s 5 a1)) (y := 0) rfl (show (0 : Int32).toInt = 0 by decide)).mpr q))
        refine zn_ld rfl rfl rfl ?_
        refine zn_c [.int 1, .int a1] (xo_push (.int 1)) rfl rfl ?_
        replace h := h _ (i_add (x := a1) (y := 1) rfl (show (1 : Int32).toInt = 1 by decide))
        refine zn_c [.int (a1 + 1)] xo_iadd rfl rfl ?_
        refine zn_st [.ref 4, .int a1, .int (zg s 5 a1), .int (a1 + 1), .null, .null] rfl rfl rfl ?_
        exact ml_112_36_3 hd  h
      · replace h := h.2 ((i_eq (x := zLet (zg s 5 a1)) (y := 0) rfl (show (0 : Int32).toInt = 0 by decide)).mp hcn)
        refine zn_ld rfl rfl rfl ?_
        refine zn_ld rfl rfl rfl ?_
        refine zn_zt [.int (zg s 5 a1)] [.ref 4] (c := []) rfl rfl rfl rfl rfl (Zt.imp (zp_119 hd) (fun vq sq hq => ?_))
        obtain ⟨rfl, hq⟩ := hq
        rw [hq]
        change Zn _ _ _ _ _ _ _ _ _ _ _ [.int (zSgn (zg s 5 a1)), .ref 4] _ _
        refine zn_brP rfl rfl ⟨fun hcn => ?_, fun hcn => ?_⟩
        · replace h := h.1 ((i_eq (x := zSgn (zg s 5 a1)) (y := 0) rfl (show (0 : Int32).toInt = 0 by decide)).mp hcn)
          refine zn_c [.int 2, .ref 4] (xo_push (.int 2)) rfl rfl ?_
          exact m_112_25_3 hd  h
        · replace h := h.2 (fun q => hcn ((i_eq (x := zSgn (zg s 5 a1)) (y := 0) rfl (show (0 : Int32).toInt = 0 by decide)).mpr q))
          refine zn_ld rfl rfl rfl ?_
          refine zn_go rfl ?_
          exact m_112_25_3 hd  h
    · replace h := h.2 ((i_eq (x := zg s 5 a1) (y := 32) rfl (show (32 : Int32).toInt = 32 by decide)).mp hcn)
      exact m_112_11_3 hd  h
theorem zq_112_3 {d : Nat} {a1 : Int32} {s : zS} {Q : Option Value → zS → Prop} (h : v_112_0 (fun j => Zt (d + 8) (wd 3 j) j) 3 a1 s Q) : Zt (d + 9) ([] : zW) 112 [.ref 4, .int a1] s Q := zt_of (E := xE_112) (L := xL_9) (ml := 4) (ret := some .int) rfl rfl rfl (m_112_0_3 rfl h)
set_option maxRecDepth 20000 in
theorem m_112_69_39 {d d0 : Nat} (hd : d = d0 + 8)  {a1 : Int32} {a2 : Int32} {a3 : Int32} {t1 : Int32} {s : zS} {Q : Option Value → zS → Prop}  (h : v_112_69 (fun j => Zt d (wd 39 j) j) 39  a1 a2 a3 t1 s Q) : Zn d [] [(39, 99), (39, 98), (0, 403), (0, 439)] ([] : zW) ([] : zW) xL_9 4 (some .int) xE_112 (xE_112.drop 69) [.ref 40, .int a1, .int a2, .int a3, .null, .null] [.int t1, .ref 40] s Q := by
  unfold v_112_69 at h
  refine zn_ld rfl rfl rfl ?_
  refine zn_ld rfl rfl rfl ?_
  refine zn_ld rfl rfl rfl ?_
  replace h := h _ (i_sub (x := a3) (y := a1) rfl rfl)
  refine zn_c [.int (a3 - a1), .int a1, .int t1, .ref 40] xo_isub rfl rfl ?_
  refine zn_zt [.ref 40, .int t1, .int a1, .int (a3 - a1)] [] rfl rfl rfl rfl rfl (Zt.imp h (fun v2 s3 h => ?_))
  obtain ⟨rfl, h⟩ := h
  change Zn _ _ _ _ _ _ _ _ _ _ _ [] _ _
  refine zn_ld rfl rfl rfl ?_
  exact zn_retI rfl h
set_option maxRecDepth 20000 in
theorem m_112_55_39 {d d0 : Nat} (hd : d = d0 + 8)  {a1 : Int32} {a2 : Int32} {a3 : Int32} {s : zS} {Q : Option Value → zS → Prop}  (h : v_112_55 (fun j => Zt d (wd 39 j) j) 39  a1 a2 a3 s Q) : Zn d [] [(39, 99), (39, 98), (0, 403), (0, 439)] ([] : zW) ([] : zW) xL_9 4 (some .int) xE_112 (xE_112.drop 55) [.ref 40, .int a1, .int a2, .int a3, .null, .null] [] s Q := by
  unfold v_112_55 at h
  refine zn_ld rfl rfl rfl ?_
  refine zn_ld rfl rfl rfl ?_
  refine zn_ld rfl rfl rfl ?_
  replace h := h _ (i_sub (x := a3) (y := a1) rfl rfl)
  refine zn_c [.int (a3 - a1), .ref 40] xo_isub rfl rfl ?_
  refine zn_c [.int 12, .int (a3 - a1), .ref 40] (xo_push (.int 12)) rfl rfl ?_
  refine zn_brP rfl rfl ⟨fun hcn => ?_, fun hcn => ?_⟩
  · replace h := h.1 ((i_le (x := (a3 - a1)) (y := 12) rfl (show (12 : Int32).toInt = 12 by decide)).mp hcn)
    refine zn_ld rfl rfl rfl ?_
    refine zn_ld rfl rfl rfl ?_
    refine zn_ld rfl rfl rfl ?_
    refine zn_ld rfl rfl rfl ?_
    replace h := h _ (i_sub (x := a3) (y := a1) rfl rfl)
    refine zn_c [.int (a3 - a1), .int a1, .ref 40, .ref 40] xo_isub rfl rfl ?_
    refine zn_zt [.ref 40, .int a1, .int (a3 - a1)] [.ref 40] rfl rfl rfl rfl rfl (Zt.imp h (fun v3 s4 h => ?_))
    obtain ⟨x5, rfl, h⟩ := h
    change Zn _ _ _ _ _ _ _ _ _ _ _ [.int x5, .ref 40] _ _
    exact m_112_69_39 hd  h
  · replace h := h.2 (fun q => hcn ((i_le (x := (a3 - a1)) (y := 12) rfl (show (12 : Int32).toInt = 12 by decide)).mpr q))
    refine zn_c [.int 2, .ref 40] (xo_push (.int 2)) rfl rfl ?_
    refine zn_go rfl ?_
    exact m_112_69_39 hd  h
set_option maxRecDepth 20000 in
theorem m_112_53_39 {d d0 : Nat} (hd : d = d0 + 8) {R36 : Int32 → Int32 → Int32 → zS → Prop} {a1 : Int32} {a2 : Int32} {a3 : Int32} {s : zS} {Q : Option Value → zS → Prop} (r36 : ∀ a1 a2 a3 s, R36 a1 a2 a3 s → Zn d [] [(39, 99), (39, 98), (0, 403), (0, 439)] ([] : zW) ([] : zW) xL_9 4 (some .int) xE_112 (xE_112.drop 36) [.ref 40, .int a1, .int a2, .int a3, .null, .null] [] s Q) (h : v_112_53 (fun j => Zt d (wd 39 j) j) 39 R36 a1 a2 a3 s Q) : Zn d [] [(39, 99), (39, 98), (0, 403), (0, 439)] ([] : zW) ([] : zW) xL_9 4 (some .int) xE_112 (xE_112.drop 53) [.ref 40, .int a1, .int a2, .int a3, .null, .null] [] s Q := by
  unfold v_112_53 at h
  replace h := h _ (i_add (x := a3) (y := 1) rfl (show (1 : Int32).toInt = 1 by decide))
  refine zn_inc [.ref 40, .int a1, .int a2, .int (a3 + 1), .null, .null] rfl rfl rfl rfl ?_
  refine zn_go rfl ?_
  exact r36 a1 a2 (a3 + 1) s h
set_option maxRecDepth 20000 in
theorem m_112_36_39 {d d0 : Nat} (hd : d = d0 + 8) {R36 : Int32 → Int32 → Int32 → zS → Prop} {a1 : Int32} {a2 : Int32} {a3 : Int32} {s : zS} {Q : Option Value → zS → Prop} (r36 : ∀ a1 a2 a3 s, R36 a1 a2 a3 s → Zn d [] [(39, 99), (39, 98), (0, 403), (0, 439)] ([] : zW) ([] : zW) xL_9 4 (some .int) xE_112 (xE_112.drop 36) [.ref 40, .int a1, .int a2, .int a3, .null, .null] [] s Q) (h : v_112_36 (fun j => Zt d (wd 39 j) j) 39 R36 a1 a2 a3 s Q) : Zn d [] [(39, 99), (39, 98), (0, 403), (0, 439)] ([] : zW) ([] : zW) xL_9 4 (some .int) xE_112 (xE_112.drop 36) [.ref 40, .int a1, .int a2, .int a3, .null, .null] [] s Q := by
  unfold v_112_36 at h
  refine zn_ld rfl rfl rfl ?_
  refine zn_ld rfl rfl rfl ?_
  refine zn_get (v := .ref 41) rfl (zv_R (a := 40) rfl rfl) ?_
  refine zn_get (v := .int (s.1 41 2)) rfl (zv_I (a := 41) rfl rfl) ?_
  refine zn_brP rfl rfl ⟨fun hcn => ?_, fun hcn => ?_⟩
  · replace h := h.1 ((i_le (x := s.1 41 2) (y := a3) rfl rfl).mp hcn)
    exact m_112_55_39 hd  h
  · replace h := h.2 (fun q => hcn ((i_le (x := s.1 41 2) (y := a3) rfl rfl).mpr q))
    refine zn_ld rfl rfl rfl ?_
    refine zn_get (v := .ref 41) rfl (zv_R (a := 40) rfl rfl) ?_
    refine zn_ld rfl rfl rfl ?_
    refine zn_row a3 [] (a := 41) hd rfl rfl rfl rfl ?_
    change Zn _ _ _ _ _ _ _ _ _ _ _ [.int (zg s 41 a3)] _ _
    refine zn_zt [.int (zg s 41 a3)] [] (c := []) rfl rfl rfl rfl rfl (Zt.imp (zp_117 hd) (fun vq sq hq => ?_))
    obtain ⟨rfl, hq⟩ := hq
    rw [hq]
    change Zn _ _ _ _ _ _ _ _ _ _ _ [.int (zLet (zg s 41 a3))] _ _
    refine zn_brN rfl rfl ⟨fun hcn => ?_, fun hcn => ?_⟩
    · replace h := h.1 (fun q => hcn ((i_eq (x := zLet (zg s 41 a3)) (y := 0) rfl (show (0 : Int32).toInt = 0 by decide)).mpr q))
      exact m_112_53_39 hd r36 h
    · replace h := h.2 ((i_eq (x := zLet (zg s 41 a3)) (y := 0) rfl (show (0 : Int32).toInt = 0 by decide)).mp hcn)
      refine zn_ld rfl rfl rfl ?_
      refine zn_get (v := .ref 41) rfl (zv_R (a := 40) rfl rfl) ?_
      refine zn_ld rfl rfl rfl ?_
      refine zn_row a3 [] (a := 41) hd rfl rfl rfl rfl ?_
      change Zn _ _ _ _ _ _ _ _ _ _ _ [.int (zg s 41 a3)] _ _
      refine zn_zt [.int (zg s 41 a3)] [] (c := []) rfl rfl rfl rfl rfl (Zt.imp (zp_118 hd) (fun vq sq hq => ?_))
      obtain ⟨rfl, hq⟩ := hq
      rw [hq]
      change Zn _ _ _ _ _ _ _ _ _ _ _ [.int (zDig (zg s 41 a3))] _ _
      refine zn_brP rfl rfl ⟨fun hcn => ?_, fun hcn => ?_⟩
      · replace h := h.1 ((i_eq (x := zDig (zg s 41 a3)) (y := 0) rfl (show (0 : Int32).toInt = 0 by decide)).mp hcn)
        exact m_112_55_39 hd  h
      · replace h := h.2 (fun q => hcn ((i_eq (x := zDig (zg s 41 a3)) (y := 0) rfl (show (0 : Int32).toInt = 0 by decide)).mpr q))
        exact m_112_53_39 hd r36 h
theorem ml_112_36_39 {d d0 : Nat} (hd : d = d0 + 8)  {a1 : Int32} {a2 : Int32} {a3 : Int32} {s : zS} {Q : Option Value → zS → Prop}  (h : vl_112_36 (fun j => Zt d (wd 39 j) j) 39  a1 a2 a3 s Q) : Zn d [] [(39, 99), (39, 98), (0, 403), (0, 439)] ([] : zW) ([] : zW) xL_9 4 (some .int) xE_112 (xE_112.drop 36) [.ref 40, .int a1, .int a2, .int a3, .null, .null] [] s Q := by
  obtain ⟨I, μ, h0, h1⟩ := h
  have key : ∀ (n : Nat) (a1 : Int32) (a2 : Int32) (a3 : Int32) (s : zS), μ a1 a2 a3 s = n → I a1 a2 a3 s → Zn d [] [(39, 99), (39, 98), (0, 403), (0, 439)] ([] : zW) ([] : zW) xL_9 4 (some .int) xE_112 (xE_112.drop 36) [.ref 40, .int a1, .int a2, .int a3, .null, .null] [] s Q := by
    intro n
    induction n using Nat.strongRecOn with
    | ind n ih =>
      intro a1 a2 a3 s e hI
      exact m_112_36_39 hd (fun a1' a2' a3' s' q => ih _ (by rw [← e]; exact q.2) a1' a2' a3' s' rfl q.1) (h1 a1 a2 a3 s hI)
  exact key _ a1 a2 a3 s rfl h0
set_option maxRecDepth 20000 in
theorem m_112_25_39 {d d0 : Nat} (hd : d = d0 + 8)  {a1 : Int32} {a2 : Int32} {t1 : Int32} {s : zS} {Q : Option Value → zS → Prop}  (h : v_112_25 (fun j => Zt d (wd 39 j) j) 39  a1 a2 t1 s Q) : Zn d [] [(39, 99), (39, 98), (0, 403), (0, 439)] ([] : zW) ([] : zW) xL_9 4 (some .int) xE_112 (xE_112.drop 25) [.ref 40, .int a1, .int a2, .null, .null, .null] [.int t1, .ref 40] s Q := by
  unfold v_112_25 at h
  refine zn_ld rfl rfl rfl ?_
  refine zn_c [.int 1, .int a1, .int t1, .ref 40] (xo_push (.int 1)) rfl rfl ?_
  refine zn_zt [.ref 40, .int t1, .int a1, .int 1] [] rfl rfl rfl rfl rfl (Zt.imp h (fun v1 s2 h => ?_))
  obtain ⟨rfl, h⟩ := h
  change Zn _ _ _ _ _ _ _ _ _ _ _ [] _ _
  refine zn_ld rfl rfl rfl ?_
  refine zn_c [.int 1, .int a1] (xo_push (.int 1)) rfl rfl ?_
  replace h := h _ (i_add (x := a1) (y := 1) rfl (show (1 : Int32).toInt = 1 by decide))
  refine zn_c [.int (a1 + 1)] xo_iadd rfl rfl ?_
  exact zn_retI rfl h
set_option maxRecDepth 20000 in
theorem m_112_11_39 {d d0 : Nat} (hd : d = d0 + 8)  {a1 : Int32} {a2 : Int32} {s : zS} {Q : Option Value → zS → Prop}  (h : v_112_11 (fun j => Zt d (wd 39 j) j) 39  a1 a2 s Q) : Zn d [] [(39, 99), (39, 98), (0, 403), (0, 439)] ([] : zW) ([] : zW) xL_9 4 (some .int) xE_112 (xE_112.drop 11) [.ref 40, .int a1, .int a2, .null, .null, .null] [] s Q := by
  unfold v_112_11 at h
  refine zn_ld rfl rfl rfl ?_
  refine zn_c [.int 1, .int a1] (xo_push (.int 1)) rfl rfl ?_
  replace h := h _ (i_add (x := a1) (y := 1) rfl (show (1 : Int32).toInt = 1 by decide))
  refine zn_c [.int (a1 + 1)] xo_iadd rfl rfl ?_
  exact zn_retI rfl h
set_option maxRecDepth 20000 in
theorem m_112_0_39 {d d0 : Nat} (hd : d = d0 + 8)  {a1 : Int32} {s : zS} {Q : Option Value → zS → Prop}  (h : v_112_0 (fun j => Zt d (wd 39 j) j) 39  a1 s Q) : Zn d [] [(39, 99), (39, 98), (0, 403), (0, 439)] ([] : zW) ([] : zW) xL_9 4 (some .int) xE_112 (xE_112.drop 0) [.ref 40, .int a1, .null, .null, .null, .null] [] s Q := by
  unfold v_112_0 at h
  refine zn_ld rfl rfl rfl ?_
  refine zn_get (v := .ref 41) rfl (zv_R (a := 40) rfl rfl) ?_
  refine zn_ld rfl rfl rfl ?_
  refine zn_row a1 [] (a := 41) hd rfl rfl rfl rfl ?_
  change Zn _ _ _ _ _ _ _ _ _ _ _ [.int (zg s 41 a1)] _ _
  refine zn_st [.ref 40, .int a1, .int (zg s 41 a1), .null, .null, .null] rfl rfl rfl ?_
  refine zn_ld rfl rfl rfl ?_
  refine zn_c [.int 10, .int (zg s 41 a1)] (xo_push (.int 10)) rfl rfl ?_
  refine zn_brP rfl rfl ⟨fun hcn => ?_, fun hcn => ?_⟩
  · replace h := h.1 ((i_eq (x := zg s 41 a1) (y := 10) rfl (show (10 : Int32).toInt = 10 by decide)).mp hcn)
    exact m_112_11_39 hd  h
  · replace h := h.2 (fun q => hcn ((i_eq (x := zg s 41 a1) (y := 10) rfl (show (10 : Int32).toInt = 10 by decide)).mpr q))
    refine zn_ld rfl rfl rfl ?_
    refine zn_c [.int 32, .int (zg s 41 a1)] (xo_push (.int 32)) rfl rfl ?_
    refine zn_brN rfl rfl ⟨fun hcn => ?_, fun hcn => ?_⟩
    · replace h := h.1 (fun q => hcn ((i_eq (x := zg s 41 a1) (y := 32) rfl (show (32 : Int32).toInt = 32 by decide)).mpr q))
      refine zn_ld rfl rfl rfl ?_
      refine zn_zt [.int (zg s 41 a1)] [] (c := []) rfl rfl rfl rfl rfl (Zt.imp (zp_117 hd) (fun vq sq hq => ?_))
      obtain ⟨rfl, hq⟩ := hq
      rw [hq]
      change Zn _ _ _ _ _ _ _ _ _ _ _ [.int (zLet (zg s 41 a1))] _ _
      refine zn_brN rfl rfl ⟨fun hcn => ?_, fun hcn => ?_⟩
      · replace h := h.1 (fun q => hcn ((i_eq (x := zLet (zg s 41 a1)) (y := 0) rfl (show (0 : Int32).toInt = 0 by decide)).mpr q))
        refine zn_ld rfl rfl rfl ?_
        refine zn_c [.int 1, .int a1] (xo_push (.int 1)) rfl rfl ?_
        replace h := h _ (i_add (x := a1) (y := 1) rfl (show (1 : Int32).toInt = 1 by decide))
        refine zn_c [.int (a1 + 1)] xo_iadd rfl rfl ?_
        refine zn_st [.ref 40, .int a1, .int (zg s 41 a1), .int (a1 + 1), .null, .null] rfl rfl rfl ?_
        exact ml_112_36_39 hd  h
      · replace h := h.2 ((i_eq (x := zLet (zg s 41 a1)) (y := 0) rfl (show (0 : Int32).toInt = 0 by decide)).mp hcn)
        refine zn_ld rfl rfl rfl ?_
        refine zn_ld rfl rfl rfl ?_
        refine zn_zt [.int (zg s 41 a1)] [.ref 40] (c := []) rfl rfl rfl rfl rfl (Zt.imp (zp_119 hd) (fun vq sq hq => ?_))
        obtain ⟨rfl, hq⟩ := hq
        rw [hq]
        change Zn _ _ _ _ _ _ _ _ _ _ _ [.int (zSgn (zg s 41 a1)), .ref 40] _ _
        refine zn_brP rfl rfl ⟨fun hcn => ?_, fun hcn => ?_⟩
        · replace h := h.1 ((i_eq (x := zSgn (zg s 41 a1)) (y := 0) rfl (show (0 : Int32).toInt = 0 by decide)).mp hcn)
          refine zn_c [.int 2, .ref 40] (xo_push (.int 2)) rfl rfl ?_
          exact m_112_25_39 hd  h
        · replace h := h.2 (fun q => hcn ((i_eq (x := zSgn (zg s 41 a1)) (y := 0) rfl (show (0 : Int32).toInt = 0 by decide)).mpr q))
          refine zn_ld rfl rfl rfl ?_
          refine zn_go rfl ?_
          exact m_112_25_39 hd  h
    · replace h := h.2 ((i_eq (x := zg s 41 a1) (y := 32) rfl (show (32 : Int32).toInt = 32 by decide)).mp hcn)
      exact m_112_11_39 hd  h
theorem zq_112_39 {d : Nat} {a1 : Int32} {s : zS} {Q : Option Value → zS → Prop} (h : v_112_0 (fun j => Zt (d + 8) (wd 39 j) j) 39 a1 s Q) : Zt (d + 9) ([] : zW) 112 [.ref 40, .int a1] s Q := zt_of (E := xE_112) (L := xL_9) (ml := 4) (ret := some .int) rfl rfl rfl (m_112_0_39 rfl h)
theorem zc_112 {d P : Nat} (hP : P = 3 ∨ P = 39) {a1 : Int32} {s : zS} {Q : Option Value → zS → Prop} (h : v_112_0 (fun j => Zt (d + 8) (wd P j) j) P a1 s Q) : Zt (d + 9) (wd P 112) 112 [.ref (P + 1), .int a1] s Q := by
  rcases hP with rfl | rfl
  · exact zq_112_3 h
  · exact zq_112_39 h
/-! FeatherBench$Text.addToken -/
def v_113_29 (T : Nat → List Value → zS → (Option Value → zS → Prop) → Prop) (P : Nat)  (a1 : Int32) (a2 : Int32) (a3 : Int32) (a4 : Int32) (t1 : Int32) (t2 : Int32) (s : zS) (Q : Option Value → zS → Prop) : Prop :=
  (0 ≤ t2.toInt ∧ t2.toInt ≤ 5000) ∧ (∀ s1, s1 = zt s (P + 10) t1 t2 → Q none s1)
def v_113_0 (T : Nat → List Value → zS → (Option Value → zS → Prop) → Prop) (P : Nat)  (a1 : Int32) (a2 : Int32) (a3 : Int32) (s : zS) (Q : Option Value → zS → Prop) : Prop :=
  ∀ s1, s1 = za s (P + 4) a1 → (0 ≤ a2.toInt ∧ a2.toInt ≤ 5000) ∧ (∀ s2, s2 = zt s1 (P + 6) (s.1 (P + 4) 2) a2 → ∀ s3, s3 = zt s2 (P + 8) (s.1 (P + 4) 2) a3 → (¬ (a1.toInt = 1) → v_113_29 T P  a1 a2 a3 (s.1 (P + 4) 2) (s.1 (P + 4) 2) (s.1 (P + 4) 2) s3 Q) ∧ (a1.toInt = 1 → T 114 [.ref (P + 1), .int (s.1 (P + 4) 2)] s3 (fun v4 s5 => ∃ x6, v4 = some (.int x6) ∧ (v_113_29 T P  a1 a2 a3 (s.1 (P + 4) 2) (s.1 (P + 4) 2) x6 s5 Q))))
set_option maxRecDepth 20000 in
theorem m_113_29_3 {d d0 : Nat} (hd : d = d0 + 8)  {a1 : Int32} {a2 : Int32} {a3 : Int32} {a4 : Int32} {t1 : Int32} {t2 : Int32} {s : zS} {Q : Option Value → zS → Prop}  (h : v_113_29 (fun j => Zt d (wd 3 j) j) 3  a1 a2 a3 a4 t1 t2 s Q) : Zn d [] [(3, 99), (3, 98), (0, 403), (0, 439)] ([] : zW) ([] : zW) xL_9 5 (none) xE_113 (xE_113.drop 29) [.ref 4, .int a1, .int a2, .int a3, .int a4, .null, .null, .null, .null] [.int t2, .int t1, .ref 13] s Q := by
  unfold v_113_29 at h
  refine zn_set t1 t2 [] (a := 13) hd rfl rfl rfl rfl h.1 rfl rfl ?_
  replace h := h.2
  replace h := h _ rfl
  exact zn_ret0 rfl h
set_option maxRecDepth 20000 in
theorem m_113_0_3 {d d0 : Nat} (hd : d = d0 + 8)  {a1 : Int32} {a2 : Int32} {a3 : Int32} {s : zS} {Q : Option Value → zS → Prop}  (h : v_113_0 (fun j => Zt d (wd 3 j) j) 3  a1 a2 a3 s Q) : Zn d [] [(3, 99), (3, 98), (0, 403), (0, 439)] ([] : zW) ([] : zW) xL_9 5 (none) xE_113 (xE_113.drop 0) [.ref 4, .int a1, .int a2, .int a3, .null, .null, .null, .null, .null] [] s Q := by
  unfold v_113_0 at h
  refine zn_ld rfl rfl rfl ?_
  refine zn_get (v := .ref 7) rfl (zv_R (a := 4) rfl rfl) ?_
  refine zn_get (v := .int (s.1 7 2)) rfl (zv_I (a := 7) rfl rfl) ?_
  refine zn_st [.ref 4, .int a1, .int a2, .int a3, .int (s.1 7 2), .null, .null, .null, .null] rfl rfl rfl ?_
  refine zn_ld rfl rfl rfl ?_
  refine zn_get (v := .ref 7) rfl (zv_R (a := 4) rfl rfl) ?_
  refine zn_ld rfl rfl rfl ?_
  refine zn_add a1 [] (a := 7) hd rfl rfl rfl rfl ⟨Int32.le_toInt _, Int.le_of_lt_add_one (Int32.toInt_lt _)⟩ (fun q => absurd q (by decide)) rfl ?_
  replace h := h _ rfl
  refine zn_ld rfl rfl rfl ?_
  refine zn_get (v := .ref 9) rfl (zv_R (a := 4) rfl rfl) ?_
  refine zn_ld rfl rfl rfl ?_
  refine zn_ld rfl rfl rfl ?_
  refine zn_set (s.1 7 2) a2 [] (a := 9) hd rfl rfl rfl rfl h.1 rfl rfl ?_
  replace h := h.2
  replace h := h _ rfl
  refine zn_ld rfl rfl rfl ?_
  refine zn_get (v := .ref 11) rfl (zv_R (a := 4) rfl rfl) ?_
  refine zn_ld rfl rfl rfl ?_
  refine zn_ld rfl rfl rfl ?_
  refine zn_set (s.1 7 2) a3 [] (a := 11) hd rfl rfl rfl rfl ⟨Int32.le_toInt _, Int.le_of_lt_add_one (Int32.toInt_lt _)⟩ rfl rfl ?_
  replace h := h _ rfl
  refine zn_ld rfl rfl rfl ?_
  refine zn_get (v := .ref 13) rfl (zv_R (a := 4) rfl rfl) ?_
  refine zn_ld rfl rfl rfl ?_
  refine zn_ld rfl rfl rfl ?_
  refine zn_c [.int 1, .int a1, .int (s.1 7 2), .ref 13] (xo_push (.int 1)) rfl rfl ?_
  refine zn_brN rfl rfl ⟨fun hcn => ?_, fun hcn => ?_⟩
  · replace h := h.1 (fun q => hcn ((i_eq (x := a1) (y := 1) rfl (show (1 : Int32).toInt = 1 by decide)).mpr q))
    refine zn_ld rfl rfl rfl ?_
    exact m_113_29_3 hd  h
  · replace h := h.2 ((i_eq (x := a1) (y := 1) rfl (show (1 : Int32).toInt = 1 by decide)).mp hcn)
    refine zn_ld rfl rfl rfl ?_
    refine zn_ld rfl rfl rfl ?_
    refine zn_zt [.ref 4, .int (s.1 7 2)] [.int (s.1 7 2), .ref 13] rfl rfl rfl rfl rfl (Zt.imp h (fun v4 s5 h => ?_))
    obtain ⟨x6, rfl, h⟩ := h
    change Zn _ _ _ _ _ _ _ _ _ _ _ [.int x6, .int (s.1 7 2), .ref 13] _ _
    refine zn_go rfl ?_
    exact m_113_29_3 hd  h
theorem zq_113_3 {d : Nat} {a1 : Int32} {a2 : Int32} {a3 : Int32} {s : zS} {Q : Option Value → zS → Prop} (h : v_113_0 (fun j => Zt (d + 8) (wd 3 j) j) 3 a1 a2 a3 s Q) : Zt (d + 9) ([] : zW) 113 [.ref 4, .int a1, .int a2, .int a3] s Q := zt_of (E := xE_113) (L := xL_9) (ml := 5) (ret := none) rfl rfl rfl (m_113_0_3 rfl h)
set_option maxRecDepth 20000 in
theorem m_113_29_39 {d d0 : Nat} (hd : d = d0 + 8)  {a1 : Int32} {a2 : Int32} {a3 : Int32} {a4 : Int32} {t1 : Int32} {t2 : Int32} {s : zS} {Q : Option Value → zS → Prop}  (h : v_113_29 (fun j => Zt d (wd 39 j) j) 39  a1 a2 a3 a4 t1 t2 s Q) : Zn d [] [(39, 99), (39, 98), (0, 403), (0, 439)] ([] : zW) ([] : zW) xL_9 5 (none) xE_113 (xE_113.drop 29) [.ref 40, .int a1, .int a2, .int a3, .int a4, .null, .null, .null, .null] [.int t2, .int t1, .ref 49] s Q := by
  unfold v_113_29 at h
  refine zn_set t1 t2 [] (a := 49) hd rfl rfl rfl rfl h.1 rfl rfl ?_
  replace h := h.2
  replace h := h _ rfl
  exact zn_ret0 rfl h
set_option maxRecDepth 20000 in
theorem m_113_0_39 {d d0 : Nat} (hd : d = d0 + 8)  {a1 : Int32} {a2 : Int32} {a3 : Int32} {s : zS} {Q : Option Value → zS → Prop}  (h : v_113_0 (fun j => Zt d (wd 39 j) j) 39  a1 a2 a3 s Q) : Zn d [] [(39, 99), (39, 98), (0, 403), (0, 439)] ([] : zW) ([] : zW) xL_9 5 (none) xE_113 (xE_113.drop 0) [.ref 40, .int a1, .int a2, .int a3, .null, .null, .null, .null, .null] [] s Q := by
  unfold v_113_0 at h
  refine zn_ld rfl rfl rfl ?_
  refine zn_get (v := .ref 43) rfl (zv_R (a := 40) rfl rfl) ?_
  refine zn_get (v := .int (s.1 43 2)) rfl (zv_I (a := 43) rfl rfl) ?_
  refine zn_st [.ref 40, .int a1, .int a2, .int a3, .int (s.1 43 2), .null, .null, .null, .null] rfl rfl rfl ?_
  refine zn_ld rfl rfl rfl ?_
  refine zn_get (v := .ref 43) rfl (zv_R (a := 40) rfl rfl) ?_
  refine zn_ld rfl rfl rfl ?_
  refine zn_add a1 [] (a := 43) hd rfl rfl rfl rfl ⟨Int32.le_toInt _, Int.le_of_lt_add_one (Int32.toInt_lt _)⟩ (fun q => absurd q (by decide)) rfl ?_
  replace h := h _ rfl
  refine zn_ld rfl rfl rfl ?_
  refine zn_get (v := .ref 45) rfl (zv_R (a := 40) rfl rfl) ?_
  refine zn_ld rfl rfl rfl ?_
  refine zn_ld rfl rfl rfl ?_
  refine zn_set (s.1 43 2) a2 [] (a := 45) hd rfl rfl rfl rfl h.1 rfl rfl ?_
  replace h := h.2
  replace h := h _ rfl
  refine zn_ld rfl rfl rfl ?_
  refine zn_get (v := .ref 47) rfl (zv_R (a := 40) rfl rfl) ?_
  refine zn_ld rfl rfl rfl ?_
  refine zn_ld rfl rfl rfl ?_
  refine zn_set (s.1 43 2) a3 [] (a := 47) hd rfl rfl rfl rfl ⟨Int32.le_toInt _, Int.le_of_lt_add_one (Int32.toInt_lt _)⟩ rfl rfl ?_
  replace h := h _ rfl
  refine zn_ld rfl rfl rfl ?_
  refine zn_get (v := .ref 49) rfl (zv_R (a := 40) rfl rfl) ?_
  refine zn_ld rfl rfl rfl ?_
  refine zn_ld rfl rfl rfl ?_
  refine zn_c [.int 1, .int a1, .int (s.1 43 2), .ref 49] (xo_push (.int 1)) rfl rfl ?_
  refine zn_brN rfl rfl ⟨fun hcn => ?_, fun hcn => ?_⟩
  · replace h := h.1 (fun q => hcn ((i_eq (x := a1) (y := 1) rfl (show (1 : Int32).toInt = 1 by decide)).mpr q))
    refine zn_ld rfl rfl rfl ?_
    exact m_113_29_39 hd  h
  · replace h := h.2 ((i_eq (x := a1) (y := 1) rfl (show (1 : Int32).toInt = 1 by decide)).mp hcn)
    refine zn_ld rfl rfl rfl ?_
    refine zn_ld rfl rfl rfl ?_
    refine zn_zt [.ref 40, .int (s.1 43 2)] [.int (s.1 43 2), .ref 49] rfl rfl rfl rfl rfl (Zt.imp h (fun v4 s5 h => ?_))
    obtain ⟨x6, rfl, h⟩ := h
    change Zn _ _ _ _ _ _ _ _ _ _ _ [.int x6, .int (s.1 43 2), .ref 49] _ _
    refine zn_go rfl ?_
    exact m_113_29_39 hd  h
theorem zq_113_39 {d : Nat} {a1 : Int32} {a2 : Int32} {a3 : Int32} {s : zS} {Q : Option Value → zS → Prop} (h : v_113_0 (fun j => Zt (d + 8) (wd 39 j) j) 39 a1 a2 a3 s Q) : Zt (d + 9) ([] : zW) 113 [.ref 40, .int a1, .int a2, .int a3] s Q := zt_of (E := xE_113) (L := xL_9) (ml := 5) (ret := none) rfl rfl rfl (m_113_0_39 rfl h)
theorem zc_113 {d P : Nat} (hP : P = 3 ∨ P = 39) {a1 : Int32} {a2 : Int32} {a3 : Int32} {s : zS} {Q : Option Value → zS → Prop} (h : v_113_0 (fun j => Zt (d + 8) (wd P j) j) P a1 a2 a3 s Q) : Zt (d + 9) (wd P 113) 113 [.ref (P + 1), .int a1, .int a2, .int a3] s Q := by
  rcases hP with rfl | rfl
  · exact zq_113_3 h
  · exact zq_113_39 h
/-! FeatherBench$Text.firstLike -/
def v_114_61 (T : Nat → List Value → zS → (Option Value → zS → Prop) → Prop) (P : Nat)  (a1 : Int32) (a2 : Int32) (a3 : Int32) (a4 : Int32) (a5 : Int32) (s : zS) (Q : Option Value → zS → Prop) : Prop :=
  (0 ≤ (zg s (P + 14) a3).toInt ∧ (zg s (P + 14) a3).toInt ≤ 5000) ∧ (∀ s1, s1 = zt s (P + 16) a1 (zg s (P + 14) a3) → (0 ≤ (a1 + 1).toInt ∧ (a1 + 1).toInt ≤ 5000) ∧ (∀ s2, s2 = zt s1 (P + 14) a3 (a1 + 1) → Q (some (.int a1)) s2))
def v_114_39 (T : Nat → List Value → zS → (Option Value → zS → Prop) → Prop) (P : Nat) (R39 : Int32 → Int32 → Int32 → Int32 → Int32 → zS → Prop) (a1 : Int32) (a2 : Int32) (a3 : Int32) (a4 : Int32) (a5 : Int32) (s : zS) (Q : Option Value → zS → Prop) : Prop :=
  (4000 ≤ a5.toInt → v_114_61 T P  a1 a2 a3 a4 a5 s Q) ∧ (¬ (4000 ≤ a5.toInt) → (a4.toInt < 0 → v_114_61 T P  a1 a2 a3 a4 a5 s Q) ∧ (¬ (a4.toInt < 0) → T 111 [.ref (P + 1), .int a4, .ref (P + 1), .int a1] s (fun v1 s2 => ∃ x3, v1 = some (.int x3) ∧ ((x3.toInt = 0 → ∀ x4 : Int32, (-2147483648 ≤ a5.toInt + 1 ∧ a5.toInt + 1 ≤ 2147483647 → x4.toInt = a5.toInt + 1) → R39 a1 a2 a3 ((zg s2 (P + 16) a4) - 1) x4 s2) ∧ (¬ (x3.toInt = 0) → Q (some (.int a4)) s2)))))
def vl_114_39 (T : Nat → List Value → zS → (Option Value → zS → Prop) → Prop) (P : Nat)  (a1 : Int32) (a2 : Int32) (a3 : Int32) (a4 : Int32) (a5 : Int32) (s : zS) (Q : Option Value → zS → Prop) : Prop :=
  ∃ (I : Int32 → Int32 → Int32 → Int32 → Int32 → zS → Prop) (μ : Int32 → Int32 → Int32 → Int32 → Int32 → zS → Nat), I a1 a2 a3 a4 a5 s ∧ ∀ (a1 : Int32) (a2 : Int32) (a3 : Int32) (a4 : Int32) (a5 : Int32) (s : zS), I a1 a2 a3 a4 a5 s → v_114_39 T P (fun a1' a2' a3' a4' a5' s' => I a1' a2' a3' a4' a5' s' ∧ μ a1' a2' a3' a4' a5' s' < μ a1 a2 a3 a4 a5 s) a1 a2 a3 a4 a5 s Q
def v_114_4 (T : Nat → List Value → zS → (Option Value → zS → Prop) → Prop) (P : Nat) (R4 : Int32 → Int32 → Int32 → zS → Prop) (a1 : Int32) (a2 : Int32) (a3 : Int32) (s : zS) (Q : Option Value → zS → Prop) : Prop :=
  ((zg s (P + 8) a1).toInt ≤ a3.toInt → vl_114_39 T P  a1 a2 (a2 &&& (63 : Int32)) ((zg s (P + 14) (a2 &&& (63 : Int32))) - 1) 0 s Q) ∧ (¬ ((zg s (P + 8) a1).toInt ≤ a3.toInt) → ∀ x1 : Int32, (-2147483648 ≤ a3.toInt + 1 ∧ a3.toInt + 1 ≤ 2147483647 → x1.toInt = a3.toInt + 1) → R4 a1 ((a2 * 31) + (zg s (P + 2) ((zg s (P + 6) a1) + a3))) x1 s)
def vl_114_4 (T : Nat → List Value → zS → (Option Value → zS → Prop) → Prop) (P : Nat)  (a1 : Int32) (a2 : Int32) (a3 : Int32) (s : zS) (Q : Option Value → zS → Prop) : Prop :=
  ∃ (I : Int32 → Int32 → Int32 → zS → Prop) (μ : Int32 → Int32 → Int32 → zS → Nat), I a1 a2 a3 s ∧ ∀ (a1 : Int32) (a2 : Int32) (a3 : Int32) (s : zS), I a1 a2 a3 s → v_114_4 T P (fun a1' a2' a3' s' => I a1' a2' a3' s' ∧ μ a1' a2' a3' s' < μ a1 a2 a3 s) a1 a2 a3 s Q
def v_114_0 (T : Nat → List Value → zS → (Option Value → zS → Prop) → Prop) (P : Nat)  (a1 : Int32) (s : zS) (Q : Option Value → zS → Prop) : Prop :=
  vl_114_4 T P  a1 0 0 s Q
set_option maxRecDepth 20000 in
theorem m_114_61_3 {d d0 : Nat} (hd : d = d0 + 8)  {a1 : Int32} {a2 : Int32} {a3 : Int32} {a4 : Int32} {a5 : Int32} {s : zS} {Q : Option Value → zS → Prop}  (h : v_114_61 (fun j => Zt d (wd 3 j) j) 3  a1 a2 a3 a4 a5 s Q) : Zn d [] [(3, 99), (3, 98)] ([] : zW) ([] : zW) xL_9 6 (some .int) xE_114 (xE_114.drop 61) [.ref 4, .int a1, .int a2, .int a3, .int a4, .int a5, .null, .null] [] s Q := by
  unfold v_114_61 at h
  refine zn_ld rfl rfl rfl ?_
  refine zn_get (v := .ref 19) rfl (zv_R (a := 4) rfl rfl) ?_
  refine zn_ld rfl rfl rfl ?_
  refine zn_ld rfl rfl rfl ?_
  refine zn_get (v := .ref 17) rfl (zv_R (a := 4) rfl rfl) ?_
  refine zn_ld rfl rfl rfl ?_
  refine zn_row a3 [.int a1, .ref 19] (a := 17) hd rfl rfl rfl rfl ?_
  change Zn _ _ _ _ _ _ _ _ _ _ _ [.int (zg s 17 a3), .int a1, .ref 19] _ _
  refine zn_set a1 (zg s 17 a3) [] (a := 19) hd rfl rfl rfl rfl h.1 rfl rfl ?_
  replace h := h.2
  replace h := h _ rfl
  refine zn_ld rfl rfl rfl ?_
  refine zn_get (v := .ref 17) rfl (zv_R (a := 4) rfl rfl) ?_
  refine zn_ld rfl rfl rfl ?_
  refine zn_ld rfl rfl rfl ?_
  refine zn_c [.int 1, .int a1, .int a3, .ref 17] (xo_push (.int 1)) rfl rfl ?_
  refine zn_c [.int (a1 + 1), .int a3, .ref 17] xo_iadd rfl rfl ?_
  refine zn_set a3 (a1 + 1) [] (a := 17) hd rfl rfl rfl rfl h.1 rfl rfl ?_
  replace h := h.2
  replace h := h _ rfl
  refine zn_ld rfl rfl rfl ?_
  exact zn_retI rfl h
set_option maxRecDepth 20000 in
theorem m_114_39_3 {d d0 : Nat} (hd : d = d0 + 8) {R39 : Int32 → Int32 → Int32 → Int32 → Int32 → zS → Prop} {a1 : Int32} {a2 : Int32} {a3 : Int32} {a4 : Int32} {a5 : Int32} {s : zS} {Q : Option Value → zS → Prop} (r39 : ∀ a1 a2 a3 a4 a5 s, R39 a1 a2 a3 a4 a5 s → Zn d [] [(3, 99), (3, 98)] ([] : zW) ([] : zW) xL_9 6 (some .int) xE_114 (xE_114.drop 39) [.ref 4, .int a1, .int a2, .int a3, .int a4, .int a5, .null, .null] [] s Q) (h : v_114_39 (fun j => Zt d (wd 3 j) j) 3 R39 a1 a2 a3 a4 a5 s Q) : Zn d [] [(3, 99), (3, 98)] ([] : zW) ([] : zW) xL_9 6 (some .int) xE_114 (xE_114.drop 39) [.ref 4, .int a1, .int a2, .int a3, .int a4, .int a5, .null, .null] [] s Q := by
  unfold v_114_39 at h
  refine zn_ld rfl rfl rfl ?_
  refine zn_c [.int 4000, .int a5] (xo_push (.int 4000)) rfl rfl ?_
  refine zn_brP rfl rfl ⟨fun hcn => ?_, fun hcn => ?_⟩
  · replace h := h.1 ((i_le (x := 4000) (y := a5) (show (4000 : Int32).toInt = 4000 by decide) rfl).mp hcn)
    exact m_114_61_3 hd  h
  · replace h := h.2 (fun q => hcn ((i_le (x := 4000) (y := a5) (show (4000 : Int32).toInt = 4000 by decide) rfl).mpr q))
    refine zn_ld rfl rfl rfl ?_
    refine zn_brP rfl rfl ⟨fun hcn => ?_, fun hcn => ?_⟩
    · replace h := h.1 ((i_lt (x := a4) (y := 0) rfl (show (0 : Int32).toInt = 0 by decide)).mp hcn)
      exact m_114_61_3 hd  h
    · replace h := h.2 (fun q => hcn ((i_lt (x := a4) (y := 0) rfl (show (0 : Int32).toInt = 0 by decide)).mpr q))
      refine zn_ld rfl rfl rfl ?_
      refine zn_ld rfl rfl rfl ?_
      refine zn_ld rfl rfl rfl ?_
      refine zn_ld rfl rfl rfl ?_
      refine zn_zt [.ref 4, .int a4, .ref 4, .int a1] [] rfl rfl rfl rfl rfl (Zt.imp h (fun v1 s2 h => ?_))
      obtain ⟨x3, rfl, h⟩ := h
      change Zn _ _ _ _ _ _ _ _ _ _ _ [.int x3] _ _
      refine zn_brP rfl rfl ⟨fun hcn => ?_, fun hcn => ?_⟩
      · replace h := h.1 ((i_eq (x := x3) (y := 0) rfl (show (0 : Int32).toInt = 0 by decide)).mp hcn)
        refine zn_ld rfl rfl rfl ?_
        refine zn_get (v := .ref 19) rfl (zv_R (a := 4) rfl rfl) ?_
        refine zn_ld rfl rfl rfl ?_
        refine zn_row a4 [] (a := 19) hd rfl rfl rfl rfl ?_
        change Zn _ _ _ _ _ _ _ _ _ _ _ [.int (zg s2 19 a4)] _ _
        refine zn_c [.int 1, .int (zg s2 19 a4)] (xo_push (.int 1)) rfl rfl ?_
        refine zn_c [.int ((zg s2 19 a4) - 1)] xo_isub rfl rfl ?_
        refine zn_st [.ref 4, .int a1, .int a2, .int a3, .int ((zg s2 19 a4) - 1), .int a5, .null, .null] rfl rfl rfl ?_
        replace h := h _ (i_add (x := a5) (y := 1) rfl (show (1 : Int32).toInt = 1 by decide))
        refine zn_inc [.ref 4, .int a1, .int a2, .int a3, .int ((zg s2 19 a4) - 1), .int (a5 + 1), .null, .null] rfl rfl rfl rfl ?_
        refine zn_go rfl ?_
        exact r39 a1 a2 a3 ((zg s2 19 a4) - 1) (a5 + 1) s2 h
      · replace h := h.2 (fun q => hcn ((i_eq (x := x3) (y := 0) rfl (show (0 : Int32).toInt = 0 by decide)).mpr q))
        refine zn_ld rfl rfl rfl ?_
        exact zn_retI rfl h
theorem ml_114_39_3 {d d0 : Nat} (hd : d = d0 + 8)  {a1 : Int32} {a2 : Int32} {a3 : Int32} {a4 : Int32} {a5 : Int32} {s : zS} {Q : Option Value → zS → Prop}  (h : vl_114_39 (fun j => Zt d (wd 3 j) j) 3  a1 a2 a3 a4 a5 s Q) : Zn d [] [(3, 99), (3, 98)] ([] : zW) ([] : zW) xL_9 6 (some .int) xE_114 (xE_114.drop 39) [.ref 4, .int a1, .int a2, .int a3, .int a4, .int a5, .null, .null] [] s Q := by
  obtain ⟨I, μ, h0, h1⟩ := h
  have key : ∀ (n : Nat) (a1 : Int32) (a2 : Int32) (a3 : Int32) (a4 : Int32) (a5 : Int32) (s : zS), μ a1 a2 a3 a4 a5 s = n → I a1 a2 a3 a4 a5 s → Zn d [] [(3, 99), (3, 98)] ([] : zW) ([] : zW) xL_9 6 (some .int) xE_114 (xE_114.drop 39) [.ref 4, .int a1, .int a2, .int a3, .int a4, .int a5, .null, .null] [] s Q := by
    intro n
    induction n using Nat.strongRecOn with
    | ind n ih =>
      intro a1 a2 a3 a4 a5 s e hI
      exact m_114_39_3 hd (fun a1' a2' a3' a4' a5' s' q => ih _ (by rw [← e]; exact q.2) a1' a2' a3' a4' a5' s' rfl q.1) (h1 a1 a2 a3 a4 a5 s hI)
  exact key _ a1 a2 a3 a4 a5 s rfl h0
set_option maxRecDepth 20000 in
theorem m_114_4_3 {d d0 : Nat} (hd : d = d0 + 8) {R4 : Int32 → Int32 → Int32 → zS → Prop} {a1 : Int32} {a2 : Int32} {a3 : Int32} {s : zS} {Q : Option Value → zS → Prop} (r4 : ∀ a1 a2 a3 s, R4 a1 a2 a3 s → Zn d [] [(3, 99), (3, 98)] ([] : zW) ([] : zW) xL_9 6 (some .int) xE_114 (xE_114.drop 4) [.ref 4, .int a1, .int a2, .int a3, .null, .null, .null, .null] [] s Q) (h : v_114_4 (fun j => Zt d (wd 3 j) j) 3 R4 a1 a2 a3 s Q) : Zn d [] [(3, 99), (3, 98)] ([] : zW) ([] : zW) xL_9 6 (some .int) xE_114 (xE_114.drop 4) [.ref 4, .int a1, .int a2, .int a3, .null, .null, .null, .null] [] s Q := by
  unfold v_114_4 at h
  refine zn_ld rfl rfl rfl ?_
  refine zn_ld rfl rfl rfl ?_
  refine zn_get (v := .ref 11) rfl (zv_R (a := 4) rfl rfl) ?_
  refine zn_ld rfl rfl rfl ?_
  refine zn_row a1 [.int a3] (a := 11) hd rfl rfl rfl rfl ?_
  change Zn _ _ _ _ _ _ _ _ _ _ _ [.int (zg s 11 a1), .int a3] _ _
  refine zn_brP rfl rfl ⟨fun hcn => ?_, fun hcn => ?_⟩
  · replace h := h.1 ((i_le (x := zg s 11 a1) (y := a3) rfl rfl).mp hcn)
    refine zn_ld rfl rfl rfl ?_
    refine zn_c [.int 63, .int a2] (xo_push (.int 63)) rfl rfl ?_
    refine zn_c [.int (a2 &&& (63 : Int32))] xo_iand rfl rfl ?_
    refine zn_st [.ref 4, .int a1, .int a2, .int (a2 &&& (63 : Int32)), .null, .null, .null, .null] rfl rfl rfl ?_
    refine zn_ld rfl rfl rfl ?_
    refine zn_get (v := .ref 17) rfl (zv_R (a := 4) rfl rfl) ?_
    refine zn_ld rfl rfl rfl ?_
    refine zn_row (a2 &&& (63 : Int32)) [] (a := 17) hd rfl rfl rfl rfl ?_
    change Zn _ _ _ _ _ _ _ _ _ _ _ [.int (zg s 17 (a2 &&& (63 : Int32)))] _ _
    refine zn_c [.int 1, .int (zg s 17 (a2 &&& (63 : Int32)))] (xo_push (.int 1)) rfl rfl ?_
    refine zn_c [.int ((zg s 17 (a2 &&& (63 : Int32))) - 1)] xo_isub rfl rfl ?_
    refine zn_st [.ref 4, .int a1, .int a2, .int (a2 &&& (63 : Int32)), .int ((zg s 17 (a2 &&& (63 : Int32))) - 1), .null, .null, .null] rfl rfl rfl ?_
    refine zn_c [.int 0] (xo_push (.int 0)) rfl rfl ?_
    refine zn_st [.ref 4, .int a1, .int a2, .int (a2 &&& (63 : Int32)), .int ((zg s 17 (a2 &&& (63 : Int32))) - 1), .int 0, .null, .null] rfl rfl rfl ?_
    exact ml_114_39_3 hd  h
  · replace h := h.2 (fun q => hcn ((i_le (x := zg s 11 a1) (y := a3) rfl rfl).mpr q))
    refine zn_ld rfl rfl rfl ?_
    refine zn_c [.int 31, .int a2] (xo_push (.int 31)) rfl rfl ?_
    refine zn_c [.int (a2 * 31)] xo_imul rfl rfl ?_
    refine zn_ld rfl rfl rfl ?_
    refine zn_get (v := .ref 5) rfl (zv_R (a := 4) rfl rfl) ?_
    refine zn_ld rfl rfl rfl ?_
    refine zn_get (v := .ref 9) rfl (zv_R (a := 4) rfl rfl) ?_
    refine zn_ld rfl rfl rfl ?_
    refine zn_row a1 [.ref 5, .int (a2 * 31)] (a := 9) hd rfl rfl rfl rfl ?_
    change Zn _ _ _ _ _ _ _ _ _ _ _ [.int (zg s 9 a1), .ref 5, .int (a2 * 31)] _ _
    refine zn_ld rfl rfl rfl ?_
    refine zn_c [.int ((zg s 9 a1) + a3), .ref 5, .int (a2 * 31)] xo_iadd rfl rfl ?_
    refine zn_row ((zg s 9 a1) + a3) [.int (a2 * 31)] (a := 5) hd rfl rfl rfl rfl ?_
    change Zn _ _ _ _ _ _ _ _ _ _ _ [.int (zg s 5 ((zg s 9 a1) + a3)), .int (a2 * 31)] _ _
    refine zn_c [.int ((a2 * 31) + (zg s 5 ((zg s 9 a1) + a3)))] xo_iadd rfl rfl ?_
    refine zn_st [.ref 4, .int a1, .int ((a2 * 31) + (zg s 5 ((zg s 9 a1) + a3))), .int a3, .null, .null, .null, .null] rfl rfl rfl ?_
    replace h := h _ (i_add (x := a3) (y := 1) rfl (show (1 : Int32).toInt = 1 by decide))
    refine zn_inc [.ref 4, .int a1, .int ((a2 * 31) + (zg s 5 ((zg s 9 a1) + a3))), .int (a3 + 1), .null, .null, .null, .null] rfl rfl rfl rfl ?_
    refine zn_go rfl ?_
    exact r4 a1 ((a2 * 31) + (zg s 5 ((zg s 9 a1) + a3))) (a3 + 1) s h
theorem ml_114_4_3 {d d0 : Nat} (hd : d = d0 + 8)  {a1 : Int32} {a2 : Int32} {a3 : Int32} {s : zS} {Q : Option Value → zS → Prop}  (h : vl_114_4 (fun j => Zt d (wd 3 j) j) 3  a1 a2 a3 s Q) : Zn d [] [(3, 99), (3, 98)] ([] : zW) ([] : zW) xL_9 6 (some .int) xE_114 (xE_114.drop 4) [.ref 4, .int a1, .int a2, .int a3, .null, .null, .null, .null] [] s Q := by
  obtain ⟨I, μ, h0, h1⟩ := h
  have key : ∀ (n : Nat) (a1 : Int32) (a2 : Int32) (a3 : Int32) (s : zS), μ a1 a2 a3 s = n → I a1 a2 a3 s → Zn d [] [(3, 99), (3, 98)] ([] : zW) ([] : zW) xL_9 6 (some .int) xE_114 (xE_114.drop 4) [.ref 4, .int a1, .int a2, .int a3, .null, .null, .null, .null] [] s Q := by
    intro n
    induction n using Nat.strongRecOn with
    | ind n ih =>
      intro a1 a2 a3 s e hI
      exact m_114_4_3 hd (fun a1' a2' a3' s' q => ih _ (by rw [← e]; exact q.2) a1' a2' a3' s' rfl q.1) (h1 a1 a2 a3 s hI)
  exact key _ a1 a2 a3 s rfl h0
set_option maxRecDepth 20000 in
theorem m_114_0_3 {d d0 : Nat} (hd : d = d0 + 8)  {a1 : Int32} {s : zS} {Q : Option Value → zS → Prop}  (h : v_114_0 (fun j => Zt d (wd 3 j) j) 3  a1 s Q) : Zn d [] [(3, 99), (3, 98)] ([] : zW) ([] : zW) xL_9 6 (some .int) xE_114 (xE_114.drop 0) [.ref 4, .int a1, .null, .null, .null, .null, .null, .null] [] s Q := by
  unfold v_114_0 at h
  refine zn_c [.int 0] (xo_push (.int 0)) rfl rfl ?_
  refine zn_st [.ref 4, .int a1, .int 0, .null, .null, .null, .null, .null] rfl rfl rfl ?_
  refine zn_c [.int 0] (xo_push (.int 0)) rfl rfl ?_
  refine zn_st [.ref 4, .int a1, .int 0, .int 0, .null, .null, .null, .null] rfl rfl rfl ?_
  exact ml_114_4_3 hd  h
theorem zq_114_3 {d : Nat} {a1 : Int32} {s : zS} {Q : Option Value → zS → Prop} (h : v_114_0 (fun j => Zt (d + 8) (wd 3 j) j) 3 a1 s Q) : Zt (d + 9) ([] : zW) 114 [.ref 4, .int a1] s Q := zt_of (E := xE_114) (L := xL_9) (ml := 6) (ret := some .int) rfl rfl rfl (m_114_0_3 rfl h)
set_option maxRecDepth 20000 in
theorem m_114_61_39 {d d0 : Nat} (hd : d = d0 + 8)  {a1 : Int32} {a2 : Int32} {a3 : Int32} {a4 : Int32} {a5 : Int32} {s : zS} {Q : Option Value → zS → Prop}  (h : v_114_61 (fun j => Zt d (wd 39 j) j) 39  a1 a2 a3 a4 a5 s Q) : Zn d [] [(39, 99), (39, 98)] ([] : zW) ([] : zW) xL_9 6 (some .int) xE_114 (xE_114.drop 61) [.ref 40, .int a1, .int a2, .int a3, .int a4, .int a5, .null, .null] [] s Q := by
  unfold v_114_61 at h
  refine zn_ld rfl rfl rfl ?_
  refine zn_get (v := .ref 55) rfl (zv_R (a := 40) rfl rfl) ?_
  refine zn_ld rfl rfl rfl ?_
  refine zn_ld rfl rfl rfl ?_
  refine zn_get (v := .ref 53) rfl (zv_R (a := 40) rfl rfl) ?_
  refine zn_ld rfl rfl rfl ?_
  refine zn_row a3 [.int a1, .ref 55] (a := 53) hd rfl rfl rfl rfl ?_
  change Zn _ _ _ _ _ _ _ _ _ _ _ [.int (zg s 53 a3), .int a1, .ref 55] _ _
  refine zn_set a1 (zg s 53 a3) [] (a := 55) hd rfl rfl rfl rfl h.1 rfl rfl ?_
  replace h := h.2
  replace h := h _ rfl
  refine zn_ld rfl rfl rfl ?_
  refine zn_get (v := .ref 53) rfl (zv_R (a := 40) rfl rfl) ?_
  refine zn_ld rfl rfl rfl ?_
  refine zn_ld rfl rfl rfl ?_
  refine zn_c [.int 1, .int a1, .int a3, .ref 53] (xo_push (.int 1)) rfl rfl ?_
  refine zn_c [.int (a1 + 1), .int a3, .ref 53] xo_iadd rfl rfl ?_
  refine zn_set a3 (a1 + 1) [] (a := 53) hd rfl rfl rfl rfl h.1 rfl rfl ?_
  replace h := h.2
  replace h := h _ rfl
  refine zn_ld rfl rfl rfl ?_
  exact zn_retI rfl h
set_option maxRecDepth 20000 in
theorem m_114_39_39 {d d0 : Nat} (hd : d = d0 + 8) {R39 : Int32 → Int32 → Int32 → Int32 → Int32 → zS → Prop} {a1 : Int32} {a2 : Int32} {a3 : Int32} {a4 : Int32} {a5 : Int32} {s : zS} {Q : Option Value → zS → Prop} (r39 : ∀ a1 a2 a3 a4 a5 s, R39 a1 a2 a3 a4 a5 s → Zn d [] [(39, 99), (39, 98)] ([] : zW) ([] : zW) xL_9 6 (some .int) xE_114 (xE_114.drop 39) [.ref 40, .int a1, .int a2, .int a3, .int a4, .int a5, .null, .null] [] s Q) (h : v_114_39 (fun j => Zt d (wd 39 j) j) 39 R39 a1 a2 a3 a4 a5 s Q) : Zn d [] [(39, 99), (39, 98)] ([] : zW) ([] : zW) xL_9 6 (some .int) xE_114 (xE_114.drop 39) [.ref 40, .int a1, .int a2, .int a3, .int a4, .int a5, .null, .null] [] s Q := by
  unfold v_114_39 at h
  refine zn_ld rfl rfl rfl ?_
  refine zn_c [.int 4000, .int a5] (xo_push (.int 4000)) rfl rfl ?_
  refine zn_brP rfl rfl ⟨fun hcn => ?_, fun hcn => ?_⟩
  · replace h := h.1 ((i_le (x := 4000) (y := a5) (show (4000 : Int32).toInt = 4000 by decide) rfl).mp hcn)
    exact m_114_61_39 hd  h
  · replace h := h.2 (fun q => hcn ((i_le (x := 4000) (y := a5) (show (4000 : Int32).toInt = 4000 by decide) rfl).mpr q))
    refine zn_ld rfl rfl rfl ?_
    refine zn_brP rfl rfl ⟨fun hcn => ?_, fun hcn => ?_⟩
    · replace h := h.1 ((i_lt (x := a4) (y := 0) rfl (show (0 : Int32).toInt = 0 by decide)).mp hcn)
      exact m_114_61_39 hd  h
    · replace h := h.2 (fun q => hcn ((i_lt (x := a4) (y := 0) rfl (show (0 : Int32).toInt = 0 by decide)).mpr q))
      refine zn_ld rfl rfl rfl ?_
      refine zn_ld rfl rfl rfl ?_
      refine zn_ld rfl rfl rfl ?_
      refine zn_ld rfl rfl rfl ?_
      refine zn_zt [.ref 40, .int a4, .ref 40, .int a1] [] rfl rfl rfl rfl rfl (Zt.imp h (fun v1 s2 h => ?_))
      obtain ⟨x3, rfl, h⟩ := h
      change Zn _ _ _ _ _ _ _ _ _ _ _ [.int x3] _ _
      refine zn_brP rfl rfl ⟨fun hcn => ?_, fun hcn => ?_⟩
      · replace h := h.1 ((i_eq (x := x3) (y := 0) rfl (show (0 : Int32).toInt = 0 by decide)).mp hcn)
        refine zn_ld rfl rfl rfl ?_
        refine zn_get (v := .ref 55) rfl (zv_R (a := 40) rfl rfl) ?_
        refine zn_ld rfl rfl rfl ?_
        refine zn_row a4 [] (a := 55) hd rfl rfl rfl rfl ?_
        change Zn _ _ _ _ _ _ _ _ _ _ _ [.int (zg s2 55 a4)] _ _
        refine zn_c [.int 1, .int (zg s2 55 a4)] (xo_push (.int 1)) rfl rfl ?_
        refine zn_c [.int ((zg s2 55 a4) - 1)] xo_isub rfl rfl ?_
        refine zn_st [.ref 40, .int a1, .int a2, .int a3, .int ((zg s2 55 a4) - 1), .int a5, .null, .null] rfl rfl rfl ?_
        replace h := h _ (i_add (x := a5) (y := 1) rfl (show (1 : Int32).toInt = 1 by decide))
        refine zn_inc [.ref 40, .int a1, .int a2, .int a3, .int ((zg s2 55 a4) - 1), .int (a5 + 1), .null, .null] rfl rfl rfl rfl ?_
        refine zn_go rfl ?_
        exact r39 a1 a2 a3 ((zg s2 55 a4) - 1) (a5 + 1) s2 h
      · replace h := h.2 (fun q => hcn ((i_eq (x := x3) (y := 0) rfl (show (0 : Int32).toInt = 0 by decide)).mpr q))
        refine zn_ld rfl rfl rfl ?_
        exact zn_retI rfl h
theorem ml_114_39_39 {d d0 : Nat} (hd : d = d0 + 8)  {a1 : Int32} {a2 : Int32} {a3 : Int32} {a4 : Int32} {a5 : Int32} {s : zS} {Q : Option Value → zS → Prop}  (h : vl_114_39 (fun j => Zt d (wd 39 j) j) 39  a1 a2 a3 a4 a5 s Q) : Zn d [] [(39, 99), (39, 98)] ([] : zW) ([] : zW) xL_9 6 (some .int) xE_114 (xE_114.drop 39) [.ref 40, .int a1, .int a2, .int a3, .int a4, .int a5, .null, .null] [] s Q := by
  obtain ⟨I, μ, h0, h1⟩ := h
  have key : ∀ (n : Nat) (a1 : Int32) (a2 : Int32) (a3 : Int32) (a4 : Int32) (a5 : Int32) (s : zS), μ a1 a2 a3 a4 a5 s = n → I a1 a2 a3 a4 a5 s → Zn d [] [(39, 99), (39, 98)] ([] : zW) ([] : zW) xL_9 6 (some .int) xE_114 (xE_114.drop 39) [.ref 40, .int a1, .int a2, .int a3, .int a4, .int a5, .null, .null] [] s Q := by
    intro n
    induction n using Nat.strongRecOn with
    | ind n ih =>
      intro a1 a2 a3 a4 a5 s e hI
      exact m_114_39_39 hd (fun a1' a2' a3' a4' a5' s' q => ih _ (by rw [← e]; exact q.2) a1' a2' a3' a4' a5' s' rfl q.1) (h1 a1 a2 a3 a4 a5 s hI)
  exact key _ a1 a2 a3 a4 a5 s rfl h0
set_option maxRecDepth 20000 in
theorem m_114_4_39 {d d0 : Nat} (hd : d = d0 + 8) {R4 : Int32 → Int32 → Int32 → zS → Prop} {a1 : Int32} {a2 : Int32} {a3 : Int32} {s : zS} {Q : Option Value → zS → Prop} (r4 : ∀ a1 a2 a3 s, R4 a1 a2 a3 s → Zn d [] [(39, 99), (39, 98)] ([] : zW) ([] : zW) xL_9 6 (some .int) xE_114 (xE_114.drop 4) [.ref 40, .int a1, .int a2, .int a3, .null, .null, .null, .null] [] s Q) (h : v_114_4 (fun j => Zt d (wd 39 j) j) 39 R4 a1 a2 a3 s Q) : Zn d [] [(39, 99), (39, 98)] ([] : zW) ([] : zW) xL_9 6 (some .int) xE_114 (xE_114.drop 4) [.ref 40, .int a1, .int a2, .int a3, .null, .null, .null, .null] [] s Q := by
  unfold v_114_4 at h
  refine zn_ld rfl rfl rfl ?_
  refine zn_ld rfl rfl rfl ?_
  refine zn_get (v := .ref 47) rfl (zv_R (a := 40) rfl rfl) ?_
  refine zn_ld rfl rfl rfl ?_
  refine zn_row a1 [.int a3] (a := 47) hd rfl rfl rfl rfl ?_
  change Zn _ _ _ _ _ _ _ _ _ _ _ [.int (zg s 47 a1), .int a3] _ _
  refine zn_brP rfl rfl ⟨fun hcn => ?_, fun hcn => ?_⟩
  · replace h := h.1 ((i_le (x := zg s 47 a1) (y := a3) rfl rfl).mp hcn)
    refine zn_ld rfl rfl rfl ?_
    refine zn_c [.int 63, .int a2] (xo_push (.int 63)) rfl rfl ?_
    refine zn_c [.int (a2 &&& (63 : Int32))] xo_iand rfl rfl ?_
    refine zn_st [.ref 40, .int a1, .int a2, .int (a2 &&& (63 : Int32)), .null, .null, .null, .null] rfl rfl rfl ?_
    refine zn_ld rfl rfl rfl ?_
    refine zn_get (v := .ref 53) rfl (zv_R (a := 40) rfl rfl) ?_
    refine zn_ld rfl rfl rfl ?_
    refine zn_row (a2 &&& (63 : Int32)) [] (a := 53) hd rfl rfl rfl rfl ?_
    change Zn _ _ _ _ _ _ _ _ _ _ _ [.int (zg s 53 (a2 &&& (63 : Int32)))] _ _
    refine zn_c [.int 1, .int (zg s 53 (a2 &&& (63 : Int32)))] (xo_push (.int 1)) rfl rfl ?_
    refine zn_c [.int ((zg s 53 (a2 &&& (63 : Int32))) - 1)] xo_isub rfl rfl ?_
    refine zn_st [.ref 40, .int a1, .int a2, .int (a2 &&& (63 : Int32)), .int ((zg s 53 (a2 &&& (63 : Int32))) - 1), .null, .null, .null] rfl rfl rfl ?_
    refine zn_c [.int 0] (xo_push (.int 0)) rfl rfl ?_
    refine zn_st [.ref 40, .int a1, .int a2, .int (a2 &&& (63 : Int32)), .int ((zg s 53 (a2 &&& (63 : Int32))) - 1), .int 0, .null, .null] rfl rfl rfl ?_
    exact ml_114_39_39 hd  h
  · replace h := h.2 (fun q => hcn ((i_le (x := zg s 47 a1) (y := a3) rfl rfl).mpr q))
    refine zn_ld rfl rfl rfl ?_
    refine zn_c [.int 31, .int a2] (xo_push (.int 31)) rfl rfl ?_
    refine zn_c [.int (a2 * 31)] xo_imul rfl rfl ?_
    refine zn_ld rfl rfl rfl ?_
    refine zn_get (v := .ref 41) rfl (zv_R (a := 40) rfl rfl) ?_
    refine zn_ld rfl rfl rfl ?_
    refine zn_get (v := .ref 45) rfl (zv_R (a := 40) rfl rfl) ?_
    refine zn_ld rfl rfl rfl ?_
    refine zn_row a1 [.ref 41, .int (a2 * 31)] (a := 45) hd rfl rfl rfl rfl ?_
    change Zn _ _ _ _ _ _ _ _ _ _ _ [.int (zg s 45 a1), .ref 41, .int (a2 * 31)] _ _
    refine zn_ld rfl rfl rfl ?_
    refine zn_c [.int ((zg s 45 a1) + a3), .ref 41, .int (a2 * 31)] xo_iadd rfl rfl ?_
    refine zn_row ((zg s 45 a1) + a3) [.int (a2 * 31)] (a := 41) hd rfl rfl rfl rfl ?_
    change Zn _ _ _ _ _ _ _ _ _ _ _ [.int (zg s 41 ((zg s 45 a1) + a3)), .int (a2 * 31)] _ _
    refine zn_c [.int ((a2 * 31) + (zg s 41 ((zg s 45 a1) + a3)))] xo_iadd rfl rfl ?_
    refine zn_st [.ref 40, .int a1, .int ((a2 * 31) + (zg s 41 ((zg s 45 a1) + a3))), .int a3, .null, .null, .null, .null] rfl rfl rfl ?_
    replace h := h _ (i_add (x := a3) (y := 1) rfl (show (1 : Int32).toInt = 1 by decide))
    refine zn_inc [.ref 40, .int a1, .int ((a2 * 31) + (zg s 41 ((zg s 45 a1) + a3))), .int (a3 + 1), .null, .null, .null, .null] rfl rfl rfl rfl ?_
    refine zn_go rfl ?_
    exact r4 a1 ((a2 * 31) + (zg s 41 ((zg s 45 a1) + a3))) (a3 + 1) s h
theorem ml_114_4_39 {d d0 : Nat} (hd : d = d0 + 8)  {a1 : Int32} {a2 : Int32} {a3 : Int32} {s : zS} {Q : Option Value → zS → Prop}  (h : vl_114_4 (fun j => Zt d (wd 39 j) j) 39  a1 a2 a3 s Q) : Zn d [] [(39, 99), (39, 98)] ([] : zW) ([] : zW) xL_9 6 (some .int) xE_114 (xE_114.drop 4) [.ref 40, .int a1, .int a2, .int a3, .null, .null, .null, .null] [] s Q := by
  obtain ⟨I, μ, h0, h1⟩ := h
  have key : ∀ (n : Nat) (a1 : Int32) (a2 : Int32) (a3 : Int32) (s : zS), μ a1 a2 a3 s = n → I a1 a2 a3 s → Zn d [] [(39, 99), (39, 98)] ([] : zW) ([] : zW) xL_9 6 (some .int) xE_114 (xE_114.drop 4) [.ref 40, .int a1, .int a2, .int a3, .null, .null, .null, .null] [] s Q := by
    intro n
    induction n using Nat.strongRecOn with
    | ind n ih =>
      intro a1 a2 a3 s e hI
      exact m_114_4_39 hd (fun a1' a2' a3' s' q => ih _ (by rw [← e]; exact q.2) a1' a2' a3' s' rfl q.1) (h1 a1 a2 a3 s hI)
  exact key _ a1 a2 a3 s rfl h0
set_option maxRecDepth 20000 in
theorem m_114_0_39 {d d0 : Nat} (hd : d = d0 + 8)  {a1 : Int32} {s : zS} {Q : Option Value → zS → Prop}  (h : v_114_0 (fun j => Zt d (wd 39 j) j) 39  a1 s Q) : Zn d [] [(39, 99), (39, 98)] ([] : zW) ([] : zW) xL_9 6 (some .int) xE_114 (xE_114.drop 0) [.ref 40, .int a1, .null, .null, .null, .null, .null, .null] [] s Q := by
  unfold v_114_0 at h
  refine zn_c [.int 0] (xo_push (.int 0)) rfl rfl ?_
  refine zn_st [.ref 40, .int a1, .int 0, .null, .null, .null, .null, .null] rfl rfl rfl ?_
  refine zn_c [.int 0] (xo_push (.int 0)) rfl rfl ?_
  refine zn_st [.ref 40, .int a1, .int 0, .int 0, .null, .null, .null, .null] rfl rfl rfl ?_
  exact ml_114_4_39 hd  h
theorem zq_114_39 {d : Nat} {a1 : Int32} {s : zS} {Q : Option Value → zS → Prop} (h : v_114_0 (fun j => Zt (d + 8) (wd 39 j) j) 39 a1 s Q) : Zt (d + 9) ([] : zW) 114 [.ref 40, .int a1] s Q := zt_of (E := xE_114) (L := xL_9) (ml := 6) (ret := some .int) rfl rfl rfl (m_114_0_39 rfl h)
theorem zc_114 {d P : Nat} (hP : P = 3 ∨ P = 39) {a1 : Int32} {s : zS} {Q : Option Value → zS → Prop} (h : v_114_0 (fun j => Zt (d + 8) (wd P j) j) P a1 s Q) : Zt (d + 9) (wd P 114) 114 [.ref (P + 1), .int a1] s Q := by
  rcases hP with rfl | rfl
  · exact zq_114_3 h
  · exact zq_114_39 h
/-! FeatherBench$Text.wordKind -/
def v_115_64 (T : Nat → List Value → zS → (Option Value → zS → Prop) → Prop) (P : Nat)  (a1 : Int32) (a2 : Int32) (t0 : Int32) (s : zS) (Q : Option Value → zS → Prop) : Prop :=
  Q (some (.int t0)) s
def v_115_54 (T : Nat → List Value → zS → (Option Value → zS → Prop) → Prop) (P : Nat)  (a1 : Int32) (a2 : Int32) (t0 : Int32) (s : zS) (Q : Option Value → zS → Prop) : Prop :=
  Q (some (.int t0)) s
def v_115_44 (T : Nat → List Value → zS → (Option Value → zS → Prop) → Prop) (P : Nat)  (a1 : Int32) (a2 : Int32) (t0 : Int32) (s : zS) (Q : Option Value → zS → Prop) : Prop :=
  Q (some (.int t0)) s
def v_115_34 (T : Nat → List Value → zS → (Option Value → zS → Prop) → Prop) (P : Nat)  (a1 : Int32) (a2 : Int32) (t0 : Int32) (s : zS) (Q : Option Value → zS → Prop) : Prop :=
  Q (some (.int t0)) s
def v_115_24 (T : Nat → List Value → zS → (Option Value → zS → Prop) → Prop) (P : Nat)  (a1 : Int32) (a2 : Int32) (t0 : Int32) (s : zS) (Q : Option Value → zS → Prop) : Prop :=
  Q (some (.int t0)) s
def v_115_14 (T : Nat → List Value → zS → (Option Value → zS → Prop) → Prop) (P : Nat)  (a1 : Int32) (a2 : Int32) (t0 : Int32) (s : zS) (Q : Option Value → zS → Prop) : Prop :=
  Q (some (.int t0)) s
def v_115_0 (T : Nat → List Value → zS → (Option Value → zS → Prop) → Prop) (P : Nat)  (a1 : Int32) (a2 : Int32) (s : zS) (Q : Option Value → zS → Prop) : Prop :=
  (¬ Int32.toInt (zg s (P + 2) a1) = 102 ∧ ¬ Int32.toInt (zg s (P + 2) a1) = 105 ∧ ¬ Int32.toInt (zg s (P + 2) a1) = 109 ∧ ¬ Int32.toInt (zg s (P + 2) a1) = 114 ∧ ¬ Int32.toInt (zg s (P + 2) a1) = 115 ∧ ¬ Int32.toInt (zg s (P + 2) a1) = 116 → Q (some (.int 1)) s) ∧ (Int32.toInt (zg s (P + 2) a1) = 102 → T 116 [.ref (P + 1), .int a1, .int a2, .ref 1000004] s (fun v1 s2 => ∃ x3, v1 = some (.int x3) ∧ ((x3.toInt = 0 → v_115_44 T P  a1 a2 1 s2 Q) ∧ (¬ (x3.toInt = 0) → v_115_44 T P  a1 a2 6 s2 Q)))) ∧ (Int32.toInt (zg s (P + 2) a1) = 105 → T 116 [.ref (P + 1), .int a1, .int a2, .ref 1000003] s (fun v4 s5 => ∃ x6, v4 = some (.int x6) ∧ ((x6.toInt = 0 → v_115_34 T P  a1 a2 1 s5 Q) ∧ (¬ (x6.toInt = 0) → v_115_34 T P  a1 a2 5 s5 Q)))) ∧ (Int32.toInt (zg s (P + 2) a1) = 109 → T 116 [.ref (P + 1), .int a1, .int a2, .ref 1000006] s (fun v7 s8 => ∃ x9, v7 = some (.int x9) ∧ ((x9.toInt = 0 → v_115_64 T P  a1 a2 1 s8 Q) ∧ (¬ (x9.toInt = 0) → v_115_64 T P  a1 a2 8 s8 Q)))) ∧ (Int32.toInt (zg s (P + 2) a1) = 114 → T 116 [.ref (P + 1), .int a1, .int a2, .ref 1000005] s (fun v10 s11 => ∃ x12, v10 = some (.int x12) ∧ ((x12.toInt = 0 → v_115_54 T P  a1 a2 1 s11 Q) ∧ (¬ (x12.toInt = 0) → v_115_54 T P  a1 a2 7 s11 Q)))) ∧ (Int32.toInt (zg s (P + 2) a1) = 115 → T 116 [.ref (P + 1), .int a1, .int a2, .ref 1000002] s (fun v13 s14 => ∃ x15, v13 = some (.int x15) ∧ ((x15.toInt = 0 → v_115_24 T P  a1 a2 1 s14 Q) ∧ (¬ (x15.toInt = 0) → v_115_24 T P  a1 a2 4 s14 Q)))) ∧ (Int32.toInt (zg s (P + 2) a1) = 116 → T 116 [.ref (P + 1), .int a1, .int a2, .ref 1000001] s (fun v16 s17 => ∃ x18, v16 = some (.int x18) ∧ ((x18.toInt = 0 → v_115_14 T P  a1 a2 1 s17 Q) ∧ (¬ (x18.toInt = 0) → v_115_14 T P  a1 a2 3 s17 Q))))
set_option maxRecDepth 20000 in
theorem m_115_64_3 {d d0 : Nat} (hd : d = d0 + 8)  {a1 : Int32} {a2 : Int32} {t0 : Int32} {s : zS} {Q : Option Value → zS → Prop}  (h : v_115_64 (fun j => Zt d (wd 3 j) j) 3  a1 a2 t0 s Q) : Zn d [] [] ([] : zW) ([] : zW) xL_9 3 (some .int) xE_115 (xE_115.drop 64) [.ref 4, .int a1, .int a2, .null, .null, .null] [.int t0] s Q := by
  unfold v_115_64 at h
  exact zn_retI rfl h
set_option maxRecDepth 20000 in
theorem m_115_54_3 {d d0 : Nat} (hd : d = d0 + 8)  {a1 : Int32} {a2 : Int32} {t0 : Int32} {s : zS} {Q : Option Value → zS → Prop}  (h : v_115_54 (fun j => Zt d (wd 3 j) j) 3  a1 a2 t0 s Q) : Zn d [] [] ([] : zW) ([] : zW) xL_9 3 (some .int) xE_115 (xE_115.drop 54) [.ref 4, .int a1, .int a2, .null, .null, .null] [.int t0] s Q := by
  unfold v_115_54 at h
  exact zn_retI rfl h
set_option maxRecDepth 20000 in
theorem m_115_44_3 {d d0 : Nat} (hd : d = d0 + 8)  {a1 : Int32} {a2 : Int32} {t0 : Int32} {s : zS} {Q : Option Value → zS → Prop}  (h : v_115_44 (fun j => Zt d (wd 3 j) j) 3  a1 a2 t0 s Q) : Zn d [] [] ([] : zW) ([] : zW) xL_9 3 (some .int) xE_115 (xE_115.drop 44) [.ref 4, .int a1, .int a2, .null, .null, .null] [.int t0] s Q := by
  unfold v_115_44 at h
  exact zn_retI rfl h
set_option maxRecDepth 20000 in
theorem m_115_34_3 {d d0 : Nat} (hd : d = d0 + 8)  {a1 : Int32} {a2 : Int32} {t0 : Int32} {s : zS} {Q : Option Value → zS → Prop}  (h : v_115_34 (fun j => Zt d (wd 3 j) j) 3  a1 a2 t0 s Q) : Zn d [] [] ([] : zW) ([] : zW) xL_9 3 (some .int) xE_115 (xE_115.drop 34) [.ref 4, .int a1, .int a2, .null, .null, .null] [.int t0] s Q := by
  unfold v_115_34 at h
  exact zn_retI rfl h
set_option maxRecDepth 20000 in
theorem m_115_24_3 {d d0 : Nat} (hd : d = d0 + 8)  {a1 : Int32} {a2 : Int32} {t0 : Int32} {s : zS} {Q : Option Value → zS → Prop}  (h : v_115_24 (fun j => Zt d (wd 3 j) j) 3  a1 a2 t0 s Q) : Zn d [] [] ([] : zW) ([] : zW) xL_9 3 (some .int) xE_115 (xE_115.drop 24) [.ref 4, .int a1, .int a2, .null, .null, .null] [.int t0] s Q := by
  unfold v_115_24 at h
  exact zn_retI rfl h
set_option maxRecDepth 20000 in
theorem m_115_14_3 {d d0 : Nat} (hd : d = d0 + 8)  {a1 : Int32} {a2 : Int32} {t0 : Int32} {s : zS} {Q : Option Value → zS → Prop}  (h : v_115_14 (fun j => Zt d (wd 3 j) j) 3  a1 a2 t0 s Q) : Zn d [] [] ([] : zW) ([] : zW) xL_9 3 (some .int) xE_115 (xE_115.drop 14) [.ref 4, .int a1, .int a2, .null, .null, .null] [.int t0] s Q := by
  unfold v_115_14 at h
  exact zn_retI rfl h
set_option maxRecDepth 20000 in
theorem m_115_0_3 {d d0 : Nat} (hd : d = d0 + 8)  {a1 : Int32} {a2 : Int32} {s : zS} {Q : Option Value → zS → Prop}  (h : v_115_0 (fun j => Zt d (wd 3 j) j) 3  a1 a2 s Q) : Zn d [] [] ([] : zW) ([] : zW) xL_9 3 (some .int) xE_115 (xE_115.drop 0) [.ref 4, .int a1, .int a2, .null, .null, .null] [] s Q := by
  unfold v_115_0 at h
  refine zn_ld rfl rfl rfl ?_
  refine zn_get (v := .ref 5) rfl (zv_R (a := 4) rfl rfl) ?_
  refine zn_ld rfl rfl rfl ?_
  refine zn_row a1 [] (a := 5) hd rfl rfl rfl rfl ?_
  change Zn _ _ _ _ _ _ _ _ _ _ _ [.int (zg s 5 a1)] _ _
  by_cases hx : Int32.toInt (zg s 5 a1) = 102 ∨ Int32.toInt (zg s 5 a1) = 105 ∨ Int32.toInt (zg s 5 a1) = 109 ∨ Int32.toInt (zg s 5 a1) = 114 ∨ Int32.toInt (zg s 5 a1) = 115 ∨ Int32.toInt (zg s 5 a1) = 116
  · rcases hx with hy | hy | hy | hy | hy | hy
    · refine zn_sw ?_
      refine ⟨35, by rw [if_neg (by omega), hy]; rfl, ?_⟩
      replace h := h.2.1 hy
      refine zn_ld rfl rfl rfl ?_
      refine zn_ld rfl rfl rfl ?_
      refine zn_ld rfl rfl rfl ?_
      refine zn_c [.ref 1000004, .int a2, .int a1, .ref 4] (xo_push (.ref 1000004)) rfl rfl ?_
      refine zn_zt [.ref 4, .int a1, .int a2, .ref 1000004] [] rfl rfl rfl rfl rfl (Zt.imp h (fun v1 s2 h => ?_))
      obtain ⟨x3, rfl, h⟩ := h
      change Zn _ _ _ _ _ _ _ _ _ _ _ [.int x3] _ _
      refine zn_brP rfl rfl ⟨fun hcn => ?_, fun hcn => ?_⟩
      · replace h := h.1 ((i_eq (x := x3) (y := 0) rfl (show (0 : Int32).toInt = 0 by decide)).mp hcn)
        refine zn_c [.int 1] (xo_push (.int 1)) rfl rfl ?_
        exact m_115_44_3 hd  h
      · replace h := h.2 (fun q => hcn ((i_eq (x := x3) (y := 0) rfl (show (0 : Int32).toInt = 0 by decide)).mpr q))
        refine zn_c [.int 6] (xo_push (.int 6)) rfl rfl ?_
        refine zn_go rfl ?_
        exact m_115_44_3 hd  h
    · refine zn_sw ?_
      refine ⟨25, by rw [if_neg (by omega), hy]; rfl, ?_⟩
      replace h := h.2.2.1 hy
      refine zn_ld rfl rfl rfl ?_
      refine zn_ld rfl rfl rfl ?_
      refine zn_ld rfl rfl rfl ?_
      refine zn_c [.ref 1000003, .int a2, .int a1, .ref 4] (xo_push (.ref 1000003)) rfl rfl ?_
      refine zn_zt [.ref 4, .int a1, .int a2, .ref 1000003] [] rfl rfl rfl rfl rfl (Zt.imp h (fun v4 s5 h => ?_))
      obtain ⟨x6, rfl, h⟩ := h
      change Zn _ _ _ _ _ _ _ _ _ _ _ [.int x6] _ _
      refine zn_brP rfl rfl ⟨fun hcn => ?_, fun hcn => ?_⟩
      · replace h := h.1 ((i_eq (x := x6) (y := 0) rfl (show (0 : Int32).toInt = 0 by decide)).mp hcn)
        refine zn_c [.int 1] (xo_push (.int 1)) rfl rfl ?_
        exact m_115_34_3 hd  h
      · replace h := h.2 (fun q => hcn ((i_eq (x := x6) (y := 0) rfl (show (0 : Int32).toInt = 0 by decide)).mpr q))
        refine zn_c [.int 5] (xo_push (.int 5)) rfl rfl ?_
        refine zn_go rfl ?_
        exact m_115_34_3 hd  h
    · refine zn_sw ?_
      refine ⟨55, by rw [if_neg (by omega), hy]; rfl, ?_⟩
      replace h := h.2.2.2.1 hy
      refine zn_ld rfl rfl rfl ?_
      refine zn_ld rfl rfl rfl ?_
      refine zn_ld rfl rfl rfl ?_
      refine zn_c [.ref 1000006, .int a2, .int a1, .ref 4] (xo_push (.ref 1000006)) rfl rfl ?_
      refine zn_zt [.ref 4, .int a1, .int a2, .ref 1000006] [] rfl rfl rfl rfl rfl (Zt.imp h (fun v7 s8 h => ?_))
      obtain ⟨x9, rfl, h⟩ := h
      change Zn _ _ _ _ _ _ _ _ _ _ _ [.int x9] _ _
      refine zn_brP rfl rfl ⟨fun hcn => ?_, fun hcn => ?_⟩
      · replace h := h.1 ((i_eq (x := x9) (y := 0) rfl (show (0 : Int32).toInt = 0 by decide)).mp hcn)
        refine zn_c [.int 1] (xo_push (.int 1)) rfl rfl ?_
        exact m_115_64_3 hd  h
      · replace h := h.2 (fun q => hcn ((i_eq (x := x9) (y := 0) rfl (show (0 : Int32).toInt = 0 by decide)).mpr q))
        refine zn_c [.int 8] (xo_push (.int 8)) rfl rfl ?_
        refine zn_go rfl ?_
        exact m_115_64_3 hd  h
    · refine zn_sw ?_
      refine ⟨45, by rw [if_neg (by omega), hy]; rfl, ?_⟩
      replace h := h.2.2.2.2.1 hy
      refine zn_ld rfl rfl rfl ?_
      refine zn_ld rfl rfl rfl ?_
      refine zn_ld rfl rfl rfl ?_
      refine zn_c [.ref 1000005, .int a2, .int a1, .ref 4] (xo_push (.ref 1000005)) rfl rfl ?_
      refine zn_zt [.ref 4, .int a1, .int a2, .ref 1000005] [] rfl rfl rfl rfl rfl (Zt.imp h (fun v10 s11 h => ?_))
      obtain ⟨x12, rfl, h⟩ := h
      change Zn _ _ _ _ _ _ _ _ _ _ _ [.int x12] _ _
      refine zn_brP rfl rfl ⟨fun hcn => ?_, fun hcn => ?_⟩
      · replace h := h.1 ((i_eq (x := x12) (y := 0) rfl (show (0 : Int32).toInt = 0 by decide)).mp hcn)
        refine zn_c [.int 1] (xo_push (.int 1)) rfl rfl ?_
        exact m_115_54_3 hd  h
      · replace h := h.2 (fun q => hcn ((i_eq (x := x12) (y := 0) rfl (show (0 : Int32).toInt = 0 by decide)).mpr q))
        refine zn_c [.int 7] (xo_push (.int 7)) rfl rfl ?_
        refine zn_go rfl ?_
        exact m_115_54_3 hd  h
    · refine zn_sw ?_
      refine ⟨15, by rw [if_neg (by omega), hy]; rfl, ?_⟩
      replace h := h.2.2.2.2.2.1 hy
      refine zn_ld rfl rfl rfl ?_
      refine zn_ld rfl rfl rfl ?_
      refine zn_ld rfl rfl rfl ?_
      refine zn_c [.ref 1000002, .int a2, .int a1, .ref 4] (xo_push (.ref 1000002)) rfl rfl ?_
      refine zn_zt [.ref 4, .int a1, .int a2, .ref 1000002] [] rfl rfl rfl rfl rfl (Zt.imp h (fun v13 s14 h => ?_))
      obtain ⟨x15, rfl, h⟩ := h
      change Zn _ _ _ _ _ _ _ _ _ _ _ [.int x15] _ _
      refine zn_brP rfl rfl ⟨fun hcn => ?_, fun hcn => ?_⟩
      · replace h := h.1 ((i_eq (x := x15) (y := 0) rfl (show (0 : Int32).toInt = 0 by decide)).mp hcn)
        refine zn_c [.int 1] (xo_push (.int 1)) rfl rfl ?_
        exact m_115_24_3 hd  h
      · replace h := h.2 (fun q => hcn ((i_eq (x := x15) (y := 0) rfl (show (0 : Int32).toInt = 0 by decide)).mpr q))
        refine zn_c [.int 4] (xo_push (.int 4)) rfl rfl ?_
        refine zn_go rfl ?_
        exact m_115_24_3 hd  h
    · refine zn_sw ?_
      refine ⟨5, by rw [if_neg (by omega), hy]; rfl, ?_⟩
      replace h := h.2.2.2.2.2.2 hy
      refine zn_ld rfl rfl rfl ?_
      refine zn_ld rfl rfl rfl ?_
      refine zn_ld rfl rfl rfl ?_
      refine zn_c [.ref 1000001, .int a2, .int a1, .ref 4] (xo_push (.ref 1000001)) rfl rfl ?_
      refine zn_zt [.ref 4, .int a1, .int a2, .ref 1000001] [] rfl rfl rfl rfl rfl (Zt.imp h (fun v16 s17 h => ?_))
      obtain ⟨x18, rfl, h⟩ := h
      change Zn _ _ _ _ _ _ _ _ _ _ _ [.int x18] _ _
      refine zn_brP rfl rfl ⟨fun hcn => ?_, fun hcn => ?_⟩
      · replace h := h.1 ((i_eq (x := x18) (y := 0) rfl (show (0 : Int32).toInt = 0 by decide)).mp hcn)
        refine zn_c [.int 1] (xo_push (.int 1)) rfl rfl ?_
        exact m_115_14_3 hd  h
      · replace h := h.2 (fun q => hcn ((i_eq (x := x18) (y := 0) rfl (show (0 : Int32).toInt = 0 by decide)).mpr q))
        refine zn_c [.int 3] (xo_push (.int 3)) rfl rfl ?_
        refine zn_go rfl ?_
        exact m_115_14_3 hd  h
  · have hy : ¬ Int32.toInt (zg s 5 a1) = 102 ∧ ¬ Int32.toInt (zg s 5 a1) = 105 ∧ ¬ Int32.toInt (zg s 5 a1) = 109 ∧ ¬ Int32.toInt (zg s 5 a1) = 114 ∧ ¬ Int32.toInt (zg s 5 a1) = 115 ∧ ¬ Int32.toInt (zg s 5 a1) = 116 := by omega
    replace h := h.1 hy
    by_cases hz : Int32.toInt (zg s 5 a1) < 102 ∨ 116 < Int32.toInt (zg s 5 a1)
    · refine zn_sw ?_
      refine ⟨65, by rw [if_pos hz]; rfl, ?_⟩
      refine zn_c [.int 1] (xo_push (.int 1)) rfl rfl ?_
      exact zn_retI rfl h
    · have hw : Int32.toInt (zg s 5 a1) = 103 ∨ Int32.toInt (zg s 5 a1) = 104 ∨ Int32.toInt (zg s 5 a1) = 106 ∨ Int32.toInt (zg s 5 a1) = 107 ∨ Int32.toInt (zg s 5 a1) = 108 ∨ Int32.toInt (zg s 5 a1) = 110 ∨ Int32.toInt (zg s 5 a1) = 111 ∨ Int32.toInt (zg s 5 a1) = 112 ∨ Int32.toInt (zg s 5 a1) = 113 := by omega
      rcases hw with hw | hw | hw | hw | hw | hw | hw | hw | hw
      · refine zn_sw ?_
        refine ⟨65, by rw [if_neg hz, hw]; rfl, ?_⟩
        refine zn_c [.int 1] (xo_push (.int 1)) rfl rfl ?_
        exact zn_retI rfl h
      · refine zn_sw ?_
        refine ⟨65, by rw [if_neg hz, hw]; rfl, ?_⟩
        refine zn_c [.int 1] (xo_push (.int 1)) rfl rfl ?_
        exact zn_retI rfl h
      · refine zn_sw ?_
        refine ⟨65, by rw [if_neg hz, hw]; rfl, ?_⟩
        refine zn_c [.int 1] (xo_push (.int 1)) rfl rfl ?_
        exact zn_retI rfl h
      · refine zn_sw ?_
        refine ⟨65, by rw [if_neg hz, hw]; rfl, ?_⟩
        refine zn_c [.int 1] (xo_push (.int 1)) rfl rfl ?_
        exact zn_retI rfl h
      · refine zn_sw ?_
        refine ⟨65, by rw [if_neg hz, hw]; rfl, ?_⟩
        refine zn_c [.int 1] (xo_push (.int 1)) rfl rfl ?_
        exact zn_retI rfl h
      · refine zn_sw ?_
        refine ⟨65, by rw [if_neg hz, hw]; rfl, ?_⟩
        refine zn_c [.int 1] (xo_push (.int 1)) rfl rfl ?_
        exact zn_retI rfl h
      · refine zn_sw ?_
        refine ⟨65, by rw [if_neg hz, hw]; rfl, ?_⟩
        refine zn_c [.int 1] (xo_push (.int 1)) rfl rfl ?_
        exact zn_retI rfl h
      · refine zn_sw ?_
        refine ⟨65, by rw [if_neg hz, hw]; rfl, ?_⟩
        refine zn_c [.int 1] (xo_push (.int 1)) rfl rfl ?_
        exact zn_retI rfl h
      · refine zn_sw ?_
        refine ⟨65, by rw [if_neg hz, hw]; rfl, ?_⟩
        refine zn_c [.int 1] (xo_push (.int 1)) rfl rfl ?_
        exact zn_retI rfl h
theorem zq_115_3 {d : Nat} {a1 : Int32} {a2 : Int32} {s : zS} {Q : Option Value → zS → Prop} (h : v_115_0 (fun j => Zt (d + 8) (wd 3 j) j) 3 a1 a2 s Q) : Zt (d + 9) ([] : zW) 115 [.ref 4, .int a1, .int a2] s Q := zt_of (E := xE_115) (L := xL_9) (ml := 3) (ret := some .int) rfl rfl rfl (m_115_0_3 rfl h)
set_option maxRecDepth 20000 in
theorem m_115_64_39 {d d0 : Nat} (hd : d = d0 + 8)  {a1 : Int32} {a2 : Int32} {t0 : Int32} {s : zS} {Q : Option Value → zS → Prop}  (h : v_115_64 (fun j => Zt d (wd 39 j) j) 39  a1 a2 t0 s Q) : Zn d [] [] ([] : zW) ([] : zW) xL_9 3 (some .int) xE_115 (xE_115.drop 64) [.ref 40, .int a1, .int a2, .null, .null, .null] [.int t0] s Q := by
  unfold v_115_64 at h
  exact zn_retI rfl h
set_option maxRecDepth 20000 in
theorem m_115_54_39 {d d0 : Nat} (hd : d = d0 + 8)  {a1 : Int32} {a2 : Int32} {t0 : Int32} {s : zS} {Q : Option Value → zS → Prop}  (h : v_115_54 (fun j => Zt d (wd 39 j) j) 39  a1 a2 t0 s Q) : Zn d [] [] ([] : zW) ([] : zW) xL_9 3 (some .int) xE_115 (xE_115.drop 54) [.ref 40, .int a1, .int a2, .null, .null, .null] [.int t0] s Q := by
  unfold v_115_54 at h
  exact zn_retI rfl h
set_option maxRecDepth 20000 in
theorem m_115_44_39 {d d0 : Nat} (hd : d = d0 + 8)  {a1 : Int32} {a2 : Int32} {t0 : Int32} {s : zS} {Q : Option Value → zS → Prop}  (h : v_115_44 (fun j => Zt d (wd 39 j) j) 39  a1 a2 t0 s Q) : Zn d [] [] ([] : zW) ([] : zW) xL_9 3 (some .int) xE_115 (xE_115.drop 44) [.ref 40, .int a1, .int a2, .null, .null, .null] [.int t0] s Q := by
  unfold v_115_44 at h
  exact zn_retI rfl h
set_option maxRecDepth 20000 in
theorem m_115_34_39 {d d0 : Nat} (hd : d = d0 + 8)  {a1 : Int32} {a2 : Int32} {t0 : Int32} {s : zS} {Q : Option Value → zS → Prop}  (h : v_115_34 (fun j => Zt d (wd 39 j) j) 39  a1 a2 t0 s Q) : Zn d [] [] ([] : zW) ([] : zW) xL_9 3 (some .int) xE_115 (xE_115.drop 34) [.ref 40, .int a1, .int a2, .null, .null, .null] [.int t0] s Q := by
  unfold v_115_34 at h
  exact zn_retI rfl h
set_option maxRecDepth 20000 in
theorem m_115_24_39 {d d0 : Nat} (hd : d = d0 + 8)  {a1 : Int32} {a2 : Int32} {t0 : Int32} {s : zS} {Q : Option Value → zS → Prop}  (h : v_115_24 (fun j => Zt d (wd 39 j) j) 39  a1 a2 t0 s Q) : Zn d [] [] ([] : zW) ([] : zW) xL_9 3 (some .int) xE_115 (xE_115.drop 24) [.ref 40, .int a1, .int a2, .null, .null, .null] [.int t0] s Q := by
  unfold v_115_24 at h
  exact zn_retI rfl h
set_option maxRecDepth 20000 in
theorem m_115_14_39 {d d0 : Nat} (hd : d = d0 + 8)  {a1 : Int32} {a2 : Int32} {t0 : Int32} {s : zS} {Q : Option Value → zS → Prop}  (h : v_115_14 (fun j => Zt d (wd 39 j) j) 39  a1 a2 t0 s Q) : Zn d [] [] ([] : zW) ([] : zW) xL_9 3 (some .int) xE_115 (xE_115.drop 14) [.ref 40, .int a1, .int a2, .null, .null, .null] [.int t0] s Q := by
  unfold v_115_14 at h
  exact zn_retI rfl h
set_option maxRecDepth 20000 in
theorem m_115_0_39 {d d0 : Nat} (hd : d = d0 + 8)  {a1 : Int32} {a2 : Int32} {s : zS} {Q : Option Value → zS → Prop}  (h : v_115_0 (fun j => Zt d (wd 39 j) j) 39  a1 a2 s Q) : Zn d [] [] ([] : zW) ([] : zW) xL_9 3 (some .int) xE_115 (xE_115.drop 0) [.ref 40, .int a1, .int a2, .null, .null, .null] [] s Q := by
  unfold v_115_0 at h
  refine zn_ld rfl rfl rfl ?_
  refine zn_get (v := .ref 41) rfl (zv_R (a := 40) rfl rfl) ?_
  refine zn_ld rfl rfl rfl ?_
  refine zn_row a1 [] (a := 41) hd rfl rfl rfl rfl ?_
  change Zn _ _ _ _ _ _ _ _ _ _ _ [.int (zg s 41 a1)] _ _
  by_cases hx : Int32.toInt (zg s 41 a1) = 102 ∨ Int32.toInt (zg s 41 a1) = 105 ∨ Int32.toInt (zg s 41 a1) = 109 ∨ Int32.toInt (zg s 41 a1) = 114 ∨ Int32.toInt (zg s 41 a1) = 115 ∨ Int32.toInt (zg s 41 a1) = 116
  · rcases hx with hy | hy | hy | hy | hy | hy
    · refine zn_sw ?_
      refine ⟨35, by rw [if_neg (by omega), hy]; rfl, ?_⟩
      replace h := h.2.1 hy
      refine zn_ld rfl rfl rfl ?_
      refine zn_ld rfl rfl rfl ?_
      refine zn_ld rfl rfl rfl ?_
      refine zn_c [.ref 1000004, .int a2, .int a1, .ref 40] (xo_push (.ref 1000004)) rfl rfl ?_
      refine zn_zt [.ref 40, .int a1, .int a2, .ref 1000004] [] rfl rfl rfl rfl rfl (Zt.imp h (fun v1 s2 h => ?_))
      obtain ⟨x3, rfl, h⟩ := h
      change Zn _ _ _ _ _ _ _ _ _ _ _ [.int x3] _ _
      refine zn_brP rfl rfl ⟨fun hcn => ?_, fun hcn => ?_⟩
      · replace h := h.1 ((i_eq (x := x3) (y := 0) rfl (show (0 : Int32).toInt = 0 by decide)).mp hcn)
        refine zn_c [.int 1] (xo_push (.int 1)) rfl rfl ?_
        exact m_115_44_39 hd  h
      · replace h := h.2 (fun q => hcn ((i_eq (x := x3) (y := 0) rfl (show (0 : Int32).toInt = 0 by decide)).mpr q))
        refine zn_c [.int 6] (xo_push (.int 6)) rfl rfl ?_
        refine zn_go rfl ?_
        exact m_115_44_39 hd  h
    · refine zn_sw ?_
      refine ⟨25, by rw [if_neg (by omega), hy]; rfl, ?_⟩
      replace h := h.2.2.1 hy
      refine zn_ld rfl rfl rfl ?_
      refine zn_ld rfl rfl rfl ?_
      refine zn_ld rfl rfl rfl ?_
      refine zn_c [.ref 1000003, .int a2, .int a1, .ref 40] (xo_push (.ref 1000003)) rfl rfl ?_
      refine zn_zt [.ref 40, .int a1, .int a2, .ref 1000003] [] rfl rfl rfl rfl rfl (Zt.imp h (fun v4 s5 h => ?_))
      obtain ⟨x6, rfl, h⟩ := h
      change Zn _ _ _ _ _ _ _ _ _ _ _ [.int x6] _ _
      refine zn_brP rfl rfl ⟨fun hcn => ?_, fun hcn => ?_⟩
      · replace h := h.1 ((i_eq (x := x6) (y := 0) rfl (show (0 : Int32).toInt = 0 by decide)).mp hcn)
        refine zn_c [.int 1] (xo_push (.int 1)) rfl rfl ?_
        exact m_115_34_39 hd  h
      · replace h := h.2 (fun q => hcn ((i_eq (x := x6) (y := 0) rfl (show (0 : Int32).toInt = 0 by decide)).mpr q))
        refine zn_c [.int 5] (xo_push (.int 5)) rfl rfl ?_
        refine zn_go rfl ?_
        exact m_115_34_39 hd  h
    · refine zn_sw ?_
      refine ⟨55, by rw [if_neg (by omega), hy]; rfl, ?_⟩
      replace h := h.2.2.2.1 hy
      refine zn_ld rfl rfl rfl ?_
      refine zn_ld rfl rfl rfl ?_
      refine zn_ld rfl rfl rfl ?_
      refine zn_c [.ref 1000006, .int a2, .int a1, .ref 40] (xo_push (.ref 1000006)) rfl rfl ?_
      refine zn_zt [.ref 40, .int a1, .int a2, .ref 1000006] [] rfl rfl rfl rfl rfl (Zt.imp h (fun v7 s8 h => ?_))
      obtain ⟨x9, rfl, h⟩ := h
      change Zn _ _ _ _ _ _ _ _ _ _ _ [.int x9] _ _
      refine zn_brP rfl rfl ⟨fun hcn => ?_, fun hcn => ?_⟩
      · replace h := h.1 ((i_eq (x := x9) (y := 0) rfl (show (0 : Int32).toInt = 0 by decide)).mp hcn)
        refine zn_c [.int 1] (xo_push (.int 1)) rfl rfl ?_
        exact m_115_64_39 hd  h
      · replace h := h.2 (fun q => hcn ((i_eq (x := x9) (y := 0) rfl (show (0 : Int32).toInt = 0 by decide)).mpr q))
        refine zn_c [.int 8] (xo_push (.int 8)) rfl rfl ?_
        refine zn_go rfl ?_
        exact m_115_64_39 hd  h
    · refine zn_sw ?_
      refine ⟨45, by rw [if_neg (by omega), hy]; rfl, ?_⟩
      replace h := h.2.2.2.2.1 hy
      refine zn_ld rfl rfl rfl ?_
      refine zn_ld rfl rfl rfl ?_
      refine zn_ld rfl rfl rfl ?_
      refine zn_c [.ref 1000005, .int a2, .int a1, .ref 40] (xo_push (.ref 1000005)) rfl rfl ?_
      refine zn_zt [.ref 40, .int a1, .int a2, .ref 1000005] [] rfl rfl rfl rfl rfl (Zt.imp h (fun v10 s11 h => ?_))
      obtain ⟨x12, rfl, h⟩ := h
      change Zn _ _ _ _ _ _ _ _ _ _ _ [.int x12] _ _
      refine zn_brP rfl rfl ⟨fun hcn => ?_, fun hcn => ?_⟩
      · replace h := h.1 ((i_eq (x := x12) (y := 0) rfl (show (0 : Int32).toInt = 0 by decide)).mp hcn)
        refine zn_c [.int 1] (xo_push (.int 1)) rfl rfl ?_
        exact m_115_54_39 hd  h
      · replace h := h.2 (fun q => hcn ((i_eq (x := x12) (y := 0) rfl (show (0 : Int32).toInt = 0 by decide)).mpr q))
        refine zn_c [.int 7] (xo_push (.int 7)) rfl rfl ?_
        refine zn_go rfl ?_
        exact m_115_54_39 hd  h
    · refine zn_sw ?_
      refine ⟨15, by rw [if_neg (by omega), hy]; rfl, ?_⟩
      replace h := h.2.2.2.2.2.1 hy
      refine zn_ld rfl rfl rfl ?_
      refine zn_ld rfl rfl rfl ?_
      refine zn_ld rfl rfl rfl ?_
      refine zn_c [.ref 1000002, .int a2, .int a1, .ref 40] (xo_push (.ref 1000002)) rfl rfl ?_
      refine zn_zt [.ref 40, .int a1, .int a2, .ref 1000002] [] rfl rfl rfl rfl rfl (Zt.imp h (fun v13 s14 h => ?_))
      obtain ⟨x15, rfl, h⟩ := h
      change Zn _ _ _ _ _ _ _ _ _ _ _ [.int x15] _ _
      refine zn_brP rfl rfl ⟨fun hcn => ?_, fun hcn => ?_⟩
      · replace h := h.1 ((i_eq (x := x15) (y := 0) rfl (show (0 : Int32).toInt = 0 by decide)).mp hcn)
        refine zn_c [.int 1] (xo_push (.int 1)) rfl rfl ?_
        exact m_115_24_39 hd  h
      · replace h := h.2 (fun q => hcn ((i_eq (x := x15) (y := 0) rfl (show (0 : Int32).toInt = 0 by decide)).mpr q))
        refine zn_c [.int 4] (xo_push (.int 4)) rfl rfl ?_
        refine zn_go rfl ?_
        exact m_115_24_39 hd  h
    · refine zn_sw ?_
      refine ⟨5, by rw [if_neg (by omega), hy]; rfl, ?_⟩
      replace h := h.2.2.2.2.2.2 hy
      refine zn_ld rfl rfl rfl ?_
      refine zn_ld rfl rfl rfl ?_
      refine zn_ld rfl rfl rfl ?_
      refine zn_c [.ref 1000001, .int a2, .int a1, .ref 40] (xo_push (.ref 1000001)) rfl rfl ?_
      refine zn_zt [.ref 40, .int a1, .int a2, .ref 1000001] [] rfl rfl rfl rfl rfl (Zt.imp h (fun v16 s17 h => ?_))
      obtain ⟨x18, rfl, h⟩ := h
      change Zn _ _ _ _ _ _ _ _ _ _ _ [.int x18] _ _
      refine zn_brP rfl rfl ⟨fun hcn => ?_, fun hcn => ?_⟩
      · replace h := h.1 ((i_eq (x := x18) (y := 0) rfl (show (0 : Int32).toInt = 0 by decide)).mp hcn)
        refine zn_c [.int 1] (xo_push (.int 1)) rfl rfl ?_
        exact m_115_14_39 hd  h
      · replace h := h.2 (fun q => hcn ((i_eq (x := x18) (y := 0) rfl (show (0 : Int32).toInt = 0 by decide)).mpr q))
        refine zn_c [.int 3] (xo_push (.int 3)) rfl rfl ?_
        refine zn_go rfl ?_
        exact m_115_14_39 hd  h
  · have hy : ¬ Int32.toInt (zg s 41 a1) = 102 ∧ ¬ Int32.toInt (zg s 41 a1) = 105 ∧ ¬ Int32.toInt (zg s 41 a1) = 109 ∧ ¬ Int32.toInt (zg s 41 a1) = 114 ∧ ¬ Int32.toInt (zg s 41 a1) = 115 ∧ ¬ Int32.toInt (zg s 41 a1) = 116 := by omega
    replace h := h.1 hy
    by_cases hz : Int32.toInt (zg s 41 a1) < 102 ∨ 116 < Int32.toInt (zg s 41 a1)
    · refine zn_sw ?_
      refine ⟨65, by rw [if_pos hz]; rfl, ?_⟩
      refine zn_c [.int 1] (xo_push (.int 1)) rfl rfl ?_
      exact zn_retI rfl h
    · have hw : Int32.toInt (zg s 41 a1) = 103 ∨ Int32.toInt (zg s 41 a1) = 104 ∨ Int32.toInt (zg s 41 a1) = 106 ∨ Int32.toInt (zg s 41 a1) = 107 ∨ Int32.toInt (zg s 41 a1) = 108 ∨ Int32.toInt (zg s 41 a1) = 110 ∨ Int32.toInt (zg s 41 a1) = 111 ∨ Int32.toInt (zg s 41 a1) = 112 ∨ Int32.toInt (zg s 41 a1) = 113 := by omega
      rcases hw with hw | hw | hw | hw | hw | hw | hw | hw | hw
      · refine zn_sw ?_
        refine ⟨65, by rw [if_neg hz, hw]; rfl, ?_⟩
        refine zn_c [.int 1] (xo_push (.int 1)) rfl rfl ?_
        exact zn_retI rfl h
      · refine zn_sw ?_
        refine ⟨65, by rw [if_neg hz, hw]; rfl, ?_⟩
        refine zn_c [.int 1] (xo_push (.int 1)) rfl rfl ?_
        exact zn_retI rfl h
      · refine zn_sw ?_
        refine ⟨65, by rw [if_neg hz, hw]; rfl, ?_⟩
        refine zn_c [.int 1] (xo_push (.int 1)) rfl rfl ?_
        exact zn_retI rfl h
      · refine zn_sw ?_
        refine ⟨65, by rw [if_neg hz, hw]; rfl, ?_⟩
        refine zn_c [.int 1] (xo_push (.int 1)) rfl rfl ?_
        exact zn_retI rfl h
      · refine zn_sw ?_
        refine ⟨65, by rw [if_neg hz, hw]; rfl, ?_⟩
        refine zn_c [.int 1] (xo_push (.int 1)) rfl rfl ?_
        exact zn_retI rfl h
      · refine zn_sw ?_
        refine ⟨65, by rw [if_neg hz, hw]; rfl, ?_⟩
        refine zn_c [.int 1] (xo_push (.int 1)) rfl rfl ?_
        exact zn_retI rfl h
      · refine zn_sw ?_
        refine ⟨65, by rw [if_neg hz, hw]; rfl, ?_⟩
        refine zn_c [.int 1] (xo_push (.int 1)) rfl rfl ?_
        exact zn_retI rfl h
      · refine zn_sw ?_
        refine ⟨65, by rw [if_neg hz, hw]; rfl, ?_⟩
        refine zn_c [.int 1] (xo_push (.int 1)) rfl rfl ?_
        exact zn_retI rfl h
      · refine zn_sw ?_
        refine ⟨65, by rw [if_neg hz, hw]; rfl, ?_⟩
        refine zn_c [.int 1] (xo_push (.int 1)) rfl rfl ?_
        exact zn_retI rfl h
theorem zq_115_39 {d : Nat} {a1 : Int32} {a2 : Int32} {s : zS} {Q : Option Value → zS → Prop} (h : v_115_0 (fun j => Zt (d + 8) (wd 39 j) j) 39 a1 a2 s Q) : Zt (d + 9) ([] : zW) 115 [.ref 40, .int a1, .int a2] s Q := zt_of (E := xE_115) (L := xL_9) (ml := 3) (ret := some .int) rfl rfl rfl (m_115_0_39 rfl h)
theorem zc_115 {d P : Nat} (hP : P = 3 ∨ P = 39) {a1 : Int32} {a2 : Int32} {s : zS} {Q : Option Value → zS → Prop} (h : v_115_0 (fun j => Zt (d + 8) (wd P j) j) P a1 a2 s Q) : Zt (d + 9) (wd P 115) 115 [.ref (P + 1), .int a1, .int a2] s Q := by
  rcases hP with rfl | rfl
  · exact zq_115_3 h
  · exact zq_115_39 h
/-! FeatherBench$Text.spells -/
def v_116_8 (T : Nat → List Value → zS → (Option Value → zS → Prop) → Prop) (P : Nat) (e : Nat) (R8 : Int32 → Int32 → Int32 → zS → Prop) (a1 : Int32) (a2 : Int32) (a4 : Int32) (s : zS) (Q : Option Value → zS → Prop) : Prop :=
  ((xnS (e % 1000000)).toInt ≤ a4.toInt → Q (some (.int 1)) s) ∧ (¬ ((xnS (e % 1000000)).toInt ≤ a4.toInt) → ∀ x1 : Int32, (-2147483648 ≤ a1.toInt + a4.toInt ∧ a1.toInt + a4.toInt ≤ 2147483647 → x1.toInt = a1.toInt + a4.toInt) → (xIn a4 (xsl.getD (e % 1000000) 0) = true) ∧ (((zg s (P + 2) x1).toInt = (xch (e % 1000000) a4).toInt → ∀ x2 : Int32, (-2147483648 ≤ a4.toInt + 1 ∧ a4.toInt + 1 ≤ 2147483647 → x2.toInt = a4.toInt + 1) → R8 a1 a2 x2 s) ∧ (¬ ((zg s (P + 2) x1).toInt = (xch (e % 1000000) a4).toInt) → Q (some (.int 0)) s)))
def vl_116_8 (T : Nat → List Value → zS → (Option Value → zS → Prop) → Prop) (P : Nat) (e : Nat)  (a1 : Int32) (a2 : Int32) (a4 : Int32) (s : zS) (Q : Option Value → zS → Prop) : Prop :=
  ∃ (I : Int32 → Int32 → Int32 → zS → Prop) (μ : Int32 → Int32 → Int32 → zS → Nat), I a1 a2 a4 s ∧ ∀ (a1 : Int32) (a2 : Int32) (a4 : Int32) (s : zS), I a1 a2 a4 s → v_116_8 T P e (fun a1' a2' a4' s' => I a1' a2' a4' s' ∧ μ a1' a2' a4' s' < μ a1 a2 a4 s) a1 a2 a4 s Q
def v_116_0 (T : Nat → List Value → zS → (Option Value → zS → Prop) → Prop) (P : Nat) (e : Nat)  (a1 : Int32) (a2 : Int32) (s : zS) (Q : Option Value → zS → Prop) : Prop :=
  (a2.toInt = (xnS (e % 1000000)).toInt → vl_116_8 T P e  a1 a2 0 s Q) ∧ (¬ (a2.toInt = (xnS (e % 1000000)).toInt) → Q (some (.int 0)) s)
set_option maxRecDepth 20000 in
theorem m_116_8_3e1000001 {d d0 : Nat} (hd : d = d0 + 8) {R8 : Int32 → Int32 → Int32 → zS → Prop} {a1 : Int32} {a2 : Int32} {a4 : Int32} {s : zS} {Q : Option Value → zS → Prop} (r8 : ∀ a1 a2 a4 s, R8 a1 a2 a4 s → Zn d [] [] ([] : zW) ([] : zW) xL_9 5 (some .boolean) xE_116 (xE_116.drop 8) [.ref 4, .int a1, .int a2, .ref 1000001, .int a4, .null, .null, .null, .null] [] s Q) (h : v_116_8 (fun j => Zt d (wd 3 j) j) 3 1000001 R8 a1 a2 a4 s Q) : Zn d [] [] ([] : zW) ([] : zW) xL_9 5 (some .boolean) xE_116 (xE_116.drop 8) [.ref 4, .int a1, .int a2, .ref 1000001, .int a4, .null, .null, .null, .null] [] s Q := by
  unfold v_116_8 at h
  refine zn_ld rfl rfl rfl ?_
  refine zn_ld rfl rfl rfl ?_
  refine zn_lenS rfl rfl ?_
  change Zn _ _ _ _ _ _ _ _ _ _ _ [.int (xnS (1000001 % 1000000)), .int a4] _ _
  refine zn_brP rfl rfl ⟨fun hcn => ?_, fun hcn => ?_⟩
  · replace h := h.1 ((i_le (x := xnS (1000001 % 1000000)) (y := a4) rfl rfl).mp hcn)
    refine zn_c [.int 1] (xo_push (.int 1)) rfl rfl ?_
    exact zn_retZ rfl rfl h
  · replace h := h.2 (fun q => hcn ((i_le (x := xnS (1000001 % 1000000)) (y := a4) rfl rfl).mpr q))
    refine zn_ld rfl rfl rfl ?_
    refine zn_get (v := .ref 5) rfl (zv_R (a := 4) rfl rfl) ?_
    refine zn_ld rfl rfl rfl ?_
    refine zn_ld rfl rfl rfl ?_
    replace h := h _ (i_add (x := a1) (y := a4) rfl rfl)
    refine zn_c [.int (a1 + a4), .ref 5] xo_iadd rfl rfl ?_
    refine zn_row (a1 + a4) [] (a := 5) hd rfl rfl rfl rfl ?_
    change Zn _ _ _ _ _ _ _ _ _ _ _ [.int (zg s 5 (a1 + a4))] _ _
    refine zn_ld rfl rfl rfl ?_
    refine zn_ld rfl rfl rfl ?_
    refine zn_chS rfl rfl rfl h.1 ?_
    replace h := h.2
    change Zn _ _ _ _ _ _ _ _ _ _ _ [.int (xch (1000001 % 1000000) a4), .int (zg s 5 (a1 + a4))] _ _
    refine zn_brP rfl rfl ⟨fun hcn => ?_, fun hcn => ?_⟩
    · replace h := h.1 ((i_eq (x := zg s 5 (a1 + a4)) (y := xch (1000001 % 1000000) a4) rfl rfl).mp hcn)
      replace h := h _ (i_add (x := a4) (y := 1) rfl (show (1 : Int32).toInt = 1 by decide))
      refine zn_inc [.ref 4, .int a1, .int a2, .ref 1000001, .int (a4 + 1), .null, .null, .null, .null] rfl rfl rfl rfl ?_
      refine zn_go rfl ?_
      exact r8 a1 a2 (a4 + 1) s h
    · replace h := h.2 (fun q => hcn ((i_eq (x := zg s 5 (a1 + a4)) (y := xch (1000001 % 1000000) a4) rfl rfl).mpr q))
      refine zn_c [.int 0] (xo_push (.int 0)) rfl rfl ?_
      exact zn_retZ rfl rfl h
theorem ml_116_8_3e1000001 {d d0 : Nat} (hd : d = d0 + 8)  {a1 : Int32} {a2 : Int32} {a4 : Int32} {s : zS} {Q : Option Value → zS → Prop}  (h : vl_116_8 (fun j => Zt d (wd 3 j) j) 3 1000001  a1 a2 a4 s Q) : Zn d [] [] ([] : zW) ([] : zW) xL_9 5 (some .boolean) xE_116 (xE_116.drop 8) [.ref 4, .int a1, .int a2, .ref 1000001, .int a4, .null, .null, .null, .null] [] s Q := by
  obtain ⟨I, μ, h0, h1⟩ := h
  have key : ∀ (n : Nat) (a1 : Int32) (a2 : Int32) (a4 : Int32) (s : zS), μ a1 a2 a4 s = n → I a1 a2 a4 s → Zn d [] [] ([] : zW) ([] : zW) xL_9 5 (some .boolean) xE_116 (xE_116.drop 8) [.ref 4, .int a1, .int a2, .ref 1000001, .int a4, .null, .null, .null, .null] [] s Q := by
    intro n
    induction n using Nat.strongRecOn with
    | ind n ih =>
      intro a1 a2 a4 s e hI
      exact m_116_8_3e1000001 hd (fun a1' a2' a4' s' q => ih _ (by rw [← e]; exact q.2) a1' a2' a4' s' rfl q.1) (h1 a1 a2 a4 s hI)
  exact key _ a1 a2 a4 s rfl h0
set_option maxRecDepth 20000 in
theorem m_116_0_3e1000001 {d d0 : Nat} (hd : d = d0 + 8)  {a1 : Int32} {a2 : Int32} {s : zS} {Q : Option Value → zS → Prop}  (h : v_116_0 (fun j => Zt d (wd 3 j) j) 3 1000001  a1 a2 s Q) : Zn d [] [] ([] : zW) ([] : zW) xL_9 5 (some .boolean) xE_116 (xE_116.drop 0) [.ref 4, .int a1, .int a2, .ref 1000001, .null, .null, .null, .null, .null] [] s Q := by
  unfold v_116_0 at h
  refine zn_ld rfl rfl rfl ?_
  refine zn_ld rfl rfl rfl ?_
  refine zn_lenS rfl rfl ?_
  change Zn _ _ _ _ _ _ _ _ _ _ _ [.int (xnS (1000001 % 1000000)), .int a2] _ _
  refine zn_brP rfl rfl ⟨fun hcn => ?_, fun hcn => ?_⟩
  · replace h := h.1 ((i_eq (x := a2) (y := xnS (1000001 % 1000000)) rfl rfl).mp hcn)
    refine zn_c [.int 0] (xo_push (.int 0)) rfl rfl ?_
    refine zn_st [.ref 4, .int a1, .int a2, .ref 1000001, .int 0, .null, .null, .null, .null] rfl rfl rfl ?_
    exact ml_116_8_3e1000001 hd  h
  · replace h := h.2 (fun q => hcn ((i_eq (x := a2) (y := xnS (1000001 % 1000000)) rfl rfl).mpr q))
    refine zn_c [.int 0] (xo_push (.int 0)) rfl rfl ?_
    exact zn_retZ rfl rfl h
theorem zq_116_3e1000001 {d : Nat} {a1 : Int32} {a2 : Int32} {s : zS} {Q : Option Value → zS → Prop} (h : v_116_0 (fun j => Zt (d + 8) (wd 3 j) j) 3 1000001 a1 a2 s Q) : Zt (d + 9) ([] : zW) 116 [.ref 4, .int a1, .int a2, .ref 1000001] s Q := zt_of (E := xE_116) (L := xL_9) (ml := 5) (ret := some .boolean) rfl rfl rfl (m_116_0_3e1000001 rfl h)
set_option maxRecDepth 20000 in
theorem m_116_8_3e1000002 {d d0 : Nat} (hd : d = d0 + 8) {R8 : Int32 → Int32 → Int32 → zS → Prop} {a1 : Int32} {a2 : Int32} {a4 : Int32} {s : zS} {Q : Option Value → zS → Prop} (r8 : ∀ a1 a2 a4 s, R8 a1 a2 a4 s → Zn d [] [] ([] : zW) ([] : zW) xL_9 5 (some .boolean) xE_116 (xE_116.drop 8) [.ref 4, .int a1, .int a2, .ref 1000002, .int a4, .null, .null, .null, .null] [] s Q) (h : v_116_8 (fun j => Zt d (wd 3 j) j) 3 1000002 R8 a1 a2 a4 s Q) : Zn d [] [] ([] : zW) ([] : zW) xL_9 5 (some .boolean) xE_116 (xE_116.drop 8) [.ref 4, .int a1, .int a2, .ref 1000002, .int a4, .null, .null, .null, .null] [] s Q := by
  unfold v_116_8 at h
  refine zn_ld rfl rfl rfl ?_
  refine zn_ld rfl rfl rfl ?_
  refine zn_lenS rfl rfl ?_
  change Zn _ _ _ _ _ _ _ _ _ _ _ [.int (xnS (1000002 % 1000000)), .int a4] _ _
  refine zn_brP rfl rfl ⟨fun hcn => ?_, fun hcn => ?_⟩
  · replace h := h.1 ((i_le (x := xnS (1000002 % 1000000)) (y := a4) rfl rfl).mp hcn)
    refine zn_c [.int 1] (xo_push (.int 1)) rfl rfl ?_
    exact zn_retZ rfl rfl h
  · replace h := h.2 (fun q => hcn ((i_le (x := xnS (1000002 % 1000000)) (y := a4) rfl rfl).mpr q))
    refine zn_ld rfl rfl rfl ?_
    refine zn_get (v := .ref 5) rfl (zv_R (a := 4) rfl rfl) ?_
    refine zn_ld rfl rfl rfl ?_
    refine zn_ld rfl rfl rfl ?_
    replace h := h _ (i_add (x := a1) (y := a4) rfl rfl)
    refine zn_c [.int (a1 + a4), .ref 5] xo_iadd rfl rfl ?_
    refine zn_row (a1 + a4) [] (a := 5) hd rfl rfl rfl rfl ?_
    change Zn _ _ _ _ _ _ _ _ _ _ _ [.int (zg s 5 (a1 + a4))] _ _
    refine zn_ld rfl rfl rfl ?_
    refine zn_ld rfl rfl rfl ?_
    refine zn_chS rfl rfl rfl h.1 ?_
    replace h := h.2
    change Zn _ _ _ _ _ _ _ _ _ _ _ [.int (xch (1000002 % 1000000) a4), .int (zg s 5 (a1 + a4))] _ _
    refine zn_brP rfl rfl ⟨fun hcn => ?_, fun hcn => ?_⟩
    · replace h := h.1 ((i_eq (x := zg s 5 (a1 + a4)) (y := xch (1000002 % 1000000) a4) rfl rfl).mp hcn)
      replace h := h _ (i_add (x := a4) (y := 1) rfl (show (1 : Int32).toInt = 1 by decide))
      refine zn_inc [.ref 4, .int a1, .int a2, .ref 1000002, .int (a4 + 1), .null, .null, .null, .null] rfl rfl rfl rfl ?_
      refine zn_go rfl ?_
      exact r8 a1 a2 (a4 + 1) s h
    · replace h := h.2 (fun q => hcn ((i_eq (x := zg s 5 (a1 + a4)) (y := xch (1000002 % 1000000) a4) rfl rfl).mpr q))
      refine zn_c [.int 0] (xo_push (.int 0)) rfl rfl ?_
      exact zn_retZ rfl rfl h
theorem ml_116_8_3e1000002 {d d0 : Nat} (hd : d = d0 + 8)  {a1 : Int32} {a2 : Int32} {a4 : Int32} {s : zS} {Q : Option Value → zS → Prop}  (h : vl_116_8 (fun j => Zt d (wd 3 j) j) 3 1000002  a1 a2 a4 s Q) : Zn d [] [] ([] : zW) ([] : zW) xL_9 5 (some .boolean) xE_116 (xE_116.drop 8) [.ref 4, .int a1, .int a2, .ref 1000002, .int a4, .null, .null, .null, .null] [] s Q := by
  obtain ⟨I, μ, h0, h1⟩ := h
  have key : ∀ (n : Nat) (a1 : Int32) (a2 : Int32) (a4 : Int32) (s : zS), μ a1 a2 a4 s = n → I a1 a2 a4 s → Zn d [] [] ([] : zW) ([] : zW) xL_9 5 (some .boolean) xE_116 (xE_116.drop 8) [.ref 4, .int a1, .int a2, .ref 1000002, .int a4, .null, .null, .null, .null] [] s Q := by
    intro n
    induction n using Nat.strongRecOn with
    | ind n ih =>
      intro a1 a2 a4 s e hI
      exact m_116_8_3e1000002 hd (fun a1' a2' a4' s' q => ih _ (by rw [← e]; exact q.2) a1' a2' a4' s' rfl q.1) (h1 a1 a2 a4 s hI)
  exact key _ a1 a2 a4 s rfl h0
set_option maxRecDepth 20000 in
theorem m_116_0_3e1000002 {d d0 : Nat} (hd : d = d0 + 8)  {a1 : Int32} {a2 : Int32} {s : zS} {Q : Option Value → zS → Prop}  (h : v_116_0 (fun j => Zt d (wd 3 j) j) 3 1000002  a1 a2 s Q) : Zn d [] [] ([] : zW) ([] : zW) xL_9 5 (some .boolean) xE_116 (xE_116.drop 0) [.ref 4, .int a1, .int a2, .ref 1000002, .null, .null, .null, .null, .null] [] s Q := by
  unfold v_116_0 at h
  refine zn_ld rfl rfl rfl ?_
  refine zn_ld rfl rfl rfl ?_
  refine zn_lenS rfl rfl ?_
  change Zn _ _ _ _ _ _ _ _ _ _ _ [.int (xnS (1000002 % 1000000)), .int a2] _ _
  refine zn_brP rfl rfl ⟨fun hcn => ?_, fun hcn => ?_⟩
  · replace h := h.1 ((i_eq (x := a2) (y := xnS (1000002 % 1000000)) rfl rfl).mp hcn)
    refine zn_c [.int 0] (xo_push (.int 0)) rfl rfl ?_
    refine zn_st [.ref 4, .int a1, .int a2, .ref 1000002, .int 0, .null, .null, .null, .null] rfl rfl rfl ?_
    exact ml_116_8_3e1000002 hd  h
  · replace h := h.2 (fun q => hcn ((i_eq (x := a2) (y := xnS (1000002 % 1000000)) rfl rfl).mpr q))
    refine zn_c [.int 0] (xo_push (.int 0)) rfl rfl ?_
    exact zn_retZ rfl rfl h
theorem zq_116_3e1000002 {d : Nat} {a1 : Int32} {a2 : Int32} {s : zS} {Q : Option Value → zS → Prop} (h : v_116_0 (fun j => Zt (d + 8) (wd 3 j) j) 3 1000002 a1 a2 s Q) : Zt (d + 9) ([] : zW) 116 [.ref 4, .int a1, .int a2, .ref 1000002] s Q := zt_of (E := xE_116) (L := xL_9) (ml := 5) (ret := some .boolean) rfl rfl rfl (m_116_0_3e1000002 rfl h)
set_option maxRecDepth 20000 in
theorem m_116_8_3e1000003 {d d0 : Nat} (hd : d = d0 + 8) {R8 : Int32 → Int32 → Int32 → zS → Prop} {a1 : Int32} {a2 : Int32} {a4 : Int32} {s : zS} {Q : Option Value → zS → Prop} (r8 : ∀ a1 a2 a4 s, R8 a1 a2 a4 s → Zn d [] [] ([] : zW) ([] : zW) xL_9 5 (some .boolean) xE_116 (xE_116.drop 8) [.ref 4, .int a1, .int a2, .ref 1000003, .int a4, .null, .null, .null, .null] [] s Q) (h : v_116_8 (fun j => Zt d (wd 3 j) j) 3 1000003 R8 a1 a2 a4 s Q) : Zn d [] [] ([] : zW) ([] : zW) xL_9 5 (some .boolean) xE_116 (xE_116.drop 8) [.ref 4, .int a1, .int a2, .ref 1000003, .int a4, .null, .null, .null, .null] [] s Q := by
  unfold v_116_8 at h
  refine zn_ld rfl rfl rfl ?_
  refine zn_ld rfl rfl rfl ?_
  refine zn_lenS rfl rfl ?_
  change Zn _ _ _ _ _ _ _ _ _ _ _ [.int (xnS (1000003 % 1000000)), .int a4] _ _
  refine zn_brP rfl rfl ⟨fun hcn => ?_, fun hcn => ?_⟩
  · replace h := h.1 ((i_le (x := xnS (1000003 % 1000000)) (y := a4) rfl rfl).mp hcn)
    refine zn_c [.int 1] (xo_push (.int 1)) rfl rfl ?_
    exact zn_retZ rfl rfl h
  · replace h := h.2 (fun q => hcn ((i_le (x := xnS (1000003 % 1000000)) (y := a4) rfl rfl).mpr q))
    refine zn_ld rfl rfl rfl ?_
    refine zn_get (v := .ref 5) rfl (zv_R (a := 4) rfl rfl) ?_
    refine zn_ld rfl rfl rfl ?_
    refine zn_ld rfl rfl rfl ?_
    replace h := h _ (i_add (x := a1) (y := a4) rfl rfl)
    refine zn_c [.int (a1 + a4), .ref 5] xo_iadd rfl rfl ?_
    refine zn_row (a1 + a4) [] (a := 5) hd rfl rfl rfl rfl ?_
    change Zn _ _ _ _ _ _ _ _ _ _ _ [.int (zg s 5 (a1 + a4))] _ _
    refine zn_ld rfl rfl rfl ?_
    refine zn_ld rfl rfl rfl ?_
    refine zn_chS rfl rfl rfl h.1 ?_
    replace h := h.2
    change Zn _ _ _ _ _ _ _ _ _ _ _ [.int (xch (1000003 % 1000000) a4), .int (zg s 5 (a1 + a4))] _ _
    refine zn_brP rfl rfl ⟨fun hcn => ?_, fun hcn => ?_⟩
    · replace h := h.1 ((i_eq (x := zg s 5 (a1 + a4)) (y := xch (1000003 % 1000000) a4) rfl rfl).mp hcn)
      replace h := h _ (i_add (x := a4) (y := 1) rfl (show (1 : Int32).toInt = 1 by decide))
      refine zn_inc [.ref 4, .int a1, .int a2, .ref 1000003, .int (a4 + 1), .null, .null, .null, .null] rfl rfl rfl rfl ?_
      refine zn_go rfl ?_
      exact r8 a1 a2 (a4 + 1) s h
    · replace h := h.2 (fun q => hcn ((i_eq (x := zg s 5 (a1 + a4)) (y := xch (1000003 % 1000000) a4) rfl rfl).mpr q))
      refine zn_c [.int 0] (xo_push (.int 0)) rfl rfl ?_
      exact zn_retZ rfl rfl h
theorem ml_116_8_3e1000003 {d d0 : Nat} (hd : d = d0 + 8)  {a1 : Int32} {a2 : Int32} {a4 : Int32} {s : zS} {Q : Option Value → zS → Prop}  (h : vl_116_8 (fun j => Zt d (wd 3 j) j) 3 1000003  a1 a2 a4 s Q) : Zn d [] [] ([] : zW) ([] : zW) xL_9 5 (some .boolean) xE_116 (xE_116.drop 8) [.ref 4, .int a1, .int a2, .ref 1000003, .int a4, .null, .null, .null, .null] [] s Q := by
  obtain ⟨I, μ, h0, h1⟩ := h
  have key : ∀ (n : Nat) (a1 : Int32) (a2 : Int32) (a4 : Int32) (s : zS), μ a1 a2 a4 s = n → I a1 a2 a4 s → Zn d [] [] ([] : zW) ([] : zW) xL_9 5 (some .boolean) xE_116 (xE_116.drop 8) [.ref 4, .int a1, .int a2, .ref 1000003, .int a4, .null, .null, .null, .null] [] s Q := by
    intro n
    induction n using Nat.strongRecOn with
    | ind n ih =>
      intro a1 a2 a4 s e hI
      exact m_116_8_3e1000003 hd (fun a1' a2' a4' s' q => ih _ (by rw [← e]; exact q.2) a1' a2' a4' s' rfl q.1) (h1 a1 a2 a4 s hI)
  exact key _ a1 a2 a4 s rfl h0
set_option maxRecDepth 20000 in
theorem m_116_0_3e1000003 {d d0 : Nat} (hd : d = d0 + 8)  {a1 : Int32} {a2 : Int32} {s : zS} {Q : Option Value → zS → Prop}  (h : v_116_0 (fun j => Zt d (wd 3 j) j) 3 1000003  a1 a2 s Q) : Zn d [] [] ([] : zW) ([] : zW) xL_9 5 (some .boolean) xE_116 (xE_116.drop 0) [.ref 4, .int a1, .int a2, .ref 1000003, .null, .null, .null, .null, .null] [] s Q := by
  unfold v_116_0 at h
  refine zn_ld rfl rfl rfl ?_
  refine zn_ld rfl rfl rfl ?_
  refine zn_lenS rfl rfl ?_
  change Zn _ _ _ _ _ _ _ _ _ _ _ [.int (xnS (1000003 % 1000000)), .int a2] _ _
  refine zn_brP rfl rfl ⟨fun hcn => ?_, fun hcn => ?_⟩
  · replace h := h.1 ((i_eq (x := a2) (y := xnS (1000003 % 1000000)) rfl rfl).mp hcn)
    refine zn_c [.int 0] (xo_push (.int 0)) rfl rfl ?_
    refine zn_st [.ref 4, .int a1, .int a2, .ref 1000003, .int 0, .null, .null, .null, .null] rfl rfl rfl ?_
    exact ml_116_8_3e1000003 hd  h
  · replace h := h.2 (fun q => hcn ((i_eq (x := a2) (y := xnS (1000003 % 1000000)) rfl rfl).mpr q))
    refine zn_c [.int 0] (xo_push (.int 0)) rfl rfl ?_
    exact zn_retZ rfl rfl h
theorem zq_116_3e1000003 {d : Nat} {a1 : Int32} {a2 : Int32} {s : zS} {Q : Option Value → zS → Prop} (h : v_116_0 (fun j => Zt (d + 8) (wd 3 j) j) 3 1000003 a1 a2 s Q) : Zt (d + 9) ([] : zW) 116 [.ref 4, .int a1, .int a2, .ref 1000003] s Q := zt_of (E := xE_116) (L := xL_9) (ml := 5) (ret := some .boolean) rfl rfl rfl (m_116_0_3e1000003 rfl h)
set_option maxRecDepth 20000 in
theorem m_116_8_3e1000004 {d d0 : Nat} (hd : d = d0 + 8) {R8 : Int32 → Int32 → Int32 → zS → Prop} {a1 : Int32} {a2 : Int32} {a4 : Int32} {s : zS} {Q : Option Value → zS → Prop} (r8 : ∀ a1 a2 a4 s, R8 a1 a2 a4 s → Zn d [] [] ([] : zW) ([] : zW) xL_9 5 (some .boolean) xE_116 (xE_116.drop 8) [.ref 4, .int a1, .int a2, .ref 1000004, .int a4, .null, .null, .null, .null] [] s Q) (h : v_116_8 (fun j => Zt d (wd 3 j) j) 3 1000004 R8 a1 a2 a4 s Q) : Zn d [] [] ([] : zW) ([] : zW) xL_9 5 (some .boolean) xE_116 (xE_116.drop 8) [.ref 4, .int a1, .int a2, .ref 1000004, .int a4, .null, .null, .null, .null] [] s Q := by
  unfold v_116_8 at h
  refine zn_ld rfl rfl rfl ?_
  refine zn_ld rfl rfl rfl ?_
  refine zn_lenS rfl rfl ?_
  change Zn _ _ _ _ _ _ _ _ _ _ _ [.int (xnS (1000004 % 1000000)), .int a4] _ _
  refine zn_brP rfl rfl ⟨fun hcn => ?_, fun hcn => ?_⟩
  · replace h := h.1 ((i_le (x := xnS (1000004 % 1000000)) (y := a4) rfl rfl).mp hcn)
    refine zn_c [.int 1] (xo_push (.int 1)) rfl rfl ?_
    exact zn_retZ rfl rfl h
  · replace h := h.2 (fun q => hcn ((i_le (x := xnS (1000004 % 1000000)) (y := a4) rfl rfl).mpr q))
    refine zn_ld rfl rfl rfl ?_
    refine zn_get (v := .ref 5) rfl (zv_R (a := 4) rfl rfl) ?_
    refine zn_ld rfl rfl rfl ?_
    refine zn_ld rfl rfl rfl ?_
    replace h := h _ (i_add (x := a1) (y := a4) rfl rfl)
    refine zn_c [.int (a1 + a4), .ref 5] xo_iadd rfl rfl ?_
    refine zn_row (a1 + a4) [] (a := 5) hd rfl rfl rfl rfl ?_
    change Zn _ _ _ _ _ _ _ _ _ _ _ [.int (zg s 5 (a1 + a4))] _ _
    refine zn_ld rfl rfl rfl ?_
    refine zn_ld rfl rfl rfl ?_
    refine zn_chS rfl rfl rfl h.1 ?_
    replace h := h.2
    change Zn _ _ _ _ _ _ _ _ _ _ _ [.int (xch (1000004 % 1000000) a4), .int (zg s 5 (a1 + a4))] _ _
    refine zn_brP rfl rfl ⟨fun hcn => ?_, fun hcn => ?_⟩
    · replace h := h.1 ((i_eq (x := zg s 5 (a1 + a4)) (y := xch (1000004 % 1000000) a4) rfl rfl).mp hcn)
      replace h := h _ (i_add (x := a4) (y := 1) rfl (show (1 : Int32).toInt = 1 by decide))
      refine zn_inc [.ref 4, .int a1, .int a2, .ref 1000004, .int (a4 + 1), .null, .null, .null, .null] rfl rfl rfl rfl ?_
      refine zn_go rfl ?_
      exact r8 a1 a2 (a4 + 1) s h
    · replace h := h.2 (fun q => hcn ((i_eq (x := zg s 5 (a1 + a4)) (y := xch (1000004 % 1000000) a4) rfl rfl).mpr q))
      refine zn_c [.int 0] (xo_push (.int 0)) rfl rfl ?_
      exact zn_retZ rfl rfl h
theorem ml_116_8_3e1000004 {d d0 : Nat} (hd : d = d0 + 8)  {a1 : Int32} {a2 : Int32} {a4 : Int32} {s : zS} {Q : Option Value → zS → Prop}  (h : vl_116_8 (fun j => Zt d (wd 3 j) j) 3 1000004  a1 a2 a4 s Q) : Zn d [] [] ([] : zW) ([] : zW) xL_9 5 (some .boolean) xE_116 (xE_116.drop 8) [.ref 4, .int a1, .int a2, .ref 1000004, .int a4, .null, .null, .null, .null] [] s Q := by
  obtain ⟨I, μ, h0, h1⟩ := h
  have key : ∀ (n : Nat) (a1 : Int32) (a2 : Int32) (a4 : Int32) (s : zS), μ a1 a2 a4 s = n → I a1 a2 a4 s → Zn d [] [] ([] : zW) ([] : zW) xL_9 5 (some .boolean) xE_116 (xE_116.drop 8) [.ref 4, .int a1, .int a2, .ref 1000004, .int a4, .null, .null, .null, .null] [] s Q := by
    intro n
    induction n using Nat.strongRecOn with
    | ind n ih =>
      intro a1 a2 a4 s e hI
      exact m_116_8_3e1000004 hd (fun a1' a2' a4' s' q => ih _ (by rw [← e]; exact q.2) a1' a2' a4' s' rfl q.1) (h1 a1 a2 a4 s hI)
  exact key _ a1 a2 a4 s rfl h0
set_option maxRecDepth 20000 in
theorem m_116_0_3e1000004 {d d0 : Nat} (hd : d = d0 + 8)  {a1 : Int32} {a2 : Int32} {s : zS} {Q : Option Value → zS → Prop}  (h : v_116_0 (fun j => Zt d (wd 3 j) j) 3 1000004  a1 a2 s Q) : Zn d [] [] ([] : zW) ([] : zW) xL_9 5 (some .boolean) xE_116 (xE_116.drop 0) [.ref 4, .int a1, .int a2, .ref 1000004, .null, .null, .null, .null, .null] [] s Q := by
  unfold v_116_0 at h
  refine zn_ld rfl rfl rfl ?_
  refine zn_ld rfl rfl rfl ?_
  refine zn_lenS rfl rfl ?_
  change Zn _ _ _ _ _ _ _ _ _ _ _ [.int (xnS (1000004 % 1000000)), .int a2] _ _
  refine zn_brP rfl rfl ⟨fun hcn => ?_, fun hcn => ?_⟩
  · replace h := h.1 ((i_eq (x := a2) (y := xnS (1000004 % 1000000)) rfl rfl).mp hcn)
    refine zn_c [.int 0] (xo_push (.int 0)) rfl rfl ?_
    refine zn_st [.ref 4, .int a1, .int a2, .ref 1000004, .int 0, .null, .null, .null, .null] rfl rfl rfl ?_
    exact ml_116_8_3e1000004 hd  h
  · replace h := h.2 (fun q => hcn ((i_eq (x := a2) (y := xnS (1000004 % 1000000)) rfl rfl).mpr q))
    refine zn_c [.int 0] (xo_push (.int 0)) rfl rfl ?_
    exact zn_retZ rfl rfl h
theorem zq_116_3e1000004 {d : Nat} {a1 : Int32} {a2 : Int32} {s : zS} {Q : Option Value → zS → Prop} (h : v_116_0 (fun j => Zt (d + 8) (wd 3 j) j) 3 1000004 a1 a2 s Q) : Zt (d + 9) ([] : zW) 116 [.ref 4, .int a1, .int a2, .ref 1000004] s Q := zt_of (E := xE_116) (L := xL_9) (ml := 5) (ret := some .boolean) rfl rfl rfl (m_116_0_3e1000004 rfl h)
set_option maxRecDepth 20000 in
theorem m_116_8_3e1000005 {d d0 : Nat} (hd : d = d0 + 8) {R8 : Int32 → Int32 → Int32 → zS → Prop} {a1 : Int32} {a2 : Int32} {a4 : Int32} {s : zS} {Q : Option Value → zS → Prop} (r8 : ∀ a1 a2 a4 s, R8 a1 a2 a4 s → Zn d [] [] ([] : zW) ([] : zW) xL_9 5 (some .boolean) xE_116 (xE_116.drop 8) [.ref 4, .int a1, .int a2, .ref 1000005, .int a4, .null, .null, .null, .null] [] s Q) (h : v_116_8 (fun j => Zt d (wd 3 j) j) 3 1000005 R8 a1 a2 a4 s Q) : Zn d [] [] ([] : zW) ([] : zW) xL_9 5 (some .boolean) xE_116 (xE_116.drop 8) [.ref 4, .int a1, .int a2, .ref 1000005, .int a4, .null, .null, .null, .null] [] s Q := by
  unfold v_116_8 at h
  refine zn_ld rfl rfl rfl ?_
  refine zn_ld rfl rfl rfl ?_
  refine zn_lenS rfl rfl ?_
  change Zn _ _ _ _ _ _ _ _ _ _ _ [.int (xnS (1000005 % 1000000)), .int a4] _ _
  refine zn_brP rfl rfl ⟨fun hcn => ?_, fun hcn => ?_⟩
  · replace h := h.1 ((i_le (x := xnS (1000005 % 1000000)) (y := a4) rfl rfl).mp hcn)
    refine zn_c [.int 1] (xo_push (.int 1)) rfl rfl ?_
    exact zn_retZ rfl rfl h
  · replace h := h.2 (fun q => hcn ((i_le (x := xnS (1000005 % 1000000)) (y := a4) rfl rfl).mpr q))
    refine zn_ld rfl rfl rfl ?_
    refine zn_get (v := .ref 5) rfl (zv_R (a := 4) rfl rfl) ?_
    refine zn_ld rfl rfl rfl ?_
    refine zn_ld rfl rfl rfl ?_
    replace h := h _ (i_add (x := a1) (y := a4) rfl rfl)
    refine zn_c [.int (a1 + a4), .ref 5] xo_iadd rfl rfl ?_
    refine zn_row (a1 + a4) [] (a := 5) hd rfl rfl rfl rfl ?_
    change Zn _ _ _ _ _ _ _ _ _ _ _ [.int (zg s 5 (a1 + a4))] _ _
    refine zn_ld rfl rfl rfl ?_
    refine zn_ld rfl rfl rfl ?_
    refine zn_chS rfl rfl rfl h.1 ?_
    replace h := h.2
    change Zn _ _ _ _ _ _ _ _ _ _ _ [.int (xch (1000005 % 1000000) a4), .int (zg s 5 (a1 + a4))] _ _
    refine zn_brP rfl rfl ⟨fun hcn => ?_, fun hcn => ?_⟩
    · replace h := h.1 ((i_eq (x := zg s 5 (a1 + a4)) (y := xch (1000005 % 1000000) a4) rfl rfl).mp hcn)
      replace h := h _ (i_add (x := a4) (y := 1) rfl (show (1 : Int32).toInt = 1 by decide))
      refine zn_inc [.ref 4, .int a1, .int a2, .ref 1000005, .int (a4 + 1), .null, .null, .null, .null] rfl rfl rfl rfl ?_
      refine zn_go rfl ?_
      exact r8 a1 a2 (a4 + 1) s h
    · replace h := h.2 (fun q => hcn ((i_eq (x := zg s 5 (a1 + a4)) (y := xch (1000005 % 1000000) a4) rfl rfl).mpr q))
      refine zn_c [.int 0] (xo_push (.int 0)) rfl rfl ?_
      exact zn_retZ rfl rfl h
theorem ml_116_8_3e1000005 {d d0 : Nat} (hd : d = d0 + 8)  {a1 : Int32} {a2 : Int32} {a4 : Int32} {s : zS} {Q : Option Value → zS → Prop}  (h : vl_116_8 (fun j => Zt d (wd 3 j) j) 3 1000005  a1 a2 a4 s Q) : Zn d [] [] ([] : zW) ([] : zW) xL_9 5 (some .boolean) xE_116 (xE_116.drop 8) [.ref 4, .int a1, .int a2, .ref 1000005, .int a4, .null, .null, .null, .null] [] s Q := by
  obtain ⟨I, μ, h0, h1⟩ := h
  have key : ∀ (n : Nat) (a1 : Int32) (a2 : Int32) (a4 : Int32) (s : zS), μ a1 a2 a4 s = n → I a1 a2 a4 s → Zn d [] [] ([] : zW) ([] : zW) xL_9 5 (some .boolean) xE_116 (xE_116.drop 8) [.ref 4, .int a1, .int a2, .ref 1000005, .int a4, .null, .null, .null, .null] [] s Q := by
    intro n
    induction n using Nat.strongRecOn with
    | ind n ih =>
      intro a1 a2 a4 s e hI
      exact m_116_8_3e1000005 hd (fun a1' a2' a4' s' q => ih _ (by rw [← e]; exact q.2) a1' a2' a4' s' rfl q.1) (h1 a1 a2 a4 s hI)
  exact key _ a1 a2 a4 s rfl h0
set_option maxRecDepth 20000 in
theorem m_116_0_3e1000005 {d d0 : Nat} (hd : d = d0 + 8)  {a1 : Int32} {a2 : Int32} {s : zS} {Q : Option Value → zS → Prop}  (h : v_116_0 (fun j => Zt d (wd 3 j) j) 3 1000005  a1 a2 s Q) : Zn d [] [] ([] : zW) ([] : zW) xL_9 5 (some .boolean) xE_116 (xE_116.drop 0) [.ref 4, .int a1, .int a2, .ref 1000005, .null, .null, .null, .null, .null] [] s Q := by
  unfold v_116_0 at h
  refine zn_ld rfl rfl rfl ?_
  refine zn_ld rfl rfl rfl ?_
  refine zn_lenS rfl rfl ?_
  change Zn _ _ _ _ _ _ _ _ _ _ _ [.int (xnS (1000005 % 1000000)), .int a2] _ _
  refine zn_brP rfl rfl ⟨fun hcn => ?_, fun hcn => ?_⟩
  · replace h := h.1 ((i_eq (x := a2) (y := xnS (1000005 % 1000000)) rfl rfl).mp hcn)
    refine zn_c [.int 0] (xo_push (.int 0)) rfl rfl ?_
    refine zn_st [.ref 4, .int a1, .int a2, .ref 1000005, .int 0, .null, .null, .null, .null] rfl rfl rfl ?_
    exact ml_116_8_3e1000005 hd  h
  · replace h := h.2 (fun q => hcn ((i_eq (x := a2) (y := xnS (1000005 % 1000000)) rfl rfl).mpr q))
    refine zn_c [.int 0] (xo_push (.int 0)) rfl rfl ?_
    exact zn_retZ rfl rfl h
theorem zq_116_3e1000005 {d : Nat} {a1 : Int32} {a2 : Int32} {s : zS} {Q : Option Value → zS → Prop} (h : v_116_0 (fun j => Zt (d + 8) (wd 3 j) j) 3 1000005 a1 a2 s Q) : Zt (d + 9) ([] : zW) 116 [.ref 4, .int a1, .int a2, .ref 1000005] s Q := zt_of (E := xE_116) (L := xL_9) (ml := 5) (ret := some .boolean) rfl rfl rfl (m_116_0_3e1000005 rfl h)
set_option maxRecDepth 20000 in
theorem m_116_8_3e1000006 {d d0 : Nat} (hd : d = d0 + 8) {R8 : Int32 → Int32 → Int32 → zS → Prop} {a1 : Int32} {a2 : Int32} {a4 : Int32} {s : zS} {Q : Option Value → zS → Prop} (r8 : ∀ a1 a2 a4 s, R8 a1 a2 a4 s → Zn d [] [] ([] : zW) ([] : zW) xL_9 5 (some .boolean) xE_116 (xE_116.drop 8) [.ref 4, .int a1, .int a2, .ref 1000006, .int a4, .null, .null, .null, .null] [] s Q) (h : v_116_8 (fun j => Zt d (wd 3 j) j) 3 1000006 R8 a1 a2 a4 s Q) : Zn d [] [] ([] : zW) ([] : zW) xL_9 5 (some .boolean) xE_116 (xE_116.drop 8) [.ref 4, .int a1, .int a2, .ref 1000006, .int a4, .null, .null, .null, .null] [] s Q := by
  unfold v_116_8 at h
  refine zn_ld rfl rfl rfl ?_
  refine zn_ld rfl rfl rfl ?_
  refine zn_lenS rfl rfl ?_
  change Zn _ _ _ _ _ _ _ _ _ _ _ [.int (xnS (1000006 % 1000000)), .int a4] _ _
  refine zn_brP rfl rfl ⟨fun hcn => ?_, fun hcn => ?_⟩
  · replace h := h.1 ((i_le (x := xnS (1000006 % 1000000)) (y := a4) rfl rfl).mp hcn)
    refine zn_c [.int 1] (xo_push (.int 1)) rfl rfl ?_
    exact zn_retZ rfl rfl h
  · replace h := h.2 (fun q => hcn ((i_le (x := xnS (1000006 % 1000000)) (y := a4) rfl rfl).mpr q))
    refine zn_ld rfl rfl rfl ?_
    refine zn_get (v := .ref 5) rfl (zv_R (a := 4) rfl rfl) ?_
    refine zn_ld rfl rfl rfl ?_
    refine zn_ld rfl rfl rfl ?_
    replace h := h _ (i_add (x := a1) (y := a4) rfl rfl)
    refine zn_c [.int (a1 + a4), .ref 5] xo_iadd rfl rfl ?_
    refine zn_row (a1 + a4) [] (a := 5) hd rfl rfl rfl rfl ?_
    change Zn _ _ _ _ _ _ _ _ _ _ _ [.int (zg s 5 (a1 + a4))] _ _
    refine zn_ld rfl rfl rfl ?_
    refine zn_ld rfl rfl rfl ?_
    refine zn_chS rfl rfl rfl h.1 ?_
    replace h := h.2
    change Zn _ _ _ _ _ _ _ _ _ _ _ [.int (xch (1000006 % 1000000) a4), .int (zg s 5 (a1 + a4))] _ _
    refine zn_brP rfl rfl ⟨fun hcn => ?_, fun hcn => ?_⟩
    · replace h := h.1 ((i_eq (x := zg s 5 (a1 + a4)) (y := xch (1000006 % 1000000) a4) rfl rfl).mp hcn)
      replace h := h _ (i_add (x := a4) (y := 1) rfl (show (1 : Int32).toInt = 1 by decide))
      refine zn_inc [.ref 4, .int a1, .int a2, .ref 1000006, .int (a4 + 1), .null, .null, .null, .null] rfl rfl rfl rfl ?_
      refine zn_go rfl ?_
      exact r8 a1 a2 (a4 + 1) s h
    · replace h := h.2 (fun q => hcn ((i_eq (x := zg s 5 (a1 + a4)) (y := xch (1000006 % 1000000) a4) rfl rfl).mpr q))
      refine zn_c [.int 0] (xo_push (.int 0)) rfl rfl ?_
      exact zn_retZ rfl rfl h
theorem ml_116_8_3e1000006 {d d0 : Nat} (hd : d = d0 + 8)  {a1 : Int32} {a2 : Int32} {a4 : Int32} {s : zS} {Q : Option Value → zS → Prop}  (h : vl_116_8 (fun j => Zt d (wd 3 j) j) 3 1000006  a1 a2 a4 s Q) : Zn d [] [] ([] : zW) ([] : zW) xL_9 5 (some .boolean) xE_116 (xE_116.drop 8) [.ref 4, .int a1, .int a2, .ref 1000006, .int a4, .null, .null, .null, .null] [] s Q := by
  obtain ⟨I, μ, h0, h1⟩ := h
  have key : ∀ (n : Nat) (a1 : Int32) (a2 : Int32) (a4 : Int32) (s : zS), μ a1 a2 a4 s = n → I a1 a2 a4 s → Zn d [] [] ([] : zW) ([] : zW) xL_9 5 (some .boolean) xE_116 (xE_116.drop 8) [.ref 4, .int a1, .int a2, .ref 1000006, .int a4, .null, .null, .null, .null] [] s Q := by
    intro n
    induction n using Nat.strongRecOn with
    | ind n ih =>
      intro a1 a2 a4 s e hI
      exact m_116_8_3e1000006 hd (fun a1' a2' a4' s' q => ih _ (by rw [← e]; exact q.2) a1' a2' a4' s' rfl q.1) (h1 a1 a2 a4 s hI)
  exact key _ a1 a2 a4 s rfl h0
set_option maxRecDepth 20000 in
theorem m_116_0_3e1000006 {d d0 : Nat} (hd : d = d0 + 8)  {a1 : Int32} {a2 : Int32} {s : zS} {Q : Option Value → zS → Prop}  (h : v_116_0 (fun j => Zt d (wd 3 j) j) 3 1000006  a1 a2 s Q) : Zn d [] [] ([] : zW) ([] : zW) xL_9 5 (some .boolean) xE_116 (xE_116.drop 0) [.ref 4, .int a1, .int a2, .ref 1000006, .null, .null, .null, .null, .null] [] s Q := by
  unfold v_116_0 at h
  refine zn_ld rfl rfl rfl ?_
  refine zn_ld rfl rfl rfl ?_
  refine zn_lenS rfl rfl ?_
  change Zn _ _ _ _ _ _ _ _ _ _ _ [.int (xnS (1000006 % 1000000)), .int a2] _ _
  refine zn_brP rfl rfl ⟨fun hcn => ?_, fun hcn => ?_⟩
  · replace h := h.1 ((i_eq (x := a2) (y := xnS (1000006 % 1000000)) rfl rfl).mp hcn)
    refine zn_c [.int 0] (xo_push (.int 0)) rfl rfl ?_
    refine zn_st [.ref 4, .int a1, .int a2, .ref 1000006, .int 0, .null, .null, .null, .null] rfl rfl rfl ?_
    exact ml_116_8_3e1000006 hd  h
  · replace h := h.2 (fun q => hcn ((i_eq (x := a2) (y := xnS (1000006 % 1000000)) rfl rfl).mpr q))
    refine zn_c [.int 0] (xo_push (.int 0)) rfl rfl ?_
    exact zn_retZ rfl rfl h
theorem zq_116_3e1000006 {d : Nat} {a1 : Int32} {a2 : Int32} {s : zS} {Q : Option Value → zS → Prop} (h : v_116_0 (fun j => Zt (d + 8) (wd 3 j) j) 3 1000006 a1 a2 s Q) : Zt (d + 9) ([] : zW) 116 [.ref 4, .int a1, .int a2, .ref 1000006] s Q := zt_of (E := xE_116) (L := xL_9) (ml := 5) (ret := some .boolean) rfl rfl rfl (m_116_0_3e1000006 rfl h)
set_option maxRecDepth 20000 in
theorem m_116_8_39e1000001 {d d0 : Nat} (hd : d = d0 + 8) {R8 : Int32 → Int32 → Int32 → zS → Prop} {a1 : Int32} {a2 : Int32} {a4 : Int32} {s : zS} {Q : Option Value → zS → Prop} (r8 : ∀ a1 a2 a4 s, R8 a1 a2 a4 s → Zn d [] [] ([] : zW) ([] : zW) xL_9 5 (some .boolean) xE_116 (xE_116.drop 8) [.ref 40, .int a1, .int a2, .ref 1000001, .int a4, .null, .null, .null, .null] [] s Q) (h : v_116_8 (fun j => Zt d (wd 39 j) j) 39 1000001 R8 a1 a2 a4 s Q) : Zn d [] [] ([] : zW) ([] : zW) xL_9 5 (some .boolean) xE_116 (xE_116.drop 8) [.ref 40, .int a1, .int a2, .ref 1000001, .int a4, .null, .null, .null, .null] [] s Q := by
  unfold v_116_8 at h
  refine zn_ld rfl rfl rfl ?_
  refine zn_ld rfl rfl rfl ?_
  refine zn_lenS rfl rfl ?_
  change Zn _ _ _ _ _ _ _ _ _ _ _ [.int (xnS (1000001 % 1000000)), .int a4] _ _
  refine zn_brP rfl rfl ⟨fun hcn => ?_, fun hcn => ?_⟩
  · replace h := h.1 ((i_le (x := xnS (1000001 % 1000000)) (y := a4) rfl rfl).mp hcn)
    refine zn_c [.int 1] (xo_push (.int 1)) rfl rfl ?_
    exact zn_retZ rfl rfl h
  · replace h := h.2 (fun q => hcn ((i_le (x := xnS (1000001 % 1000000)) (y := a4) rfl rfl).mpr q))
    refine zn_ld rfl rfl rfl ?_
    refine zn_get (v := .ref 41) rfl (zv_R (a := 40) rfl rfl) ?_
    refine zn_ld rfl rfl rfl ?_
    refine zn_ld rfl rfl rfl ?_
    replace h := h _ (i_add (x := a1) (y := a4) rfl rfl)
    refine zn_c [.int (a1 + a4), .ref 41] xo_iadd rfl rfl ?_
    refine zn_row (a1 + a4) [] (a := 41) hd rfl rfl rfl rfl ?_
    change Zn _ _ _ _ _ _ _ _ _ _ _ [.int (zg s 41 (a1 + a4))] _ _
    refine zn_ld rfl rfl rfl ?_
    refine zn_ld rfl rfl rfl ?_
    refine zn_chS rfl rfl rfl h.1 ?_
    replace h := h.2
    change Zn _ _ _ _ _ _ _ _ _ _ _ [.int (xch (1000001 % 1000000) a4), .int (zg s 41 (a1 + a4))] _ _
    refine zn_brP rfl rfl ⟨fun hcn => ?_, fun hcn => ?_⟩
    · replace h := h.1 ((i_eq (x := zg s 41 (a1 + a4)) (y := xch (1000001 % 1000000) a4) rfl rfl).mp hcn)
      replace h := h _ (i_add (x := a4) (y := 1) rfl (show (1 : Int32).toInt = 1 by decide))
      refine zn_inc [.ref 40, .int a1, .int a2, .ref 1000001, .int (a4 + 1), .null, .null, .null, .null] rfl rfl rfl rfl ?_
      refine zn_go rfl ?_
      exact r8 a1 a2 (a4 + 1) s h
    · replace h := h.2 (fun q => hcn ((i_eq (x := zg s 41 (a1 + a4)) (y := xch (1000001 % 1000000) a4) rfl rfl).mpr q))
      refine zn_c [.int 0] (xo_push (.int 0)) rfl rfl ?_
      exact zn_retZ rfl rfl h
theorem ml_116_8_39e1000001 {d d0 : Nat} (hd : d = d0 + 8)  {a1 : Int32} {a2 : Int32} {a4 : Int32} {s : zS} {Q : Option Value → zS → Prop}  (h : vl_116_8 (fun j => Zt d (wd 39 j) j) 39 1000001  a1 a2 a4 s Q) : Zn d [] [] ([] : zW) ([] : zW) xL_9 5 (some .boolean) xE_116 (xE_116.drop 8) [.ref 40, .int a1, .int a2, .ref 1000001, .int a4, .null, .null, .null, .null] [] s Q := by
  obtain ⟨I, μ, h0, h1⟩ := h
  have key : ∀ (n : Nat) (a1 : Int32) (a2 : Int32) (a4 : Int32) (s : zS), μ a1 a2 a4 s = n → I a1 a2 a4 s → Zn d [] [] ([] : zW) ([] : zW) xL_9 5 (some .boolean) xE_116 (xE_116.drop 8) [.ref 40, .int a1, .int a2, .ref 1000001, .int a4, .null, .null, .null, .null] [] s Q := by
    intro n
    induction n using Nat.strongRecOn with
    | ind n ih =>
      intro a1 a2 a4 s e hI
      exact m_116_8_39e1000001 hd (fun a1' a2' a4' s' q => ih _ (by rw [← e]; exact q.2) a1' a2' a4' s' rfl q.1) (h1 a1 a2 a4 s hI)
  exact key _ a1 a2 a4 s rfl h0
set_option maxRecDepth 20000 in
theorem m_116_0_39e1000001 {d d0 : Nat} (hd : d = d0 + 8)  {a1 : Int32} {a2 : Int32} {s : zS} {Q : Option Value → zS → Prop}  (h : v_116_0 (fun j => Zt d (wd 39 j) j) 39 1000001  a1 a2 s Q) : Zn d [] [] ([] : zW) ([] : zW) xL_9 5 (some .boolean) xE_116 (xE_116.drop 0) [.ref 40, .int a1, .int a2, .ref 1000001, .null, .null, .null, .null, .null] [] s Q := by
  unfold v_116_0 at h
  refine zn_ld rfl rfl rfl ?_
  refine zn_ld rfl rfl rfl ?_
  refine zn_lenS rfl rfl ?_
  change Zn _ _ _ _ _ _ _ _ _ _ _ [.int (xnS (1000001 % 1000000)), .int a2] _ _
  refine zn_brP rfl rfl ⟨fun hcn => ?_, fun hcn => ?_⟩
  · replace h := h.1 ((i_eq (x := a2) (y := xnS (1000001 % 1000000)) rfl rfl).mp hcn)
    refine zn_c [.int 0] (xo_push (.int 0)) rfl rfl ?_
    refine zn_st [.ref 40, .int a1, .int a2, .ref 1000001, .int 0, .null, .null, .null, .null] rfl rfl rfl ?_
    exact ml_116_8_39e1000001 hd  h
  · replace h := h.2 (fun q => hcn ((i_eq (x := a2) (y := xnS (1000001 % 1000000)) rfl rfl).mpr q))
    refine zn_c [.int 0] (xo_push (.int 0)) rfl rfl ?_
    exact zn_retZ rfl rfl h
theorem zq_116_39e1000001 {d : Nat} {a1 : Int32} {a2 : Int32} {s : zS} {Q : Option Value → zS → Prop} (h : v_116_0 (fun j => Zt (d + 8) (wd 39 j) j) 39 1000001 a1 a2 s Q) : Zt (d + 9) ([] : zW) 116 [.ref 40, .int a1, .int a2, .ref 1000001] s Q := zt_of (E := xE_116) (L := xL_9) (ml := 5) (ret := some .boolean) rfl rfl rfl (m_116_0_39e1000001 rfl h)
set_option maxRecDepth 20000 in
theorem m_116_8_39e1000002 {d d0 : Nat} (hd : d = d0 + 8) {R8 : Int32 → Int32 → Int32 → zS → Prop} {a1 : Int32} {a2 : Int32} {a4 : Int32} {s : zS} {Q : Option Value → zS → Prop} (r8 : ∀ a1 a2 a4 s, R8 a1 a2 a4 s → Zn d [] [] ([] : zW) ([] : zW) xL_9 5 (some .boolean) xE_116 (xE_116.drop 8) [.ref 40, .int a1, .int a2, .ref 1000002, .int a4, .null, .null, .null, .null] [] s Q) (h : v_116_8 (fun j => Zt d (wd 39 j) j) 39 1000002 R8 a1 a2 a4 s Q) : Zn d [] [] ([] : zW) ([] : zW) xL_9 5 (some .boolean) xE_116 (xE_116.drop 8) [.ref 40, .int a1, .int a2, .ref 1000002, .int a4, .null, .null, .null, .null] [] s Q := by
  unfold v_116_8 at h
  refine zn_ld rfl rfl rfl ?_
  refine zn_ld rfl rfl rfl ?_
  refine zn_lenS rfl rfl ?_
  change Zn _ _ _ _ _ _ _ _ _ _ _ [.int (xnS (1000002 % 1000000)), .int a4] _ _
  refine zn_brP rfl rfl ⟨fun hcn => ?_, fun hcn => ?_⟩
  · replace h := h.1 ((i_le (x := xnS (1000002 % 1000000)) (y := a4) rfl rfl).mp hcn)
    refine zn_c [.int 1] (xo_push (.int 1)) rfl rfl ?_
    exact zn_retZ rfl rfl h
  · replace h := h.2 (fun q => hcn ((i_le (x := xnS (1000002 % 1000000)) (y := a4) rfl rfl).mpr q))
    refine zn_ld rfl rfl rfl ?_
    refine zn_get (v := .ref 41) rfl (zv_R (a := 40) rfl rfl) ?_
    refine zn_ld rfl rfl rfl ?_
    refine zn_ld rfl rfl rfl ?_
    replace h := h _ (i_add (x := a1) (y := a4) rfl rfl)
    refine zn_c [.int (a1 + a4), .ref 41] xo_iadd rfl rfl ?_
    refine zn_row (a1 + a4) [] (a := 41) hd rfl rfl rfl rfl ?_
    change Zn _ _ _ _ _ _ _ _ _ _ _ [.int (zg s 41 (a1 + a4))] _ _
    refine zn_ld rfl rfl rfl ?_
    refine zn_ld rfl rfl rfl ?_
    refine zn_chS rfl rfl rfl h.1 ?_
    replace h := h.2
    change Zn _ _ _ _ _ _ _ _ _ _ _ [.int (xch (1000002 % 1000000) a4), .int (zg s 41 (a1 + a4))] _ _
    refine zn_brP rfl rfl ⟨fun hcn => ?_, fun hcn => ?_⟩
    · replace h := h.1 ((i_eq (x := zg s 41 (a1 + a4)) (y := xch (1000002 % 1000000) a4) rfl rfl).mp hcn)
      replace h := h _ (i_add (x := a4) (y := 1) rfl (show (1 : Int32).toInt = 1 by decide))
      refine zn_inc [.ref 40, .int a1, .int a2, .ref 1000002, .int (a4 + 1), .null, .null, .null, .null] rfl rfl rfl rfl ?_
      refine zn_go rfl ?_
      exact r8 a1 a2 (a4 + 1) s h
    · replace h := h.2 (fun q => hcn ((i_eq (x := zg s 41 (a1 + a4)) (y := xch (1000002 % 1000000) a4) rfl rfl).mpr q))
      refine zn_c [.int 0] (xo_push (.int 0)) rfl rfl ?_
      exact zn_retZ rfl rfl h
theorem ml_116_8_39e1000002 {d d0 : Nat} (hd : d = d0 + 8)  {a1 : Int32} {a2 : Int32} {a4 : Int32} {s : zS} {Q : Option Value → zS → Prop}  (h : vl_116_8 (fun j => Zt d (wd 39 j) j) 39 1000002  a1 a2 a4 s Q) : Zn d [] [] ([] : zW) ([] : zW) xL_9 5 (some .boolean) xE_116 (xE_116.drop 8) [.ref 40, .int a1, .int a2, .ref 1000002, .int a4, .null, .null, .null, .null] [] s Q := by
  obtain ⟨I, μ, h0, h1⟩ := h
  have key : ∀ (n : Nat) (a1 : Int32) (a2 : Int32) (a4 : Int32) (s : zS), μ a1 a2 a4 s = n → I a1 a2 a4 s → Zn d [] [] ([] : zW) ([] : zW) xL_9 5 (some .boolean) xE_116 (xE_116.drop 8) [.ref 40, .int a1, .int a2, .ref 1000002, .int a4, .null, .null, .null, .null] [] s Q := by
    intro n
    induction n using Nat.strongRecOn with
    | ind n ih =>
      intro a1 a2 a4 s e hI
      exact m_116_8_39e1000002 hd (fun a1' a2' a4' s' q => ih _ (by rw [← e]; exact q.2) a1' a2' a4' s' rfl q.1) (h1 a1 a2 a4 s hI)
  exact key _ a1 a2 a4 s rfl h0
set_option maxRecDepth 20000 in
theorem m_116_0_39e1000002 {d d0 : Nat} (hd : d = d0 + 8)  {a1 : Int32} {a2 : Int32} {s : zS} {Q : Option Value → zS → Prop}  (h : v_116_0 (fun j => Zt d (wd 39 j) j) 39 1000002  a1 a2 s Q) : Zn d [] [] ([] : zW) ([] : zW) xL_9 5 (some .boolean) xE_116 (xE_116.drop 0) [.ref 40, .int a1, .int a2, .ref 1000002, .null, .null, .null, .null, .null] [] s Q := by
  unfold v_116_0 at h
  refine zn_ld rfl rfl rfl ?_
  refine zn_ld rfl rfl rfl ?_
  refine zn_lenS rfl rfl ?_
  change Zn _ _ _ _ _ _ _ _ _ _ _ [.int (xnS (1000002 % 1000000)), .int a2] _ _
  refine zn_brP rfl rfl ⟨fun hcn => ?_, fun hcn => ?_⟩
  · replace h := h.1 ((i_eq (x := a2) (y := xnS (1000002 % 1000000)) rfl rfl).mp hcn)
    refine zn_c [.int 0] (xo_push (.int 0)) rfl rfl ?_
    refine zn_st [.ref 40, .int a1, .int a2, .ref 1000002, .int 0, .null, .null, .null, .null] rfl rfl rfl ?_
    exact ml_116_8_39e1000002 hd  h
  · replace h := h.2 (fun q => hcn ((i_eq (x := a2) (y := xnS (1000002 % 1000000)) rfl rfl).mpr q))
    refine zn_c [.int 0] (xo_push (.int 0)) rfl rfl ?_
    exact zn_retZ rfl rfl h
theorem zq_116_39e1000002 {d : Nat} {a1 : Int32} {a2 : Int32} {s : zS} {Q : Option Value → zS → Prop} (h : v_116_0 (fun j => Zt (d + 8) (wd 39 j) j) 39 1000002 a1 a2 s Q) : Zt (d + 9) ([] : zW) 116 [.ref 40, .int a1, .int a2, .ref 1000002] s Q := zt_of (E := xE_116) (L := xL_9) (ml := 5) (ret := some .boolean) rfl rfl rfl (m_116_0_39e1000002 rfl h)
set_option maxRecDepth 20000 in
theorem m_116_8_39e1000003 {d d0 : Nat} (hd : d = d0 + 8) {R8 : Int32 → Int32 → Int32 → zS → Prop} {a1 : Int32} {a2 : Int32} {a4 : Int32} {s : zS} {Q : Option Value → zS → Prop} (r8 : ∀ a1 a2 a4 s, R8 a1 a2 a4 s → Zn d [] [] ([] : zW) ([] : zW) xL_9 5 (some .boolean) xE_116 (xE_116.drop 8) [.ref 40, .int a1, .int a2, .ref 1000003, .int a4, .null, .null, .null, .null] [] s Q) (h : v_116_8 (fun j => Zt d (wd 39 j) j) 39 1000003 R8 a1 a2 a4 s Q) : Zn d [] [] ([] : zW) ([] : zW) xL_9 5 (some .boolean) xE_116 (xE_116.drop 8) [.ref 40, .int a1, .int a2, .ref 1000003, .int a4, .null, .null, .null, .null] [] s Q := by
  unfold v_116_8 at h
  refine zn_ld rfl rfl rfl ?_
  refine zn_ld rfl rfl rfl ?_
  refine zn_lenS rfl rfl ?_
  change Zn _ _ _ _ _ _ _ _ _ _ _ [.int (xnS (1000003 % 1000000)), .int a4] _ _
  refine zn_brP rfl rfl ⟨fun hcn => ?_, fun hcn => ?_⟩
  · replace h := h.1 ((i_le (x := xnS (1000003 % 1000000)) (y := a4) rfl rfl).mp hcn)
    refine zn_c [.int 1] (xo_push (.int 1)) rfl rfl ?_
    exact zn_retZ rfl rfl h
  · replace h := h.2 (fun q => hcn ((i_le (x := xnS (1000003 % 1000000)) (y := a4) rfl rfl).mpr q))
    refine zn_ld rfl rfl rfl ?_
    refine zn_get (v := .ref 41) rfl (zv_R (a := 40) rfl rfl) ?_
    refine zn_ld rfl rfl rfl ?_
    refine zn_ld rfl rfl rfl ?_
    replace h := h _ (i_add (x := a1) (y := a4) rfl rfl)
    refine zn_c [.int (a1 + a4), .ref 41] xo_iadd rfl rfl ?_
    refine zn_row (a1 + a4) [] (a := 41) hd rfl rfl rfl rfl ?_
    change Zn _ _ _ _ _ _ _ _ _ _ _ [.int (zg s 41 (a1 + a4))] _ _
    refine zn_ld rfl rfl rfl ?_
    refine zn_ld rfl rfl rfl ?_
    refine zn_chS rfl rfl rfl h.1 ?_
    replace h := h.2
    change Zn _ _ _ _ _ _ _ _ _ _ _ [.int (xch (1000003 % 1000000) a4), .int (zg s 41 (a1 + a4))] _ _
    refine zn_brP rfl rfl ⟨fun hcn => ?_, fun hcn => ?_⟩
    · replace h := h.1 ((i_eq (x := zg s 41 (a1 + a4)) (y := xch (1000003 % 1000000) a4) rfl rfl).mp hcn)
      replace h := h _ (i_add (x := a4) (y := 1) rfl (show (1 : Int32).toInt = 1 by decide))
      refine zn_inc [.ref 40, .int a1, .int a2, .ref 1000003, .int (a4 + 1), .null, .null, .null, .null] rfl rfl rfl rfl ?_
      refine zn_go rfl ?_
      exact r8 a1 a2 (a4 + 1) s h
    · replace h := h.2 (fun q => hcn ((i_eq (x := zg s 41 (a1 + a4)) (y := xch (1000003 % 1000000) a4) rfl rfl).mpr q))
      refine zn_c [.int 0] (xo_push (.int 0)) rfl rfl ?_
      exact zn_retZ rfl rfl h
theorem ml_116_8_39e1000003 {d d0 : Nat} (hd : d = d0 + 8)  {a1 : Int32} {a2 : Int32} {a4 : Int32} {s : zS} {Q : Option Value → zS → Prop}  (h : vl_116_8 (fun j => Zt d (wd 39 j) j) 39 1000003  a1 a2 a4 s Q) : Zn d [] [] ([] : zW) ([] : zW) xL_9 5 (some .boolean) xE_116 (xE_116.drop 8) [.ref 40, .int a1, .int a2, .ref 1000003, .int a4, .null, .null, .null, .null] [] s Q := by
  obtain ⟨I, μ, h0, h1⟩ := h
  have key : ∀ (n : Nat) (a1 : Int32) (a2 : Int32) (a4 : Int32) (s : zS), μ a1 a2 a4 s = n → I a1 a2 a4 s → Zn d [] [] ([] : zW) ([] : zW) xL_9 5 (some .boolean) xE_116 (xE_116.drop 8) [.ref 40, .int a1, .int a2, .ref 1000003, .int a4, .null, .null, .null, .null] [] s Q := by
    intro n
    induction n using Nat.strongRecOn with
    | ind n ih =>
      intro a1 a2 a4 s e hI
      exact m_116_8_39e1000003 hd (fun a1' a2' a4' s' q => ih _ (by rw [← e]; exact q.2) a1' a2' a4' s' rfl q.1) (h1 a1 a2 a4 s hI)
  exact key _ a1 a2 a4 s rfl h0
set_option maxRecDepth 20000 in
theorem m_116_0_39e1000003 {d d0 : Nat} (hd : d = d0 + 8)  {a1 : Int32} {a2 : Int32} {s : zS} {Q : Option Value → zS → Prop}  (h : v_116_0 (fun j => Zt d (wd 39 j) j) 39 1000003  a1 a2 s Q) : Zn d [] [] ([] : zW) ([] : zW) xL_9 5 (some .boolean) xE_116 (xE_116.drop 0) [.ref 40, .int a1, .int a2, .ref 1000003, .null, .null, .null, .null, .null] [] s Q := by
  unfold v_116_0 at h
  refine zn_ld rfl rfl rfl ?_
  refine zn_ld rfl rfl rfl ?_
  refine zn_lenS rfl rfl ?_
  change Zn _ _ _ _ _ _ _ _ _ _ _ [.int (xnS (1000003 % 1000000)), .int a2] _ _
  refine zn_brP rfl rfl ⟨fun hcn => ?_, fun hcn => ?_⟩
  · replace h := h.1 ((i_eq (x := a2) (y := xnS (1000003 % 1000000)) rfl rfl).mp hcn)
    refine zn_c [.int 0] (xo_push (.int 0)) rfl rfl ?_
    refine zn_st [.ref 40, .int a1, .int a2, .ref 1000003, .int 0, .null, .null, .null, .null] rfl rfl rfl ?_
    exact ml_116_8_39e1000003 hd  h
  · replace h := h.2 (fun q => hcn ((i_eq (x := a2) (y := xnS (1000003 % 1000000)) rfl rfl).mpr q))
    refine zn_c [.int 0] (xo_push (.int 0)) rfl rfl ?_
    exact zn_retZ rfl rfl h
theorem zq_116_39e1000003 {d : Nat} {a1 : Int32} {a2 : Int32} {s : zS} {Q : Option Value → zS → Prop} (h : v_116_0 (fun j => Zt (d + 8) (wd 39 j) j) 39 1000003 a1 a2 s Q) : Zt (d + 9) ([] : zW) 116 [.ref 40, .int a1, .int a2, .ref 1000003] s Q := zt_of (E := xE_116) (L := xL_9) (ml := 5) (ret := some .boolean) rfl rfl rfl (m_116_0_39e1000003 rfl h)
set_option maxRecDepth 20000 in
theorem m_116_8_39e1000004 {d d0 : Nat} (hd : d = d0 + 8) {R8 : Int32 → Int32 → Int32 → zS → Prop} {a1 : Int32} {a2 : Int32} {a4 : Int32} {s : zS} {Q : Option Value → zS → Prop} (r8 : ∀ a1 a2 a4 s, R8 a1 a2 a4 s → Zn d [] [] ([] : zW) ([] : zW) xL_9 5 (some .boolean) xE_116 (xE_116.drop 8) [.ref 40, .int a1, .int a2, .ref 1000004, .int a4, .null, .null, .null, .null] [] s Q) (h : v_116_8 (fun j => Zt d (wd 39 j) j) 39 1000004 R8 a1 a2 a4 s Q) : Zn d [] [] ([] : zW) ([] : zW) xL_9 5 (some .boolean) xE_116 (xE_116.drop 8) [.ref 40, .int a1, .int a2, .ref 1000004, .int a4, .null, .null, .null, .null] [] s Q := by
  unfold v_116_8 at h
  refine zn_ld rfl rfl rfl ?_
  refine zn_ld rfl rfl rfl ?_
  refine zn_lenS rfl rfl ?_
  change Zn _ _ _ _ _ _ _ _ _ _ _ [.int (xnS (1000004 % 1000000)), .int a4] _ _
  refine zn_brP rfl rfl ⟨fun hcn => ?_, fun hcn => ?_⟩
  · replace h := h.1 ((i_le (x := xnS (1000004 % 1000000)) (y := a4) rfl rfl).mp hcn)
    refine zn_c [.int 1] (xo_push (.int 1)) rfl rfl ?_
    exact zn_retZ rfl rfl h
  · replace h := h.2 (fun q => hcn ((i_le (x := xnS (1000004 % 1000000)) (y := a4) rfl rfl).mpr q))
    refine zn_ld rfl rfl rfl ?_
    refine zn_get (v := .ref 41) rfl (zv_R (a := 40) rfl rfl) ?_
    refine zn_ld rfl rfl rfl ?_
    refine zn_ld rfl rfl rfl ?_
    replace h := h _ (i_add (x := a1) (y := a4) rfl rfl)
    refine zn_c [.int (a1 + a4), .ref 41] xo_iadd rfl rfl ?_
    refine zn_row (a1 + a4) [] (a := 41) hd rfl rfl rfl rfl ?_
    change Zn _ _ _ _ _ _ _ _ _ _ _ [.int (zg s 41 (a1 + a4))] _ _
    refine zn_ld rfl rfl rfl ?_
    refine zn_ld rfl rfl rfl ?_
    refine zn_chS rfl rfl rfl h.1 ?_
    replace h := h.2
    change Zn _ _ _ _ _ _ _ _ _ _ _ [.int (xch (1000004 % 1000000) a4), .int (zg s 41 (a1 + a4))] _ _
    refine zn_brP rfl rfl ⟨fun hcn => ?_, fun hcn => ?_⟩
    · replace h := h.1 ((i_eq (x := zg s 41 (a1 + a4)) (y := xch (1000004 % 1000000) a4) rfl rfl).mp hcn)
      replace h := h _ (i_add (x := a4) (y := 1) rfl (show (1 : Int32).toInt = 1 by decide))
      refine zn_inc [.ref 40, .int a1, .int a2, .ref 1000004, .int (a4 + 1), .null, .null, .null, .null] rfl rfl rfl rfl ?_
      refine zn_go rfl ?_
      exact r8 a1 a2 (a4 + 1) s h
    · replace h := h.2 (fun q => hcn ((i_eq (x := zg s 41 (a1 + a4)) (y := xch (1000004 % 1000000) a4) rfl rfl).mpr q))
      refine zn_c [.int 0] (xo_push (.int 0)) rfl rfl ?_
      exact zn_retZ rfl rfl h
theorem ml_116_8_39e1000004 {d d0 : Nat} (hd : d = d0 + 8)  {a1 : Int32} {a2 : Int32} {a4 : Int32} {s : zS} {Q : Option Value → zS → Prop}  (h : vl_116_8 (fun j => Zt d (wd 39 j) j) 39 1000004  a1 a2 a4 s Q) : Zn d [] [] ([] : zW) ([] : zW) xL_9 5 (some .boolean) xE_116 (xE_116.drop 8) [.ref 40, .int a1, .int a2, .ref 1000004, .int a4, .null, .null, .null, .null] [] s Q := by
  obtain ⟨I, μ, h0, h1⟩ := h
  have key : ∀ (n : Nat) (a1 : Int32) (a2 : Int32) (a4 : Int32) (s : zS), μ a1 a2 a4 s = n → I a1 a2 a4 s → Zn d [] [] ([] : zW) ([] : zW) xL_9 5 (some .boolean) xE_116 (xE_116.drop 8) [.ref 40, .int a1, .int a2, .ref 1000004, .int a4, .null, .null, .null, .null] [] s Q := by
    intro n
    induction n using Nat.strongRecOn with
    | ind n ih =>
      intro a1 a2 a4 s e hI
      exact m_116_8_39e1000004 hd (fun a1' a2' a4' s' q => ih _ (by rw [← e]; exact q.2) a1' a2' a4' s' rfl q.1) (h1 a1 a2 a4 s hI)
  exact key _ a1 a2 a4 s rfl h0
set_option maxRecDepth 20000 in
theorem m_116_0_39e1000004 {d d0 : Nat} (hd : d = d0 + 8)  {a1 : Int32} {a2 : Int32} {s : zS} {Q : Option Value → zS → Prop}  (h : v_116_0 (fun j => Zt d (wd 39 j) j) 39 1000004  a1 a2 s Q) : Zn d [] [] ([] : zW) ([] : zW) xL_9 5 (some .boolean) xE_116 (xE_116.drop 0) [.ref 40, .int a1, .int a2, .ref 1000004, .null, .null, .null, .null, .null] [] s Q := by
  unfold v_116_0 at h
  refine zn_ld rfl rfl rfl ?_
  refine zn_ld rfl rfl rfl ?_
  refine zn_lenS rfl rfl ?_
  change Zn _ _ _ _ _ _ _ _ _ _ _ [.int (xnS (1000004 % 1000000)), .int a2] _ _
  refine zn_brP rfl rfl ⟨fun hcn => ?_, fun hcn => ?_⟩
  · replace h := h.1 ((i_eq (x := a2) (y := xnS (1000004 % 1000000)) rfl rfl).mp hcn)
    refine zn_c [.int 0] (xo_push (.int 0)) rfl rfl ?_
    refine zn_st [.ref 40, .int a1, .int a2, .ref 1000004, .int 0, .null, .null, .null, .null] rfl rfl rfl ?_
    exact ml_116_8_39e1000004 hd  h
  · replace h := h.2 (fun q => hcn ((i_eq (x := a2) (y := xnS (1000004 % 1000000)) rfl rfl).mpr q))
    refine zn_c [.int 0] (xo_push (.int 0)) rfl rfl ?_
    exact zn_retZ rfl rfl h
theorem zq_116_39e1000004 {d : Nat} {a1 : Int32} {a2 : Int32} {s : zS} {Q : Option Value → zS → Prop} (h : v_116_0 (fun j => Zt (d + 8) (wd 39 j) j) 39 1000004 a1 a2 s Q) : Zt (d + 9) ([] : zW) 116 [.ref 40, .int a1, .int a2, .ref 1000004] s Q := zt_of (E := xE_116) (L := xL_9) (ml := 5) (ret := some .boolean) rfl rfl rfl (m_116_0_39e1000004 rfl h)
set_option maxRecDepth 20000 in
theorem m_116_8_39e1000005 {d d0 : Nat} (hd : d = d0 + 8) {R8 : Int32 → Int32 → Int32 → zS → Prop} {a1 : Int32} {a2 : Int32} {a4 : Int32} {s : zS} {Q : Option Value → zS → Prop} (r8 : ∀ a1 a2 a4 s, R8 a1 a2 a4 s → Zn d [] [] ([] : zW) ([] : zW) xL_9 5 (some .boolean) xE_116 (xE_116.drop 8) [.ref 40, .int a1, .int a2, .ref 1000005, .int a4, .null, .null, .null, .null] [] s Q) (h : v_116_8 (fun j => Zt d (wd 39 j) j) 39 1000005 R8 a1 a2 a4 s Q) : Zn d [] [] ([] : zW) ([] : zW) xL_9 5 (some .boolean) xE_116 (xE_116.drop 8) [.ref 40, .int a1, .int a2, .ref 1000005, .int a4, .null, .null, .null, .null] [] s Q := by
  unfold v_116_8 at h
  refine zn_ld rfl rfl rfl ?_
  refine zn_ld rfl rfl rfl ?_
  refine zn_lenS rfl rfl ?_
  change Zn _ _ _ _ _ _ _ _ _ _ _ [.int (xnS (1000005 % 1000000)), .int a4] _ _
  refine zn_brP rfl rfl ⟨fun hcn => ?_, fun hcn => ?_⟩
  · replace h := h.1 ((i_le (x := xnS (1000005 % 1000000)) (y := a4) rfl rfl).mp hcn)
    refine zn_c [.int 1] (xo_push (.int 1)) rfl rfl ?_
    exact zn_retZ rfl rfl h
  · replace h := h.2 (fun q => hcn ((i_le (x := xnS (1000005 % 1000000)) (y := a4) rfl rfl).mpr q))
    refine zn_ld rfl rfl rfl ?_
    refine zn_get (v := .ref 41) rfl (zv_R (a := 40) rfl rfl) ?_
    refine zn_ld rfl rfl rfl ?_
    refine zn_ld rfl rfl rfl ?_
    replace h := h _ (i_add (x := a1) (y := a4) rfl rfl)
    refine zn_c [.int (a1 + a4), .ref 41] xo_iadd rfl rfl ?_
    refine zn_row (a1 + a4) [] (a := 41) hd rfl rfl rfl rfl ?_
    change Zn _ _ _ _ _ _ _ _ _ _ _ [.int (zg s 41 (a1 + a4))] _ _
    refine zn_ld rfl rfl rfl ?_
    refine zn_ld rfl rfl rfl ?_
    refine zn_chS rfl rfl rfl h.1 ?_
    replace h := h.2
    change Zn _ _ _ _ _ _ _ _ _ _ _ [.int (xch (1000005 % 1000000) a4), .int (zg s 41 (a1 + a4))] _ _
    refine zn_brP rfl rfl ⟨fun hcn => ?_, fun hcn => ?_⟩
    · replace h := h.1 ((i_eq (x := zg s 41 (a1 + a4)) (y := xch (1000005 % 1000000) a4) rfl rfl).mp hcn)
      replace h := h _ (i_add (x := a4) (y := 1) rfl (show (1 : Int32).toInt = 1 by decide))
      refine zn_inc [.ref 40, .int a1, .int a2, .ref 1000005, .int (a4 + 1), .null, .null, .null, .null] rfl rfl rfl rfl ?_
      refine zn_go rfl ?_
      exact r8 a1 a2 (a4 + 1) s h
    · replace h := h.2 (fun q => hcn ((i_eq (x := zg s 41 (a1 + a4)) (y := xch (1000005 % 1000000) a4) rfl rfl).mpr q))
      refine zn_c [.int 0] (xo_push (.int 0)) rfl rfl ?_
      exact zn_retZ rfl rfl h
theorem ml_116_8_39e1000005 {d d0 : Nat} (hd : d = d0 + 8)  {a1 : Int32} {a2 : Int32} {a4 : Int32} {s : zS} {Q : Option Value → zS → Prop}  (h : vl_116_8 (fun j => Zt d (wd 39 j) j) 39 1000005  a1 a2 a4 s Q) : Zn d [] [] ([] : zW) ([] : zW) xL_9 5 (some .boolean) xE_116 (xE_116.drop 8) [.ref 40, .int a1, .int a2, .ref 1000005, .int a4, .null, .null, .null, .null] [] s Q := by
  obtain ⟨I, μ, h0, h1⟩ := h
  have key : ∀ (n : Nat) (a1 : Int32) (a2 : Int32) (a4 : Int32) (s : zS), μ a1 a2 a4 s = n → I a1 a2 a4 s → Zn d [] [] ([] : zW) ([] : zW) xL_9 5 (some .boolean) xE_116 (xE_116.drop 8) [.ref 40, .int a1, .int a2, .ref 1000005, .int a4, .null, .null, .null, .null] [] s Q := by
    intro n
    induction n using Nat.strongRecOn with
    | ind n ih =>
      intro a1 a2 a4 s e hI
      exact m_116_8_39e1000005 hd (fun a1' a2' a4' s' q => ih _ (by rw [← e]; exact q.2) a1' a2' a4' s' rfl q.1) (h1 a1 a2 a4 s hI)
  exact key _ a1 a2 a4 s rfl h0
set_option maxRecDepth 20000 in
theorem m_116_0_39e1000005 {d d0 : Nat} (hd : d = d0 + 8)  {a1 : Int32} {a2 : Int32} {s : zS} {Q : Option Value → zS → Prop}  (h : v_116_0 (fun j => Zt d (wd 39 j) j) 39 1000005  a1 a2 s Q) : Zn d [] [] ([] : zW) ([] : zW) xL_9 5 (some .boolean) xE_116 (xE_116.drop 0) [.ref 40, .int a1, .int a2, .ref 1000005, .null, .null, .null, .null, .null] [] s Q := by
  unfold v_116_0 at h
  refine zn_ld rfl rfl rfl ?_
  refine zn_ld rfl rfl rfl ?_
  refine zn_lenS rfl rfl ?_
  change Zn _ _ _ _ _ _ _ _ _ _ _ [.int (xnS (1000005 % 1000000)), .int a2] _ _
  refine zn_brP rfl rfl ⟨fun hcn => ?_, fun hcn => ?_⟩
  · replace h := h.1 ((i_eq (x := a2) (y := xnS (1000005 % 1000000)) rfl rfl).mp hcn)
    refine zn_c [.int 0] (xo_push (.int 0)) rfl rfl ?_
    refine zn_st [.ref 40, .int a1, .int a2, .ref 1000005, .int 0, .null, .null, .null, .null] rfl rfl rfl ?_
    exact ml_116_8_39e1000005 hd  h
  · replace h := h.2 (fun q => hcn ((i_eq (x := a2) (y := xnS (1000005 % 1000000)) rfl rfl).mpr q))
    refine zn_c [.int 0] (xo_push (.int 0)) rfl rfl ?_
    exact zn_retZ rfl rfl h
theorem zq_116_39e1000005 {d : Nat} {a1 : Int32} {a2 : Int32} {s : zS} {Q : Option Value → zS → Prop} (h : v_116_0 (fun j => Zt (d + 8) (wd 39 j) j) 39 1000005 a1 a2 s Q) : Zt (d + 9) ([] : zW) 116 [.ref 40, .int a1, .int a2, .ref 1000005] s Q := zt_of (E := xE_116) (L := xL_9) (ml := 5) (ret := some .boolean) rfl rfl rfl (m_116_0_39e1000005 rfl h)
set_option maxRecDepth 20000 in
theorem m_116_8_39e1000006 {d d0 : Nat} (hd : d = d0 + 8) {R8 : Int32 → Int32 → Int32 → zS → Prop} {a1 : Int32} {a2 : Int32} {a4 : Int32} {s : zS} {Q : Option Value → zS → Prop} (r8 : ∀ a1 a2 a4 s, R8 a1 a2 a4 s → Zn d [] [] ([] : zW) ([] : zW) xL_9 5 (some .boolean) xE_116 (xE_116.drop 8) [.ref 40, .int a1, .int a2, .ref 1000006, .int a4, .null, .null, .null, .null] [] s Q) (h : v_116_8 (fun j => Zt d (wd 39 j) j) 39 1000006 R8 a1 a2 a4 s Q) : Zn d [] [] ([] : zW) ([] : zW) xL_9 5 (some .boolean) xE_116 (xE_116.drop 8) [.ref 40, .int a1, .int a2, .ref 1000006, .int a4, .null, .null, .null, .null] [] s Q := by
  unfold v_116_8 at h
  refine zn_ld rfl rfl rfl ?_
  refine zn_ld rfl rfl rfl ?_
  refine zn_lenS rfl rfl ?_
  change Zn _ _ _ _ _ _ _ _ _ _ _ [.int (xnS (1000006 % 1000000)), .int a4] _ _
  refine zn_brP rfl rfl ⟨fun hcn => ?_, fun hcn => ?_⟩
  · replace h := h.1 ((i_le (x := xnS (1000006 % 1000000)) (y := a4) rfl rfl).mp hcn)
    refine zn_c [.int 1] (xo_push (.int 1)) rfl rfl ?_
    exact zn_retZ rfl rfl h
  · replace h := h.2 (fun q => hcn ((i_le (x := xnS (1000006 % 1000000)) (y := a4) rfl rfl).mpr q))
    refine zn_ld rfl rfl rfl ?_
    refine zn_get (v := .ref 41) rfl (zv_R (a := 40) rfl rfl) ?_
    refine zn_ld rfl rfl rfl ?_
    refine zn_ld rfl rfl rfl ?_
    replace h := h _ (i_add (x := a1) (y := a4) rfl rfl)
    refine zn_c [.int (a1 + a4), .ref 41] xo_iadd rfl rfl ?_
    refine zn_row (a1 + a4) [] (a := 41) hd rfl rfl rfl rfl ?_
    change Zn _ _ _ _ _ _ _ _ _ _ _ [.int (zg s 41 (a1 + a4))] _ _
    refine zn_ld rfl rfl rfl ?_
    refine zn_ld rfl rfl rfl ?_
    refine zn_chS rfl rfl rfl h.1 ?_
    replace h := h.2
    change Zn _ _ _ _ _ _ _ _ _ _ _ [.int (xch (1000006 % 1000000) a4), .int (zg s 41 (a1 + a4))] _ _
    refine zn_brP rfl rfl ⟨fun hcn => ?_, fun hcn => ?_⟩
    · replace h := h.1 ((i_eq (x := zg s 41 (a1 + a4)) (y := xch (1000006 % 1000000) a4) rfl rfl).mp hcn)
      replace h := h _ (i_add (x := a4) (y := 1) rfl (show (1 : Int32).toInt = 1 by decide))
      refine zn_inc [.ref 40, .int a1, .int a2, .ref 1000006, .int (a4 + 1), .null, .null, .null, .null] rfl rfl rfl rfl ?_
      refine zn_go rfl ?_
      exact r8 a1 a2 (a4 + 1) s h
    · replace h := h.2 (fun q => hcn ((i_eq (x := zg s 41 (a1 + a4)) (y := xch (1000006 % 1000000) a4) rfl rfl).mpr q))
      refine zn_c [.int 0] (xo_push (.int 0)) rfl rfl ?_
      exact zn_retZ rfl rfl h
theorem ml_116_8_39e1000006 {d d0 : Nat} (hd : d = d0 + 8)  {a1 : Int32} {a2 : Int32} {a4 : Int32} {s : zS} {Q : Option Value → zS → Prop}  (h : vl_116_8 (fun j => Zt d (wd 39 j) j) 39 1000006  a1 a2 a4 s Q) : Zn d [] [] ([] : zW) ([] : zW) xL_9 5 (some .boolean) xE_116 (xE_116.drop 8) [.ref 40, .int a1, .int a2, .ref 1000006, .int a4, .null, .null, .null, .null] [] s Q := by
  obtain ⟨I, μ, h0, h1⟩ := h
  have key : ∀ (n : Nat) (a1 : Int32) (a2 : Int32) (a4 : Int32) (s : zS), μ a1 a2 a4 s = n → I a1 a2 a4 s → Zn d [] [] ([] : zW) ([] : zW) xL_9 5 (some .boolean) xE_116 (xE_116.drop 8) [.ref 40, .int a1, .int a2, .ref 1000006, .int a4, .null, .null, .null, .null] [] s Q := by
    intro n
    induction n using Nat.strongRecOn with
    | ind n ih =>
      intro a1 a2 a4 s e hI
      exact m_116_8_39e1000006 hd (fun a1' a2' a4' s' q => ih _ (by rw [← e]; exact q.2) a1' a2' a4' s' rfl q.1) (h1 a1 a2 a4 s hI)
  exact key _ a1 a2 a4 s rfl h0
set_option maxRecDepth 20000 in
theorem m_116_0_39e1000006 {d d0 : Nat} (hd : d = d0 + 8)  {a1 : Int32} {a2 : Int32} {s : zS} {Q : Option Value → zS → Prop}  (h : v_116_0 (fun j => Zt d (wd 39 j) j) 39 1000006  a1 a2 s Q) : Zn d [] [] ([] : zW) ([] : zW) xL_9 5 (some .boolean) xE_116 (xE_116.drop 0) [.ref 40, .int a1, .int a2, .ref 1000006, .null, .null, .null, .null, .null] [] s Q := by
  unfold v_116_0 at h
  refine zn_ld rfl rfl rfl ?_
  refine zn_ld rfl rfl rfl ?_
  refine zn_lenS rfl rfl ?_
  change Zn _ _ _ _ _ _ _ _ _ _ _ [.int (xnS (1000006 % 1000000)), .int a2] _ _
  refine zn_brP rfl rfl ⟨fun hcn => ?_, fun hcn => ?_⟩
  · replace h := h.1 ((i_eq (x := a2) (y := xnS (1000006 % 1000000)) rfl rfl).mp hcn)
    refine zn_c [.int 0] (xo_push (.int 0)) rfl rfl ?_
    refine zn_st [.ref 40, .int a1, .int a2, .ref 1000006, .int 0, .null, .null, .null, .null] rfl rfl rfl ?_
    exact ml_116_8_39e1000006 hd  h
  · replace h := h.2 (fun q => hcn ((i_eq (x := a2) (y := xnS (1000006 % 1000000)) rfl rfl).mpr q))
    refine zn_c [.int 0] (xo_push (.int 0)) rfl rfl ?_
    exact zn_retZ rfl rfl h
theorem zq_116_39e1000006 {d : Nat} {a1 : Int32} {a2 : Int32} {s : zS} {Q : Option Value → zS → Prop} (h : v_116_0 (fun j => Zt (d + 8) (wd 39 j) j) 39 1000006 a1 a2 s Q) : Zt (d + 9) ([] : zW) 116 [.ref 40, .int a1, .int a2, .ref 1000006] s Q := zt_of (E := xE_116) (L := xL_9) (ml := 5) (ret := some .boolean) rfl rfl rfl (m_116_0_39e1000006 rfl h)
theorem zc_116 {d P e : Nat} (hP : P = 3 ∨ P = 39) (he : e = 1000001 ∨ e = 1000002 ∨ e = 1000003 ∨ e = 1000004 ∨ e = 1000005 ∨ e = 1000006) {a1 : Int32} {a2 : Int32} {s : zS} {Q : Option Value → zS → Prop} (h : v_116_0 (fun j => Zt (d + 8) (wd P j) j) P e a1 a2 s Q) : Zt (d + 9) (wd P 116) 116 [.ref (P + 1), .int a1, .int a2, .ref e] s Q := by
  rcases hP with rfl | rfl
  · rcases he with rfl | rfl | rfl | rfl | rfl | rfl
    · exact zq_116_3e1000001 h
    · exact zq_116_3e1000002 h
    · exact zq_116_3e1000003 h
    · exact zq_116_3e1000004 h
    · exact zq_116_3e1000005 h
    · exact zq_116_3e1000006 h
  · rcases he with rfl | rfl | rfl | rfl | rfl | rfl
    · exact zq_116_39e1000001 h
    · exact zq_116_39e1000002 h
    · exact zq_116_39e1000003 h
    · exact zq_116_39e1000004 h
    · exact zq_116_39e1000005 h
    · exact zq_116_39e1000006 h
/-! FeatherBench$Text.scan -/
def v_110_50 (T : Nat → List Value → zS → (Option Value → zS → Prop) → Prop) (P : Nat)  (a2 : Int32) (a3 : Int32) (s : zS) (Q : Option Value → zS → Prop) : Prop :=
  T 113 [.ref (P + 1), .int 0, .int (s.1 (P + 2) 2), .int 0] s (fun v1 s2 => v1 = none ∧ (∀ s3, s3 = zt s2 (P + 4) (s2.1 (P + 4) 2) 0 → Q none s3))
def v_110_36 (T : Nat → List Value → zS → (Option Value → zS → Prop) → Prop) (P : Nat) (R36 : Int32 → Int32 → zS → Prop) (a2 : Int32) (a3 : Int32) (s : zS) (Q : Option Value → zS → Prop) : Prop :=
  (4000 ≤ a3.toInt → v_110_50 T P  a2 a3 s Q) ∧ (¬ (4000 ≤ a3.toInt) → ((s.1 (P + 2) 2).toInt ≤ a2.toInt → v_110_50 T P  a2 a3 s Q) ∧ (¬ ((s.1 (P + 2) 2).toInt ≤ a2.toInt) → T 112 [.ref (P + 1), .int a2] s (fun v1 s2 => ∃ x3, v1 = some (.int x3) ∧ (∀ x4 : Int32, (-2147483648 ≤ a3.toInt + 1 ∧ a3.toInt + 1 ≤ 2147483647 → x4.toInt = a3.toInt + 1) → R36 x3 x4 s2))))
def vl_110_36 (T : Nat → List Value → zS → (Option Value → zS → Prop) → Prop) (P : Nat)  (a2 : Int32) (a3 : Int32) (s : zS) (Q : Option Value → zS → Prop) : Prop :=
  ∃ (I : Int32 → Int32 → zS → Prop) (μ : Int32 → Int32 → zS → Nat), I a2 a3 s ∧ ∀ (a2 : Int32) (a3 : Int32) (s : zS), I a2 a3 s → v_110_36 T P (fun a2' a3' s' => I a2' a3' s' ∧ μ a2' a3' s' < μ a2 a3 s) a2 a3 s Q
def v_110_19 (T : Nat → List Value → zS → (Option Value → zS → Prop) → Prop) (P : Nat) (R19 : Int32 → zS → Prop) (a2 : Int32) (s : zS) (Q : Option Value → zS → Prop) : Prop :=
  (64 ≤ a2.toInt → ∀ s1, s1 = zf s (P + 4) 2 0 → vl_110_36 T P  0 0 s1 Q) ∧ (¬ (64 ≤ a2.toInt) → ∀ s2, s2 = zt s (P + 14) a2 0 → ∀ x3 : Int32, (-2147483648 ≤ a2.toInt + 1 ∧ a2.toInt + 1 ≤ 2147483647 → x3.toInt = a2.toInt + 1) → R19 x3 s2)
def vl_110_19 (T : Nat → List Value → zS → (Option Value → zS → Prop) → Prop) (P : Nat)  (a2 : Int32) (s : zS) (Q : Option Value → zS → Prop) : Prop :=
  ∃ (I : Int32 → zS → Prop) (μ : Int32 → zS → Nat), I a2 s ∧ ∀ (a2 : Int32) (s : zS), I a2 s → v_110_19 T P (fun a2' s' => I a2' s' ∧ μ a2' s' < μ a2 s) a2 s Q
def v_110_5 (T : Nat → List Value → zS → (Option Value → zS → Prop) → Prop) (P : Nat) (R5 : Int32 → zS → Prop) (a2 : Int32) (s : zS) (Q : Option Value → zS → Prop) : Prop :=
  ((s.1 1 2).toInt ≤ a2.toInt → vl_110_19 T P  0 s Q) ∧ (¬ ((s.1 1 2).toInt ≤ a2.toInt) → ∀ s1, s1 = za s (P + 2) (zg s 1 a2) → ∀ x2 : Int32, (-2147483648 ≤ a2.toInt + 1 ∧ a2.toInt + 1 ≤ 2147483647 → x2.toInt = a2.toInt + 1) → R5 x2 s1)
def vl_110_5 (T : Nat → List Value → zS → (Option Value → zS → Prop) → Prop) (P : Nat)  (a2 : Int32) (s : zS) (Q : Option Value → zS → Prop) : Prop :=
  ∃ (I : Int32 → zS → Prop) (μ : Int32 → zS → Nat), I a2 s ∧ ∀ (a2 : Int32) (s : zS), I a2 s → v_110_5 T P (fun a2' s' => I a2' s' ∧ μ a2' s' < μ a2 s) a2 s Q
def v_110_0 (T : Nat → List Value → zS → (Option Value → zS → Prop) → Prop) (P : Nat)   (s : zS) (Q : Option Value → zS → Prop) : Prop :=
  ∀ s1, s1 = zf s (P + 2) 2 0 → vl_110_5 T P  0 s1 Q
set_option maxRecDepth 20000 in
theorem m_110_50_3 {d d0 : Nat} (hd : d = d0 + 8)  {a2 : Int32} {a3 : Int32} {s : zS} {Q : Option Value → zS → Prop}  (h : v_110_50 (fun j => Zt d (wd 3 j) j) 3  a2 a3 s Q) : Zn d [] [(3, 99), (3, 98), (0, 403), (0, 439)] ([] : zW) ([] : zW) xL_9 4 (none) xE_110 (xE_110.drop 50) [.ref 4, .ref 1, .int a2, .int a3, .null, .null] [] s Q := by
  unfold v_110_50 at h
  refine zn_ld rfl rfl rfl ?_
  refine zn_c [.int 0, .ref 4] (xo_push (.int 0)) rfl rfl ?_
  refine zn_ld rfl rfl rfl ?_
  refine zn_get (v := .ref 5) rfl (zv_R (a := 4) rfl rfl) ?_
  refine zn_get (v := .int (s.1 5 2)) rfl (zv_I (a := 5) rfl rfl) ?_
  refine zn_c [.int 0, .int (s.1 5 2), .int 0, .ref 4] (xo_push (.int 0)) rfl rfl ?_
  refine zn_zt [.ref 4, .int 0, .int (s.1 5 2), .int 0] [] rfl rfl rfl rfl rfl (Zt.imp h (fun v1 s2 h => ?_))
  obtain ⟨rfl, h⟩ := h
  change Zn _ _ _ _ _ _ _ _ _ _ _ [] _ _
  refine zn_ld rfl rfl rfl ?_
  refine zn_get (v := .ref 7) rfl (zv_R (a := 4) rfl rfl) ?_
  refine zn_ld rfl rfl rfl ?_
  refine zn_get (v := .ref 7) rfl (zv_R (a := 4) rfl rfl) ?_
  refine zn_get (v := .int (s2.1 7 2)) rfl (zv_I (a := 7) rfl rfl) ?_
  refine zn_c [.int 0, .int (s2.1 7 2), .ref 7] (xo_push (.int 0)) rfl rfl ?_
  refine zn_set (s2.1 7 2) 0 [] (a := 7) hd rfl rfl rfl rfl ⟨Int32.le_toInt _, Int.le_of_lt_add_one (Int32.toInt_lt _)⟩ rfl rfl ?_
  replace h := h _ rfl
  exact zn_ret0 rfl h
set_option maxRecDepth 20000 in
theorem m_110_36_3 {d d0 : Nat} (hd : d = d0 + 8) {R36 : Int32 → Int32 → zS → Prop} {a2 : Int32} {a3 : Int32} {s : zS} {Q : Option Value → zS → Prop} (r36 : ∀ a2 a3 s, R36 a2 a3 s → Zn d [] [(3, 99), (3, 98), (0, 403), (0, 439)] ([] : zW) ([] : zW) xL_9 4 (none) xE_110 (xE_110.drop 36) [.ref 4, .ref 1, .int a2, .int a3, .null, .null] [] s Q) (h : v_110_36 (fun j => Zt d (wd 3 j) j) 3 R36 a2 a3 s Q) : Zn d [] [(3, 99), (3, 98), (0, 403), (0, 439)] ([] : zW) ([] : zW) xL_9 4 (none) xE_110 (xE_110.drop 36) [.ref 4, .ref 1, .int a2, .int a3, .null, .null] [] s Q := by
  unfold v_110_36 at h
  refine zn_ld rfl rfl rfl ?_
  refine zn_c [.int 4000, .int a3] (xo_push (.int 4000)) rfl rfl ?_
  refine zn_brP rfl rfl ⟨fun hcn => ?_, fun hcn => ?_⟩
  · replace h := h.1 ((i_le (x := 4000) (y := a3) (show (4000 : Int32).toInt = 4000 by decide) rfl).mp hcn)
    exact m_110_50_3 hd  h
  · replace h := h.2 (fun q => hcn ((i_le (x := 4000) (y := a3) (show (4000 : Int32).toInt = 4000 by decide) rfl).mpr q))
    refine zn_ld rfl rfl rfl ?_
    refine zn_ld rfl rfl rfl ?_
    refine zn_get (v := .ref 5) rfl (zv_R (a := 4) rfl rfl) ?_
    refine zn_get (v := .int (s.1 5 2)) rfl (zv_I (a := 5) rfl rfl) ?_
    refine zn_brP rfl rfl ⟨fun hcn => ?_, fun hcn => ?_⟩
    · replace h := h.1 ((i_le (x := s.1 5 2) (y := a2) rfl rfl).mp hcn)
      exact m_110_50_3 hd  h
    · replace h := h.2 (fun q => hcn ((i_le (x := s.1 5 2) (y := a2) rfl rfl).mpr q))
      refine zn_ld rfl rfl rfl ?_
      refine zn_ld rfl rfl rfl ?_
      refine zn_zt [.ref 4, .int a2] [] rfl rfl rfl rfl rfl (Zt.imp h (fun v1 s2 h => ?_))
      obtain ⟨x3, rfl, h⟩ := h
      change Zn _ _ _ _ _ _ _ _ _ _ _ [.int x3] _ _
      refine zn_st [.ref 4, .ref 1, .int x3, .int a3, .null, .null] rfl rfl rfl ?_
      replace h := h _ (i_add (x := a3) (y := 1) rfl (show (1 : Int32).toInt = 1 by decide))
      refine zn_inc [.ref 4, .ref 1, .int x3, .int (a3 + 1), .null, .null] rfl rfl rfl rfl ?_
      refine zn_go rfl ?_
      exact r36 x3 (a3 + 1) s2 h
theorem ml_110_36_3 {d d0 : Nat} (hd : d = d0 + 8)  {a2 : Int32} {a3 : Int32} {s : zS} {Q : Option Value → zS → Prop}  (h : vl_110_36 (fun j => Zt d (wd 3 j) j) 3  a2 a3 s Q) : Zn d [] [(3, 99), (3, 98), (0, 403), (0, 439)] ([] : zW) ([] : zW) xL_9 4 (none) xE_110 (xE_110.drop 36) [.ref 4, .ref 1, .int a2, .int a3, .null, .null] [] s Q := by
  obtain ⟨I, μ, h0, h1⟩ := h
  have key : ∀ (n : Nat) (a2 : Int32) (a3 : Int32) (s : zS), μ a2 a3 s = n → I a2 a3 s → Zn d [] [(3, 99), (3, 98), (0, 403), (0, 439)] ([] : zW) ([] : zW) xL_9 4 (none) xE_110 (xE_110.drop 36) [.ref 4, .ref 1, .int a2, .int a3, .null, .null] [] s Q := by
    intro n
    induction n using Nat.strongRecOn with
    | ind n ih =>
      intro a2 a3 s e hI
      exact m_110_36_3 hd (fun a2' a3' s' q => ih _ (by rw [← e]; exact q.2) a2' a3' s' rfl q.1) (h1 a2 a3 s hI)
  exact key _ a2 a3 s rfl h0
set_option maxRecDepth 20000 in
theorem m_110_19_3 {d d0 : Nat} (hd : d = d0 + 8) {R19 : Int32 → zS → Prop} {a2 : Int32} {s : zS} {Q : Option Value → zS → Prop} (r19 : ∀ a2 s, R19 a2 s → Zn d [] [(3, 99), (3, 98), (0, 403), (0, 439)] ([] : zW) ([] : zW) xL_9 4 (none) xE_110 (xE_110.drop 19) [.ref 4, .ref 1, .int a2, .null, .null, .null] [] s Q) (h : v_110_19 (fun j => Zt d (wd 3 j) j) 3 R19 a2 s Q) : Zn d [] [(3, 99), (3, 98), (0, 403), (0, 439)] ([] : zW) ([] : zW) xL_9 4 (none) xE_110 (xE_110.drop 19) [.ref 4, .ref 1, .int a2, .null, .null, .null] [] s Q := by
  unfold v_110_19 at h
  refine zn_ld rfl rfl rfl ?_
  refine zn_c [.int 64, .int a2] (xo_push (.int 64)) rfl rfl ?_
  refine zn_brP rfl rfl ⟨fun hcn => ?_, fun hcn => ?_⟩
  · replace h := h.1 ((i_le (x := 64) (y := a2) (show (64 : Int32).toInt = 64 by decide) rfl).mp hcn)
    refine zn_ld rfl rfl rfl ?_
    refine zn_get (v := .ref 7) rfl (zv_R (a := 4) rfl rfl) ?_
    refine zn_clr [] (a := 7) hd rfl rfl rfl rfl rfl ?_
    replace h := h _ rfl
    refine zn_c [.int 0] (xo_push (.int 0)) rfl rfl ?_
    refine zn_st [.ref 4, .ref 1, .int 0, .null, .null, .null] rfl rfl rfl ?_
    refine zn_c [.int 0] (xo_push (.int 0)) rfl rfl ?_
    refine zn_st [.ref 4, .ref 1, .int 0, .int 0, .null, .null] rfl rfl rfl ?_
    exact ml_110_36_3 hd  h
  · replace h := h.2 (fun q => hcn ((i_le (x := 64) (y := a2) (show (64 : Int32).toInt = 64 by decide) rfl).mpr q))
    refine zn_ld rfl rfl rfl ?_
    refine zn_get (v := .ref 17) rfl (zv_R (a := 4) rfl rfl) ?_
    refine zn_ld rfl rfl rfl ?_
    refine zn_c [.int 0, .int a2, .ref 17] (xo_push (.int 0)) rfl rfl ?_
    refine zn_set a2 0 [] (a := 17) hd rfl rfl rfl rfl (by decide) rfl rfl ?_
    replace h := h _ rfl
    replace h := h _ (i_add (x := a2) (y := 1) rfl (show (1 : Int32).toInt = 1 by decide))
    refine zn_inc [.ref 4, .ref 1, .int (a2 + 1), .null, .null, .null] rfl rfl rfl rfl ?_
    refine zn_go rfl ?_
    exact r19 (a2 + 1) (zt s 17 a2 0) h
theorem ml_110_19_3 {d d0 : Nat} (hd : d = d0 + 8)  {a2 : Int32} {s : zS} {Q : Option Value → zS → Prop}  (h : vl_110_19 (fun j => Zt d (wd 3 j) j) 3  a2 s Q) : Zn d [] [(3, 99), (3, 98), (0, 403), (0, 439)] ([] : zW) ([] : zW) xL_9 4 (none) xE_110 (xE_110.drop 19) [.ref 4, .ref 1, .int a2, .null, .null, .null] [] s Q := by
  obtain ⟨I, μ, h0, h1⟩ := h
  have key : ∀ (n : Nat) (a2 : Int32) (s : zS), μ a2 s = n → I a2 s → Zn d [] [(3, 99), (3, 98), (0, 403), (0, 439)] ([] : zW) ([] : zW) xL_9 4 (none) xE_110 (xE_110.drop 19) [.ref 4, .ref 1, .int a2, .null, .null, .null] [] s Q := by
    intro n
    induction n using Nat.strongRecOn with
    | ind n ih =>
      intro a2 s e hI
      exact m_110_19_3 hd (fun a2' s' q => ih _ (by rw [← e]; exact q.2) a2' s' rfl q.1) (h1 a2 s hI)
  exact key _ a2 s rfl h0
set_option maxRecDepth 20000 in
theorem m_110_5_3 {d d0 : Nat} (hd : d = d0 + 8) {R5 : Int32 → zS → Prop} {a2 : Int32} {s : zS} {Q : Option Value → zS → Prop} (r5 : ∀ a2 s, R5 a2 s → Zn d [] [(3, 99), (3, 98), (0, 403), (0, 439)] ([] : zW) ([] : zW) xL_9 4 (none) xE_110 (xE_110.drop 5) [.ref 4, .ref 1, .int a2, .null, .null, .null] [] s Q) (h : v_110_5 (fun j => Zt d (wd 3 j) j) 3 R5 a2 s Q) : Zn d [] [(3, 99), (3, 98), (0, 403), (0, 439)] ([] : zW) ([] : zW) xL_9 4 (none) xE_110 (xE_110.drop 5) [.ref 4, .ref 1, .int a2, .null, .null, .null] [] s Q := by
  unfold v_110_5 at h
  refine zn_ld rfl rfl rfl ?_
  refine zn_ld rfl rfl rfl ?_
  refine zn_get (v := .int (s.1 1 2)) rfl (zv_I (a := 1) rfl rfl) ?_
  refine zn_brP rfl rfl ⟨fun hcn => ?_, fun hcn => ?_⟩
  · replace h := h.1 ((i_le (x := s.1 1 2) (y := a2) rfl rfl).mp hcn)
    refine zn_c [.int 0] (xo_push (.int 0)) rfl rfl ?_
    refine zn_st [.ref 4, .ref 1, .int 0, .null, .null, .null] rfl rfl rfl ?_
    exact ml_110_19_3 hd  h
  · replace h := h.2 (fun q => hcn ((i_le (x := s.1 1 2) (y := a2) rfl rfl).mpr q))
    refine zn_ld rfl rfl rfl ?_
    refine zn_get (v := .ref 5) rfl (zv_R (a := 4) rfl rfl) ?_
    refine zn_ld rfl rfl rfl ?_
    refine zn_ld rfl rfl rfl ?_
    refine zn_row a2 [.ref 5] (a := 1) hd rfl rfl rfl rfl ?_
    change Zn _ _ _ _ _ _ _ _ _ _ _ [.int (zg s 1 a2), .ref 5] _ _
    refine zn_add (zg s 1 a2) [] (a := 5) hd rfl rfl rfl rfl ⟨Int32.le_toInt _, Int.le_of_lt_add_one (Int32.toInt_lt _)⟩ (fun q => absurd q (by decide)) rfl ?_
    replace h := h _ rfl
    replace h := h _ (i_add (x := a2) (y := 1) rfl (show (1 : Int32).toInt = 1 by decide))
    refine zn_inc [.ref 4, .ref 1, .int (a2 + 1), .null, .null, .null] rfl rfl rfl rfl ?_
    refine zn_go rfl ?_
    exact r5 (a2 + 1) (za s 5 (zg s 1 a2)) h
theorem ml_110_5_3 {d d0 : Nat} (hd : d = d0 + 8)  {a2 : Int32} {s : zS} {Q : Option Value → zS → Prop}  (h : vl_110_5 (fun j => Zt d (wd 3 j) j) 3  a2 s Q) : Zn d [] [(3, 99), (3, 98), (0, 403), (0, 439)] ([] : zW) ([] : zW) xL_9 4 (none) xE_110 (xE_110.drop 5) [.ref 4, .ref 1, .int a2, .null, .null, .null] [] s Q := by
  obtain ⟨I, μ, h0, h1⟩ := h
  have key : ∀ (n : Nat) (a2 : Int32) (s : zS), μ a2 s = n → I a2 s → Zn d [] [(3, 99), (3, 98), (0, 403), (0, 439)] ([] : zW) ([] : zW) xL_9 4 (none) xE_110 (xE_110.drop 5) [.ref 4, .ref 1, .int a2, .null, .null, .null] [] s Q := by
    intro n
    induction n using Nat.strongRecOn with
    | ind n ih =>
      intro a2 s e hI
      exact m_110_5_3 hd (fun a2' s' q => ih _ (by rw [← e]; exact q.2) a2' s' rfl q.1) (h1 a2 s hI)
  exact key _ a2 s rfl h0
set_option maxRecDepth 20000 in
theorem m_110_0_3 {d d0 : Nat} (hd : d = d0 + 8)   {s : zS} {Q : Option Value → zS → Prop}  (h : v_110_0 (fun j => Zt d (wd 3 j) j) 3   s Q) : Zn d [] [(3, 99), (3, 98), (0, 403), (0, 439)] ([] : zW) ([] : zW) xL_9 4 (none) xE_110 (xE_110.drop 0) [.ref 4, .ref 1, .null, .null, .null, .null] [] s Q := by
  unfold v_110_0 at h
  refine zn_ld rfl rfl rfl ?_
  refine zn_get (v := .ref 5) rfl (zv_R (a := 4) rfl rfl) ?_
  refine zn_clr [] (a := 5) hd rfl rfl rfl rfl rfl ?_
  replace h := h _ rfl
  refine zn_c [.int 0] (xo_push (.int 0)) rfl rfl ?_
  refine zn_st [.ref 4, .ref 1, .int 0, .null, .null, .null] rfl rfl rfl ?_
  exact ml_110_5_3 hd  h
theorem zq_110_3 {d : Nat}  {s : zS} {Q : Option Value → zS → Prop} (h : v_110_0 (fun j => Zt (d + 8) (wd 3 j) j) 3  s Q) : Zt (d + 9) ([] : zW) 110 [.ref 4, .ref 1] s Q := zt_of (E := xE_110) (L := xL_9) (ml := 4) (ret := none) rfl rfl rfl (m_110_0_3 rfl h)
set_option maxRecDepth 20000 in
theorem m_110_50_39 {d d0 : Nat} (hd : d = d0 + 8)  {a2 : Int32} {a3 : Int32} {s : zS} {Q : Option Value → zS → Prop}  (h : v_110_50 (fun j => Zt d (wd 39 j) j) 39  a2 a3 s Q) : Zn d [] [(39, 99), (39, 98), (0, 403), (0, 439)] ([] : zW) ([] : zW) xL_9 4 (none) xE_110 (xE_110.drop 50) [.ref 40, .ref 1, .int a2, .int a3, .null, .null] [] s Q := by
  unfold v_110_50 at h
  refine zn_ld rfl rfl rfl ?_
  refine zn_c [.int 0, .ref 40] (xo_push (.int 0)) rfl rfl ?_
  refine zn_ld rfl rfl rfl ?_
  refine zn_get (v := .ref 41) rfl (zv_R (a := 40) rfl rfl) ?_
  refine zn_get (v := .int (s.1 41 2)) rfl (zv_I (a := 41) rfl rfl) ?_
  refine zn_c [.int 0, .int (s.1 41 2), .int 0, .ref 40] (xo_push (.int 0)) rfl rfl ?_
  refine zn_zt [.ref 40, .int 0, .int (s.1 41 2), .int 0] [] rfl rfl rfl rfl rfl (Zt.imp h (fun v1 s2 h => ?_))
  obtain ⟨rfl, h⟩ := h
  change Zn _ _ _ _ _ _ _ _ _ _ _ [] _ _
  refine zn_ld rfl rfl rfl ?_
  refine zn_get (v := .ref 43) rfl (zv_R (a := 40) rfl rfl) ?_
  refine zn_ld rfl rfl rfl ?_
  refine zn_get (v := .ref 43) rfl (zv_R (a := 40) rfl rfl) ?_
  refine zn_get (v := .int (s2.1 43 2)) rfl (zv_I (a := 43) rfl rfl) ?_
  refine zn_c [.int 0, .int (s2.1 43 2), .ref 43] (xo_push (.int 0)) rfl rfl ?_
  refine zn_set (s2.1 43 2) 0 [] (a := 43) hd rfl rfl rfl rfl ⟨Int32.le_toInt _, Int.le_of_lt_add_one (Int32.toInt_lt _)⟩ rfl rfl ?_
  replace h := h _ rfl
  exact zn_ret0 rfl h
set_option maxRecDepth 20000 in
theorem m_110_36_39 {d d0 : Nat} (hd : d = d0 + 8) {R36 : Int32 → Int32 → zS → Prop} {a2 : Int32} {a3 : Int32} {s : zS} {Q : Option Value → zS → Prop} (r36 : ∀ a2 a3 s, R36 a2 a3 s → Zn d [] [(39, 99), (39, 98), (0, 403), (0, 439)] ([] : zW) ([] : zW) xL_9 4 (none) xE_110 (xE_110.drop 36) [.ref 40, .ref 1, .int a2, .int a3, .null, .null] [] s Q) (h : v_110_36 (fun j => Zt d (wd 39 j) j) 39 R36 a2 a3 s Q) : Zn d [] [(39, 99), (39, 98), (0, 403), (0, 439)] ([] : zW) ([] : zW) xL_9 4 (none) xE_110 (xE_110.drop 36) [.ref 40, .ref 1, .int a2, .int a3, .null, .null] [] s Q := by
  unfold v_110_36 at h
  refine zn_ld rfl rfl rfl ?_
  refine zn_c [.int 4000, .int a3] (xo_push (.int 4000)) rfl rfl ?_
  refine zn_brP rfl rfl ⟨fun hcn => ?_, fun hcn => ?_⟩
  · replace h := h.1 ((i_le (x := 4000) (y := a3) (show (4000 : Int32).toInt = 4000 by decide) rfl).mp hcn)
    exact m_110_50_39 hd  h
  · replace h := h.2 (fun q => hcn ((i_le (x := 4000) (y := a3) (show (4000 : Int32).toInt = 4000 by decide) rfl).mpr q))
    refine zn_ld rfl rfl rfl ?_
    refine zn_ld rfl rfl rfl ?_
    refine zn_get (v := .ref 41) rfl (zv_R (a := 40) rfl rfl) ?_
    refine zn_get (v := .int (s.1 41 2)) rfl (zv_I (a := 41) rfl rfl) ?_
    refine zn_brP rfl rfl ⟨fun hcn => ?_, fun hcn => ?_⟩
    · replace h := h.1 ((i_le (x := s.1 41 2) (y := a2) rfl rfl).mp hcn)
      exact m_110_50_39 hd  h
    · replace h := h.2 (fun q => hcn ((i_le (x := s.1 41 2) (y := a2) rfl rfl).mpr q))
      refine zn_ld rfl rfl rfl ?_
      refine zn_ld rfl rfl rfl ?_
      refine zn_zt [.ref 40, .int a2] [] rfl rfl rfl rfl rfl (Zt.imp h (fun v1 s2 h => ?_))
      obtain ⟨x3, rfl, h⟩ := h
      change Zn _ _ _ _ _ _ _ _ _ _ _ [.int x3] _ _
      refine zn_st [.ref 40, .ref 1, .int x3, .int a3, .null, .null] rfl rfl rfl ?_
      replace h := h _ (i_add (x := a3) (y := 1) rfl (show (1 : Int32).toInt = 1 by decide))
      refine zn_inc [.ref 40, .ref 1, .int x3, .int (a3 + 1), .null, .null] rfl rfl rfl rfl ?_
      refine zn_go rfl ?_
      exact r36 x3 (a3 + 1) s2 h
theorem ml_110_36_39 {d d0 : Nat} (hd : d = d0 + 8)  {a2 : Int32} {a3 : Int32} {s : zS} {Q : Option Value → zS → Prop}  (h : vl_110_36 (fun j => Zt d (wd 39 j) j) 39  a2 a3 s Q) : Zn d [] [(39, 99), (39, 98), (0, 403), (0, 439)] ([] : zW) ([] : zW) xL_9 4 (none) xE_110 (xE_110.drop 36) [.ref 40, .ref 1, .int a2, .int a3, .null, .null] [] s Q := by
  obtain ⟨I, μ, h0, h1⟩ := h
  have key : ∀ (n : Nat) (a2 : Int32) (a3 : Int32) (s : zS), μ a2 a3 s = n → I a2 a3 s → Zn d [] [(39, 99), (39, 98), (0, 403), (0, 439)] ([] : zW) ([] : zW) xL_9 4 (none) xE_110 (xE_110.drop 36) [.ref 40, .ref 1, .int a2, .int a3, .null, .null] [] s Q := by
    intro n
    induction n using Nat.strongRecOn with
    | ind n ih =>
      intro a2 a3 s e hI
      exact m_110_36_39 hd (fun a2' a3' s' q => ih _ (by rw [← e]; exact q.2) a2' a3' s' rfl q.1) (h1 a2 a3 s hI)
  exact key _ a2 a3 s rfl h0
set_option maxRecDepth 20000 in
theorem m_110_19_39 {d d0 : Nat} (hd : d = d0 + 8) {R19 : Int32 → zS → Prop} {a2 : Int32} {s : zS} {Q : Option Value → zS → Prop} (r19 : ∀ a2 s, R19 a2 s → Zn d [] [(39, 99), (39, 98), (0, 403), (0, 439)] ([] : zW) ([] : zW) xL_9 4 (none) xE_110 (xE_110.drop 19) [.ref 40, .ref 1, .int a2, .null, .null, .null] [] s Q) (h : v_110_19 (fun j => Zt d (wd 39 j) j) 39 R19 a2 s Q) : Zn d [] [(39, 99), (39, 98), (0, 403), (0, 439)] ([] : zW) ([] : zW) xL_9 4 (none) xE_110 (xE_110.drop 19) [.ref 40, .ref 1, .int a2, .null, .null, .null] [] s Q := by
  unfold v_110_19 at h
  refine zn_ld rfl rfl rfl ?_
  refine zn_c [.int 64, .int a2] (xo_push (.int 64)) rfl rfl ?_
  refine zn_brP rfl rfl ⟨fun hcn => ?_, fun hcn => ?_⟩
  · replace h := h.1 ((i_le (x := 64) (y := a2) (show (64 : Int32).toInt = 64 by decide) rfl).mp hcn)
    refine zn_ld rfl rfl rfl ?_
    refine zn_get (v := .ref 43) rfl (zv_R (a := 40) rfl rfl) ?_
    refine zn_clr [] (a := 43) hd rfl rfl rfl rfl rfl ?_
    replace h := h _ rfl
    refine zn_c [.int 0] (xo_push (.int 0)) rfl rfl ?_
    refine zn_st [.ref 40, .ref 1, .int 0, .null, .null, .null] rfl rfl rfl ?_
    refine zn_c [.int 0] (xo_push (.int 0)) rfl rfl ?_
    refine zn_st [.ref 40, .ref 1, .int 0, .int 0, .null, .null] rfl rfl rfl ?_
    exact ml_110_36_39 hd  h
  · replace h := h.2 (fun q => hcn ((i_le (x := 64) (y := a2) (show (64 : Int32).toInt = 64 by decide) rfl).mpr q))
    refine zn_ld rfl rfl rfl ?_
    refine zn_get (v := .ref 53) rfl (zv_R (a := 40) rfl rfl) ?_
    refine zn_ld rfl rfl rfl ?_
    refine zn_c [.int 0, .int a2, .ref 53] (xo_push (.int 0)) rfl rfl ?_
    refine zn_set a2 0 [] (a := 53) hd rfl rfl rfl rfl (by decide) rfl rfl ?_
    replace h := h _ rfl
    replace h := h _ (i_add (x := a2) (y := 1) rfl (show (1 : Int32).toInt = 1 by decide))
    refine zn_inc [.ref 40, .ref 1, .int (a2 + 1), .null, .null, .null] rfl rfl rfl rfl ?_
    refine zn_go rfl ?_
    exact r19 (a2 + 1) (zt s 53 a2 0) h
theorem ml_110_19_39 {d d0 : Nat} (hd : d = d0 + 8)  {a2 : Int32} {s : zS} {Q : Option Value → zS → Prop}  (h : vl_110_19 (fun j => Zt d (wd 39 j) j) 39  a2 s Q) : Zn d [] [(39, 99), (39, 98), (0, 403), (0, 439)] ([] : zW) ([] : zW) xL_9 4 (none) xE_110 (xE_110.drop 19) [.ref 40, .ref 1, .int a2, .null, .null, .null] [] s Q := by
  obtain ⟨I, μ, h0, h1⟩ := h
  have key : ∀ (n : Nat) (a2 : Int32) (s : zS), μ a2 s = n → I a2 s → Zn d [] [(39, 99), (39, 98), (0, 403), (0, 439)] ([] : zW) ([] : zW) xL_9 4 (none) xE_110 (xE_110.drop 19) [.ref 40, .ref 1, .int a2, .null, .null, .null] [] s Q := by
    intro n
    induction n using Nat.strongRecOn with
    | ind n ih =>
      intro a2 s e hI
      exact m_110_19_39 hd (fun a2' s' q => ih _ (by rw [← e]; exact q.2) a2' s' rfl q.1) (h1 a2 s hI)
  exact key _ a2 s rfl h0
set_option maxRecDepth 20000 in
theorem m_110_5_39 {d d0 : Nat} (hd : d = d0 + 8) {R5 : Int32 → zS → Prop} {a2 : Int32} {s : zS} {Q : Option Value → zS → Prop} (r5 : ∀ a2 s, R5 a2 s → Zn d [] [(39, 99), (39, 98), (0, 403), (0, 439)] ([] : zW) ([] : zW) xL_9 4 (none) xE_110 (xE_110.drop 5) [.ref 40, .ref 1, .int a2, .null, .null, .null] [] s Q) (h : v_110_5 (fun j => Zt d (wd 39 j) j) 39 R5 a2 s Q) : Zn d [] [(39, 99), (39, 98), (0, 403), (0, 439)] ([] : zW) ([] : zW) xL_9 4 (none) xE_110 (xE_110.drop 5) [.ref 40, .ref 1, .int a2, .null, .null, .null] [] s Q := by
  unfold v_110_5 at h
  refine zn_ld rfl rfl rfl ?_
  refine zn_ld rfl rfl rfl ?_
  refine zn_get (v := .int (s.1 1 2)) rfl (zv_I (a := 1) rfl rfl) ?_
  refine zn_brP rfl rfl ⟨fun hcn => ?_, fun hcn => ?_⟩
  · replace h := h.1 ((i_le (x := s.1 1 2) (y := a2) rfl rfl).mp hcn)
    refine zn_c [.int 0] (xo_push (.int 0)) rfl rfl ?_
    refine zn_st [.ref 40, .ref 1, .int 0, .null, .null, .null] rfl rfl rfl ?_
    exact ml_110_19_39 hd  h
  · replace h := h.2 (fun q => hcn ((i_le (x := s.1 1 2) (y := a2) rfl rfl).mpr q))
    refine zn_ld rfl rfl rfl ?_
    refine zn_get (v := .ref 41) rfl (zv_R (a := 40) rfl rfl) ?_
    refine zn_ld rfl rfl rfl ?_
    refine zn_ld rfl rfl rfl ?_
    refine zn_row a2 [.ref 41] (a := 1) hd rfl rfl rfl rfl ?_
    change Zn _ _ _ _ _ _ _ _ _ _ _ [.int (zg s 1 a2), .ref 41] _ _
    refine zn_add (zg s 1 a2) [] (a := 41) hd rfl rfl rfl rfl ⟨Int32.le_toInt _, Int.le_of_lt_add_one (Int32.toInt_lt _)⟩ (fun q => absurd q (by decide)) rfl ?_
    replace h := h _ rfl
    replace h := h _ (i_add (x := a2) (y := 1) rfl (show (1 : Int32).toInt = 1 by decide))
    refine zn_inc [.ref 40, .ref 1, .int (a2 + 1), .null, .null, .null] rfl rfl rfl rfl ?_
    refine zn_go rfl ?_
    exact r5 (a2 + 1) (za s 41 (zg s 1 a2)) h
theorem ml_110_5_39 {d d0 : Nat} (hd : d = d0 + 8)  {a2 : Int32} {s : zS} {Q : Option Value → zS → Prop}  (h : vl_110_5 (fun j => Zt d (wd 39 j) j) 39  a2 s Q) : Zn d [] [(39, 99), (39, 98), (0, 403), (0, 439)] ([] : zW) ([] : zW) xL_9 4 (none) xE_110 (xE_110.drop 5) [.ref 40, .ref 1, .int a2, .null, .null, .null] [] s Q := by
  obtain ⟨I, μ, h0, h1⟩ := h
  have key : ∀ (n : Nat) (a2 : Int32) (s : zS), μ a2 s = n → I a2 s → Zn d [] [(39, 99), (39, 98), (0, 403), (0, 439)] ([] : zW) ([] : zW) xL_9 4 (none) xE_110 (xE_110.drop 5) [.ref 40, .ref 1, .int a2, .null, .null, .null] [] s Q := by
    intro n
    induction n using Nat.strongRecOn with
    | ind n ih =>
      intro a2 s e hI
      exact m_110_5_39 hd (fun a2' s' q => ih _ (by rw [← e]; exact q.2) a2' s' rfl q.1) (h1 a2 s hI)
  exact key _ a2 s rfl h0
set_option maxRecDepth 20000 in
theorem m_110_0_39 {d d0 : Nat} (hd : d = d0 + 8)   {s : zS} {Q : Option Value → zS → Prop}  (h : v_110_0 (fun j => Zt d (wd 39 j) j) 39   s Q) : Zn d [] [(39, 99), (39, 98), (0, 403), (0, 439)] ([] : zW) ([] : zW) xL_9 4 (none) xE_110 (xE_110.drop 0) [.ref 40, .ref 1, .null, .null, .null, .null] [] s Q := by
  unfold v_110_0 at h
  refine zn_ld rfl rfl rfl ?_
  refine zn_get (v := .ref 41) rfl (zv_R (a := 40) rfl rfl) ?_
  refine zn_clr [] (a := 41) hd rfl rfl rfl rfl rfl ?_
  replace h := h _ rfl
  refine zn_c [.int 0] (xo_push (.int 0)) rfl rfl ?_
  refine zn_st [.ref 40, .ref 1, .int 0, .null, .null, .null] rfl rfl rfl ?_
  exact ml_110_5_39 hd  h
theorem zq_110_39 {d : Nat}  {s : zS} {Q : Option Value → zS → Prop} (h : v_110_0 (fun j => Zt (d + 8) (wd 39 j) j) 39  s Q) : Zt (d + 9) ([] : zW) 110 [.ref 40, .ref 1] s Q := zt_of (E := xE_110) (L := xL_9) (ml := 4) (ret := none) rfl rfl rfl (m_110_0_39 rfl h)
theorem zc_110 {d P : Nat} (hP : P = 3 ∨ P = 39)  {s : zS} {Q : Option Value → zS → Prop} (h : v_110_0 (fun j => Zt (d + 8) (wd P j) j) P  s Q) : Zt (d + 9) (wd P 110) 110 [.ref (P + 1), .ref 1] s Q := by
  rcases hP with rfl | rfl
  · exact zq_110_3 h
  · exact zq_110_39 h
/-! FeatherBench$Program.begin -/
def v_37_0 (T : Nat → List Value → zS → (Option Value → zS → Prop) → Prop) (P : Nat)   (s : zS) (Q : Option Value → zS → Prop) : Prop :=
  T 110 [.ref (P + 1), .ref 1] s (fun v1 s2 => v1 = none ∧ (∀ s3, s3 = zf s2 (P + 24) 2 0 → ∀ s4, s4 = zf s3 (P + 26) 2 0 → ∀ s5, s5 = zf s4 (P + 28) 2 0 → ∀ s6, s6 = zf s5 (P + 30) 2 0 → ∀ s7, s7 = zf s6 (P + 32) 2 0 → ∀ s8, s8 = zf s7 (P + 34) 2 0 → ∀ s9, s9 = zf s8 P 10 18738 → ∀ s10, s10 = zf s9 P 14 0 → Q none s10))
set_option maxRecDepth 20000 in
theorem m_37_0_3 {d d0 : Nat} (hd : d = d0 + 8)   {s : zS} {Q : Option Value → zS → Prop}  (h : v_37_0 (fun j => Zt d (wd 3 j) j) 3   s Q) : Zn d [] [(3, 99), (3, 98), (0, 403), (0, 439)] ([] : zW) ([] : zW) xL_4 2 (none) xE_37 (xE_37.drop 0) [.ref 3, .ref 1, .null, .null] [] s Q := by
  unfold v_37_0 at h
  refine zn_ld rfl rfl rfl ?_
  refine zn_get (v := .ref 4) rfl (zv_R (a := 3) rfl rfl) ?_
  refine zn_ld rfl rfl rfl ?_
  refine zn_zt [.ref 4, .ref 1] [] rfl rfl rfl rfl rfl (Zt.imp h (fun v1 s2 h => ?_))
  obtain ⟨rfl, h⟩ := h
  change Zn _ _ _ _ _ _ _ _ _ _ _ [] _ _
  refine zn_ld rfl rfl rfl ?_
  refine zn_get (v := .ref 27) rfl (zv_R (a := 3) rfl rfl) ?_
  refine zn_clr [] (a := 27) hd rfl rfl rfl rfl rfl ?_
  replace h := h _ rfl
  refine zn_ld rfl rfl rfl ?_
  refine zn_get (v := .ref 29) rfl (zv_R (a := 3) rfl rfl) ?_
  refine zn_clr [] (a := 29) hd rfl rfl rfl rfl rfl ?_
  replace h := h _ rfl
  refine zn_ld rfl rfl rfl ?_
  refine zn_get (v := .ref 31) rfl (zv_R (a := 3) rfl rfl) ?_
  refine zn_clr [] (a := 31) hd rfl rfl rfl rfl rfl ?_
  replace h := h _ rfl
  refine zn_ld rfl rfl rfl ?_
  refine zn_get (v := .ref 33) rfl (zv_R (a := 3) rfl rfl) ?_
  refine zn_clr [] (a := 33) hd rfl rfl rfl rfl rfl ?_
  replace h := h _ rfl
  refine zn_ld rfl rfl rfl ?_
  refine zn_get (v := .ref 35) rfl (zv_R (a := 3) rfl rfl) ?_
  refine zn_clr [] (a := 35) hd rfl rfl rfl rfl rfl ?_
  replace h := h _ rfl
  refine zn_ld rfl rfl rfl ?_
  refine zn_get (v := .ref 37) rfl (zv_R (a := 3) rfl rfl) ?_
  refine zn_clr [] (a := 37) hd rfl rfl rfl rfl rfl ?_
  replace h := h _ rfl
  refine zn_ld rfl rfl rfl ?_
  refine zn_c [.int 18738, .ref 3] (xo_push (.int 18738)) rfl rfl ?_
  refine zn_putI (a := 3) rfl rfl rfl rfl (by decide) rfl rfl rfl ?_ (hkl := Or.inr (Or.inl ⟨⟨by decide, rfl⟩, by decide⟩))
  replace h := h _ rfl
  refine zn_ld rfl rfl rfl ?_
  refine zn_c [.int 0, .ref 3] (xo_push (.int 0)) rfl rfl ?_
  refine zn_putI (a := 3) rfl rfl rfl rfl ⟨Int32.le_toInt _, Int.le_of_lt_add_one (Int32.toInt_lt _)⟩ rfl rfl rfl ?_
  replace h := h _ rfl
  exact zn_ret0 rfl h
theorem zq_37_3 {d : Nat}  {s : zS} {Q : Option Value → zS → Prop} (h : v_37_0 (fun j => Zt (d + 8) (wd 3 j) j) 3  s Q) : Zt (d + 9) ([] : zW) 37 [.ref 3, .ref 1] s Q := zt_of (E := xE_37) (L := xL_4) (ml := 2) (ret := none) rfl rfl rfl (m_37_0_3 rfl h)
set_option maxRecDepth 20000 in
theorem m_37_0_39 {d d0 : Nat} (hd : d = d0 + 8)   {s : zS} {Q : Option Value → zS → Prop}  (h : v_37_0 (fun j => Zt d (wd 39 j) j) 39   s Q) : Zn d [] [(39, 99), (39, 98), (0, 403), (0, 439)] ([] : zW) ([] : zW) xL_4 2 (none) xE_37 (xE_37.drop 0) [.ref 39, .ref 1, .null, .null] [] s Q := by
  unfold v_37_0 at h
  refine zn_ld rfl rfl rfl ?_
  refine zn_get (v := .ref 40) rfl (zv_R (a := 39) rfl rfl) ?_
  refine zn_ld rfl rfl rfl ?_
  refine zn_zt [.ref 40, .ref 1] [] rfl rfl rfl rfl rfl (Zt.imp h (fun v1 s2 h => ?_))
  obtain ⟨rfl, h⟩ := h
  change Zn _ _ _ _ _ _ _ _ _ _ _ [] _ _
  refine zn_ld rfl rfl rfl ?_
  refine zn_get (v := .ref 63) rfl (zv_R (a := 39) rfl rfl) ?_
  refine zn_clr [] (a := 63) hd rfl rfl rfl rfl rfl ?_
  replace h := h _ rfl
  refine zn_ld rfl rfl rfl ?_
  refine zn_get (v := .ref 65) rfl (zv_R (a := 39) rfl rfl) ?_
  refine zn_clr [] (a := 65) hd rfl rfl rfl rfl rfl ?_
  replace h := h _ rfl
  refine zn_ld rfl rfl rfl ?_
  refine zn_get (v := .ref 67) rfl (zv_R (a := 39) rfl rfl) ?_
  refine zn_clr [] (a := 67) hd rfl rfl rfl rfl rfl ?_
  replace h := h _ rfl
  refine zn_ld rfl rfl rfl ?_
  refine zn_get (v := .ref 69) rfl (zv_R (a := 39) rfl rfl) ?_
  refine zn_clr [] (a := 69) hd rfl rfl rfl rfl rfl ?_
  replace h := h _ rfl
  refine zn_ld rfl rfl rfl ?_
  refine zn_get (v := .ref 71) rfl (zv_R (a := 39) rfl rfl) ?_
  refine zn_clr [] (a := 71) hd rfl rfl rfl rfl rfl ?_
  replace h := h _ rfl
  refine zn_ld rfl rfl rfl ?_
  refine zn_get (v := .ref 73) rfl (zv_R (a := 39) rfl rfl) ?_
  refine zn_clr [] (a := 73) hd rfl rfl rfl rfl rfl ?_
  replace h := h _ rfl
  refine zn_ld rfl rfl rfl ?_
  refine zn_c [.int 18738, .ref 39] (xo_push (.int 18738)) rfl rfl ?_
  refine zn_putI (a := 39) rfl rfl rfl rfl (by decide) rfl rfl rfl ?_ (hkl := Or.inr (Or.inl ⟨⟨by decide, rfl⟩, by decide⟩))
  replace h := h _ rfl
  refine zn_ld rfl rfl rfl ?_
  refine zn_c [.int 0, .ref 39] (xo_push (.int 0)) rfl rfl ?_
  refine zn_putI (a := 39) rfl rfl rfl rfl ⟨Int32.le_toInt _, Int.le_of_lt_add_one (Int32.toInt_lt _)⟩ rfl rfl rfl ?_
  replace h := h _ rfl
  exact zn_ret0 rfl h
theorem zq_37_39 {d : Nat}  {s : zS} {Q : Option Value → zS → Prop} (h : v_37_0 (fun j => Zt (d + 8) (wd 39 j) j) 39  s Q) : Zt (d + 9) ([] : zW) 37 [.ref 39, .ref 1] s Q := zt_of (E := xE_37) (L := xL_4) (ml := 2) (ret := none) rfl rfl rfl (m_37_0_39 rfl h)
theorem zc_37 {d P : Nat} (hP : P = 3 ∨ P = 39)  {s : zS} {Q : Option Value → zS → Prop} (h : v_37_0 (fun j => Zt (d + 8) (wd P j) j) P  s Q) : Zt (d + 9) (wd P 37) 37 [.ref P, .ref 1] s Q := by
  rcases hP with rfl | rfl
  · exact zq_37_3 h
  · exact zq_37_39 h
