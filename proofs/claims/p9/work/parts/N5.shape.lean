/-! FeatherBench$Shapes.enter -/
def v_82_0 (T : Nat → List Value → zS → (Option Value → zS → Prop) → Prop) (P : Nat)  (a1 : Int32) (a2 : Int32) (a3 : Int32) (s : zS) (Q : Option Value → zS → Prop) : Prop :=
  ∀ s1, s1 = zf s 75 4 a1 → ∀ s2, s2 = zf s1 75 5 a2 → ∀ s3, s3 = zf s2 75 6 a3 → Q none s3
set_option maxRecDepth 20000 in
theorem m_82_0_3 {d d0 : Nat} (hd : d = d0 + 8)  {a1 : Int32} {a2 : Int32} {a3 : Int32} {s : zS} {Q : Option Value → zS → Prop}  (h : v_82_0 (fun j => Zt d (wd 3 j) j) 3  a1 a2 a3 s Q) : Zn d [] [] ([(75, 0, 3), (75, 1, 21), (75, 2, 25)] : zW) ([(75, 0, 3), (75, 1, 21), (75, 2, 25)] : zW) xL_7 4 (none) xE_82 (xE_82.drop 0) [.ref 75, .int a1, .int a2, .int a3, .null, .null, .null, .null] [] s Q := by
  unfold v_82_0 at h
  refine zn_ld rfl rfl rfl ?_
  refine zn_ld rfl rfl rfl ?_
  refine zn_putI (a := 75) rfl rfl rfl rfl ⟨Int32.le_toInt _, Int.le_of_lt_add_one (Int32.toInt_lt _)⟩ rfl rfl rfl ?_
  replace h := h _ rfl
  refine zn_ld rfl rfl rfl ?_
  refine zn_ld rfl rfl rfl ?_
  refine zn_putI (a := 75) rfl rfl rfl rfl ⟨Int32.le_toInt _, Int.le_of_lt_add_one (Int32.toInt_lt _)⟩ rfl rfl rfl ?_
  replace h := h _ rfl
  refine zn_ld rfl rfl rfl ?_
  refine zn_ld rfl rfl rfl ?_
  refine zn_putI (a := 75) rfl rfl rfl rfl ⟨Int32.le_toInt _, Int.le_of_lt_add_one (Int32.toInt_lt _)⟩ rfl rfl rfl ?_
  replace h := h _ rfl
  exact zn_ret0 rfl h
theorem zq_82_3 {d : Nat} {a1 : Int32} {a2 : Int32} {a3 : Int32} {s : zS} {Q : Option Value → zS → Prop} (h : v_82_0 (fun j => Zt (d + 8) (wd 3 j) j) 3 a1 a2 a3 s Q) : Zt (d + 9) ([(75, 0, 3), (75, 1, 21), (75, 2, 25)] : zW) 82 [.ref 75, .int a1, .int a2, .int a3] s Q := zt_of (E := xE_82) (L := xL_7) (ml := 4) (ret := none) rfl rfl rfl (m_82_0_3 rfl h)
set_option maxRecDepth 20000 in
theorem m_82_0_39 {d d0 : Nat} (hd : d = d0 + 8)  {a1 : Int32} {a2 : Int32} {a3 : Int32} {s : zS} {Q : Option Value → zS → Prop}  (h : v_82_0 (fun j => Zt d (wd 39 j) j) 39  a1 a2 a3 s Q) : Zn d [] [] ([(75, 0, 39), (75, 1, 57), (75, 2, 61)] : zW) ([(75, 0, 39), (75, 1, 57), (75, 2, 61)] : zW) xL_7 4 (none) xE_82 (xE_82.drop 0) [.ref 75, .int a1, .int a2, .int a3, .null, .null, .null, .null] [] s Q := by
  unfold v_82_0 at h
  refine zn_ld rfl rfl rfl ?_
  refine zn_ld rfl rfl rfl ?_
  refine zn_putI (a := 75) rfl rfl rfl rfl ⟨Int32.le_toInt _, Int.le_of_lt_add_one (Int32.toInt_lt _)⟩ rfl rfl rfl ?_
  replace h := h _ rfl
  refine zn_ld rfl rfl rfl ?_
  refine zn_ld rfl rfl rfl ?_
  refine zn_putI (a := 75) rfl rfl rfl rfl ⟨Int32.le_toInt _, Int.le_of_lt_add_one (Int32.toInt_lt _)⟩ rfl rfl rfl ?_
  replace h := h _ rfl
  refine zn_ld rfl rfl rfl ?_
  refine zn_ld rfl rfl rfl ?_
  refine zn_putI (a := 75) rfl rfl rfl rfl ⟨Int32.le_toInt _, Int.le_of_lt_add_one (Int32.toInt_lt _)⟩ rfl rfl rfl ?_
  replace h := h _ rfl
  exact zn_ret0 rfl h
theorem zq_82_39 {d : Nat} {a1 : Int32} {a2 : Int32} {a3 : Int32} {s : zS} {Q : Option Value → zS → Prop} (h : v_82_0 (fun j => Zt (d + 8) (wd 39 j) j) 39 a1 a2 a3 s Q) : Zt (d + 9) ([(75, 0, 39), (75, 1, 57), (75, 2, 61)] : zW) 82 [.ref 75, .int a1, .int a2, .int a3] s Q := zt_of (E := xE_82) (L := xL_7) (ml := 4) (ret := none) rfl rfl rfl (m_82_0_39 rfl h)
theorem zc_82 {d P : Nat} (hP : P = 3 ∨ P = 39) {a1 : Int32} {a2 : Int32} {a3 : Int32} {s : zS} {Q : Option Value → zS → Prop} (h : v_82_0 (fun j => Zt (d + 8) (wd P j) j) P a1 a2 a3 s Q) : Zt (d + 9) (wd P 82) 82 [.ref 75, .int a1, .int a2, .int a3] s Q := by
  rcases hP with rfl | rfl
  · exact zq_82_3 h
  · exact zq_82_39 h
/-! FeatherBench$Shapes.end -/
def v_83_26 (T : Nat → List Value → zS → (Option Value → zS → Prop) → Prop) (P : Nat)  (a1 : Int32) (a2 : Int32) (a3 : Int32) (a4 : Int32) (s : zS) (Q : Option Value → zS → Prop) : Prop :=
  Q (some (.int a2)) s
def v_83_6 (T : Nat → List Value → zS → (Option Value → zS → Prop) → Prop) (P : Nat) (R6 : Int32 → Int32 → Int32 → Int32 → zS → Prop) (a1 : Int32) (a2 : Int32) (a3 : Int32) (a4 : Int32) (s : zS) (Q : Option Value → zS → Prop) : Prop :=
  (4000 ≤ a4.toInt → v_83_26 T P  a1 a2 a3 a4 s Q) ∧ (¬ (4000 ≤ a4.toInt) → (a3.toInt ≤ 0 → v_83_26 T P  a1 a2 a3 a4 s Q) ∧ (¬ (a3.toInt ≤ 0) → ∀ x1 : Int32, (-2147483648 ≤ (zg s (P + 22) (zg s (P + 18) a2)).toInt - 1 ∧ (zg s (P + 22) (zg s (P + 18) a2)).toInt - 1 ≤ 2147483647 → x1.toInt = (zg s (P + 22) (zg s (P + 18) a2)).toInt - 1) → ∀ x2 : Int32, (-2147483648 ≤ a3.toInt + x1.toInt ∧ a3.toInt + x1.toInt ≤ 2147483647 → x2.toInt = a3.toInt + x1.toInt) → ∀ x3 : Int32, (-2147483648 ≤ a2.toInt + 1 ∧ a2.toInt + 1 ≤ 2147483647 → x3.toInt = a2.toInt + 1) → ∀ x4 : Int32, (-2147483648 ≤ a4.toInt + 1 ∧ a4.toInt + 1 ≤ 2147483647 → x4.toInt = a4.toInt + 1) → R6 a1 x3 x2 x4 s))
def vl_83_6 (T : Nat → List Value → zS → (Option Value → zS → Prop) → Prop) (P : Nat)  (a1 : Int32) (a2 : Int32) (a3 : Int32) (a4 : Int32) (s : zS) (Q : Option Value → zS → Prop) : Prop :=
  ∃ (I : Int32 → Int32 → Int32 → Int32 → zS → Prop) (μ : Int32 → Int32 → Int32 → Int32 → zS → Nat), I a1 a2 a3 a4 s ∧ ∀ (a1 : Int32) (a2 : Int32) (a3 : Int32) (a4 : Int32) (s : zS), I a1 a2 a3 a4 s → v_83_6 T P (fun a1' a2' a3' a4' s' => I a1' a2' a3' a4' s' ∧ μ a1' a2' a3' a4' s' < μ a1 a2 a3 a4 s) a1 a2 a3 a4 s Q
def v_83_0 (T : Nat → List Value → zS → (Option Value → zS → Prop) → Prop) (P : Nat)  (a1 : Int32) (s : zS) (Q : Option Value → zS → Prop) : Prop :=
  vl_83_6 T P  a1 a1 1 0 s Q
set_option maxRecDepth 20000 in
theorem m_83_26_3 {d d0 : Nat} (hd : d = d0 + 8)  {a1 : Int32} {a2 : Int32} {a3 : Int32} {a4 : Int32} {s : zS} {Q : Option Value → zS → Prop}  (h : v_83_26 (fun j => Zt d (wd 3 j) j) 3  a1 a2 a3 a4 s Q) : Zn d [] [] ([(75, 0, 3), (75, 1, 21), (75, 2, 25)] : zW) ([(75, 0, 3), (75, 1, 21), (75, 2, 25)] : zW) xL_7 5 (some .int) xE_83 (xE_83.drop 26) [.ref 75, .int a1, .int a2, .int a3, .int a4, .null, .null] [] s Q := by
  unfold v_83_26 at h
  refine zn_ld rfl rfl rfl ?_
  exact zn_retI rfl h
set_option maxRecDepth 20000 in
theorem m_83_6_3 {d d0 : Nat} (hd : d = d0 + 8) {R6 : Int32 → Int32 → Int32 → Int32 → zS → Prop} {a1 : Int32} {a2 : Int32} {a3 : Int32} {a4 : Int32} {s : zS} {Q : Option Value → zS → Prop} (r6 : ∀ a1 a2 a3 a4 s, R6 a1 a2 a3 a4 s → Zn d [] [] ([(75, 0, 3), (75, 1, 21), (75, 2, 25)] : zW) ([(75, 0, 3), (75, 1, 21), (75, 2, 25)] : zW) xL_7 5 (some .int) xE_83 (xE_83.drop 6) [.ref 75, .int a1, .int a2, .int a3, .int a4, .null, .null] [] s Q) (h : v_83_6 (fun j => Zt d (wd 3 j) j) 3 R6 a1 a2 a3 a4 s Q) : Zn d [] [] ([(75, 0, 3), (75, 1, 21), (75, 2, 25)] : zW) ([(75, 0, 3), (75, 1, 21), (75, 2, 25)] : zW) xL_7 5 (some .int) xE_83 (xE_83.drop 6) [.ref 75, .int a1, .int a2, .int a3, .int a4, .null, .null] [] s Q := by
  unfold v_83_6 at h
  refine zn_ld rfl rfl rfl ?_
  refine zn_c [.int 4000, .int a4] (xo_push (.int 4000)) rfl rfl ?_
  refine zn_brP rfl rfl ⟨fun hcn => ?_, fun hcn => ?_⟩
  · replace h := h.1 ((i_le (x := 4000) (y := a4) (show (4000 : Int32).toInt = 4000 by decide) rfl).mp hcn)
    exact m_83_26_3 hd  h
  · replace h := h.2 (fun q => hcn ((i_le (x := 4000) (y := a4) (show (4000 : Int32).toInt = 4000 by decide) rfl).mpr q))
    refine zn_ld rfl rfl rfl ?_
    refine zn_brP rfl rfl ⟨fun hcn => ?_, fun hcn => ?_⟩
    · replace h := h.1 ((i_le (x := a3) (y := 0) rfl (show (0 : Int32).toInt = 0 by decide)).mp hcn)
      exact m_83_26_3 hd  h
    · replace h := h.2 (fun q => hcn ((i_le (x := a3) (y := 0) rfl (show (0 : Int32).toInt = 0 by decide)).mpr q))
      refine zn_ld rfl rfl rfl ?_
      refine zn_ld rfl rfl rfl ?_
      refine zn_get (v := .ref 25) rfl (zv_C (a := 75) (n := 2) rfl rfl rfl) ?_
      refine zn_ld rfl rfl rfl ?_
      refine zn_get (v := .ref 21) rfl (zv_C (a := 75) (n := 1) rfl rfl rfl) ?_
      refine zn_ld rfl rfl rfl ?_
      refine zn_row a2 [.ref 25, .int a3] (a := 21) hd rfl rfl rfl rfl ?_
      change Zn _ _ _ _ _ _ _ _ _ _ _ [.int (zg s 21 a2), .ref 25, .int a3] _ _
      refine zn_row (zg s 21 a2) [.int a3] (a := 25) hd rfl rfl rfl rfl ?_
      change Zn _ _ _ _ _ _ _ _ _ _ _ [.int (zg s 25 (zg s 21 a2)), .int a3] _ _
      refine zn_c [.int 1, .int (zg s 25 (zg s 21 a2)), .int a3] (xo_push (.int 1)) rfl rfl ?_
      replace h := h _ (i_sub (x := zg s 25 (zg s 21 a2)) (y := 1) rfl (show (1 : Int32).toInt = 1 by decide))
      refine zn_c [.int ((zg s 25 (zg s 21 a2)) - 1), .int a3] xo_isub rfl rfl ?_
      replace h := h _ (i_add (x := a3) (y := ((zg s 25 (zg s 21 a2)) - 1)) rfl rfl)
      refine zn_c [.int (a3 + ((zg s 25 (zg s 21 a2)) - 1))] xo_iadd rfl rfl ?_
      refine zn_st [.ref 75, .int a1, .int a2, .int (a3 + ((zg s 25 (zg s 21 a2)) - 1)), .int a4, .null, .null] rfl rfl rfl ?_
      replace h := h _ (i_add (x := a2) (y := 1) rfl (show (1 : Int32).toInt = 1 by decide))
      refine zn_inc [.ref 75, .int a1, .int (a2 + 1), .int (a3 + ((zg s 25 (zg s 21 a2)) - 1)), .int a4, .null, .null] rfl rfl rfl rfl ?_
      replace h := h _ (i_add (x := a4) (y := 1) rfl (show (1 : Int32).toInt = 1 by decide))
      refine zn_inc [.ref 75, .int a1, .int (a2 + 1), .int (a3 + ((zg s 25 (zg s 21 a2)) - 1)), .int (a4 + 1), .null, .null] rfl rfl rfl rfl ?_
      refine zn_go rfl ?_
      exact r6 a1 (a2 + 1) (a3 + ((zg s 25 (zg s 21 a2)) - 1)) (a4 + 1) s h
theorem ml_83_6_3 {d d0 : Nat} (hd : d = d0 + 8)  {a1 : Int32} {a2 : Int32} {a3 : Int32} {a4 : Int32} {s : zS} {Q : Option Value → zS → Prop}  (h : vl_83_6 (fun j => Zt d (wd 3 j) j) 3  a1 a2 a3 a4 s Q) : Zn d [] [] ([(75, 0, 3), (75, 1, 21), (75, 2, 25)] : zW) ([(75, 0, 3), (75, 1, 21), (75, 2, 25)] : zW) xL_7 5 (some .int) xE_83 (xE_83.drop 6) [.ref 75, .int a1, .int a2, .int a3, .int a4, .null, .null] [] s Q := by
  obtain ⟨I, μ, h0, h1⟩ := h
  have key : ∀ (n : Nat) (a1 : Int32) (a2 : Int32) (a3 : Int32) (a4 : Int32) (s : zS), μ a1 a2 a3 a4 s = n → I a1 a2 a3 a4 s → Zn d [] [] ([(75, 0, 3), (75, 1, 21), (75, 2, 25)] : zW) ([(75, 0, 3), (75, 1, 21), (75, 2, 25)] : zW) xL_7 5 (some .int) xE_83 (xE_83.drop 6) [.ref 75, .int a1, .int a2, .int a3, .int a4, .null, .null] [] s Q := by
    intro n
    induction n using Nat.strongRecOn with
    | ind n ih =>
      intro a1 a2 a3 a4 s e hI
      exact m_83_6_3 hd (fun a1' a2' a3' a4' s' q => ih _ (by rw [← e]; exact q.2) a1' a2' a3' a4' s' rfl q.1) (h1 a1 a2 a3 a4 s hI)
  exact key _ a1 a2 a3 a4 s rfl h0
set_option maxRecDepth 20000 in
theorem m_83_0_3 {d d0 : Nat} (hd : d = d0 + 8)  {a1 : Int32} {s : zS} {Q : Option Value → zS → Prop}  (h : v_83_0 (fun j => Zt d (wd 3 j) j) 3  a1 s Q) : Zn d [] [] ([(75, 0, 3), (75, 1, 21), (75, 2, 25)] : zW) ([(75, 0, 3), (75, 1, 21), (75, 2, 25)] : zW) xL_7 5 (some .int) xE_83 (xE_83.drop 0) [.ref 75, .int a1, .null, .null, .null, .null, .null] [] s Q := by
  unfold v_83_0 at h
  refine zn_ld rfl rfl rfl ?_
  refine zn_st [.ref 75, .int a1, .int a1, .null, .null, .null, .null] rfl rfl rfl ?_
  refine zn_c [.int 1] (xo_push (.int 1)) rfl rfl ?_
  refine zn_st [.ref 75, .int a1, .int a1, .int 1, .null, .null, .null] rfl rfl rfl ?_
  refine zn_c [.int 0] (xo_push (.int 0)) rfl rfl ?_
  refine zn_st [.ref 75, .int a1, .int a1, .int 1, .int 0, .null, .null] rfl rfl rfl ?_
  exact ml_83_6_3 hd  h
theorem zq_83_3 {d : Nat} {a1 : Int32} {s : zS} {Q : Option Value → zS → Prop} (h : v_83_0 (fun j => Zt (d + 8) (wd 3 j) j) 3 a1 s Q) : Zt (d + 9) ([(75, 0, 3), (75, 1, 21), (75, 2, 25)] : zW) 83 [.ref 75, .int a1] s Q := zt_of (E := xE_83) (L := xL_7) (ml := 5) (ret := some .int) rfl rfl rfl (m_83_0_3 rfl h)
set_option maxRecDepth 20000 in
theorem m_83_26_39 {d d0 : Nat} (hd : d = d0 + 8)  {a1 : Int32} {a2 : Int32} {a3 : Int32} {a4 : Int32} {s : zS} {Q : Option Value → zS → Prop}  (h : v_83_26 (fun j => Zt d (wd 39 j) j) 39  a1 a2 a3 a4 s Q) : Zn d [] [] ([(75, 0, 39), (75, 1, 57), (75, 2, 61)] : zW) ([(75, 0, 39), (75, 1, 57), (75, 2, 61)] : zW) xL_7 5 (some .int) xE_83 (xE_83.drop 26) [.ref 75, .int a1, .int a2, .int a3, .int a4, .null, .null] [] s Q := by
  unfold v_83_26 at h
  refine zn_ld rfl rfl rfl ?_
  exact zn_retI rfl h
set_option maxRecDepth 20000 in
theorem m_83_6_39 {d d0 : Nat} (hd : d = d0 + 8) {R6 : Int32 → Int32 → Int32 → Int32 → zS → Prop} {a1 : Int32} {a2 : Int32} {a3 : Int32} {a4 : Int32} {s : zS} {Q : Option Value → zS → Prop} (r6 : ∀ a1 a2 a3 a4 s, R6 a1 a2 a3 a4 s → Zn d [] [] ([(75, 0, 39), (75, 1, 57), (75, 2, 61)] : zW) ([(75, 0, 39), (75, 1, 57), (75, 2, 61)] : zW) xL_7 5 (some .int) xE_83 (xE_83.drop 6) [.ref 75, .int a1, .int a2, .int a3, .int a4, .null, .null] [] s Q) (h : v_83_6 (fun j => Zt d (wd 39 j) j) 39 R6 a1 a2 a3 a4 s Q) : Zn d [] [] ([(75, 0, 39), (75, 1, 57), (75, 2, 61)] : zW) ([(75, 0, 39), (75, 1, 57), (75, 2, 61)] : zW) xL_7 5 (some .int) xE_83 (xE_83.drop 6) [.ref 75, .int a1, .int a2, .int a3, .int a4, .null, .null] [] s Q := by
  unfold v_83_6 at h
  refine zn_ld rfl rfl rfl ?_
  refine zn_c [.int 4000, .int a4] (xo_push (.int 4000)) rfl rfl ?_
  refine zn_brP rfl rfl ⟨fun hcn => ?_, fun hcn => ?_⟩
  · replace h := h.1 ((i_le (x := 4000) (y := a4) (show (4000 : Int32).toInt = 4000 by decide) rfl).mp hcn)
    exact m_83_26_39 hd  h
  · replace h := h.2 (fun q => hcn ((i_le (x := 4000) (y := a4) (show (4000 : Int32).toInt = 4000 by decide) rfl).mpr q))
    refine zn_ld rfl rfl rfl ?_
    refine zn_brP rfl rfl ⟨fun hcn => ?_, fun hcn => ?_⟩
    · replace h := h.1 ((i_le (x := a3) (y := 0) rfl (show (0 : Int32).toInt = 0 by decide)).mp hcn)
      exact m_83_26_39 hd  h
    · replace h := h.2 (fun q => hcn ((i_le (x := a3) (y := 0) rfl (show (0 : Int32).toInt = 0 by decide)).mpr q))
      refine zn_ld rfl rfl rfl ?_
      refine zn_ld rfl rfl rfl ?_
      refine zn_get (v := .ref 61) rfl (zv_C (a := 75) (n := 2) rfl rfl rfl) ?_
      refine zn_ld rfl rfl rfl ?_
      refine zn_get (v := .ref 57) rfl (zv_C (a := 75) (n := 1) rfl rfl rfl) ?_
      refine zn_ld rfl rfl rfl ?_
      refine zn_row a2 [.ref 61, .int a3] (a := 57) hd rfl rfl rfl rfl ?_
      change Zn _ _ _ _ _ _ _ _ _ _ _ [.int (zg s 57 a2), .ref 61, .int a3] _ _
      refine zn_row (zg s 57 a2) [.int a3] (a := 61) hd rfl rfl rfl rfl ?_
      change Zn _ _ _ _ _ _ _ _ _ _ _ [.int (zg s 61 (zg s 57 a2)), .int a3] _ _
      refine zn_c [.int 1, .int (zg s 61 (zg s 57 a2)), .int a3] (xo_push (.int 1)) rfl rfl ?_
      replace h := h _ (i_sub (x := zg s 61 (zg s 57 a2)) (y := 1) rfl (show (1 : Int32).toInt = 1 by decide))
      refine zn_c [.int ((zg s 61 (zg s 57 a2)) - 1), .int a3] xo_isub rfl rfl ?_
      replace h := h _ (i_add (x := a3) (y := ((zg s 61 (zg s 57 a2)) - 1)) rfl rfl)
      refine zn_c [.int (a3 + ((zg s 61 (zg s 57 a2)) - 1))] xo_iadd rfl rfl ?_
      refine zn_st [.ref 75, .int a1, .int a2, .int (a3 + ((zg s 61 (zg s 57 a2)) - 1)), .int a4, .null, .null] rfl rfl rfl ?_
      replace h := h _ (i_add (x := a2) (y := 1) rfl (show (1 : Int32).toInt = 1 by decide))
      refine zn_inc [.ref 75, .int a1, .int (a2 + 1), .int (a3 + ((zg s 61 (zg s 57 a2)) - 1)), .int a4, .null, .null] rfl rfl rfl rfl ?_
      replace h := h _ (i_add (x := a4) (y := 1) rfl (show (1 : Int32).toInt = 1 by decide))
      refine zn_inc [.ref 75, .int a1, .int (a2 + 1), .int (a3 + ((zg s 61 (zg s 57 a2)) - 1)), .int (a4 + 1), .null, .null] rfl rfl rfl rfl ?_
      refine zn_go rfl ?_
      exact r6 a1 (a2 + 1) (a3 + ((zg s 61 (zg s 57 a2)) - 1)) (a4 + 1) s h
theorem ml_83_6_39 {d d0 : Nat} (hd : d = d0 + 8)  {a1 : Int32} {a2 : Int32} {a3 : Int32} {a4 : Int32} {s : zS} {Q : Option Value → zS → Prop}  (h : vl_83_6 (fun j => Zt d (wd 39 j) j) 39  a1 a2 a3 a4 s Q) : Zn d [] [] ([(75, 0, 39), (75, 1, 57), (75, 2, 61)] : zW) ([(75, 0, 39), (75, 1, 57), (75, 2, 61)] : zW) xL_7 5 (some .int) xE_83 (xE_83.drop 6) [.ref 75, .int a1, .int a2, .int a3, .int a4, .null, .null] [] s Q := by
  obtain ⟨I, μ, h0, h1⟩ := h
  have key : ∀ (n : Nat) (a1 : Int32) (a2 : Int32) (a3 : Int32) (a4 : Int32) (s : zS), μ a1 a2 a3 a4 s = n → I a1 a2 a3 a4 s → Zn d [] [] ([(75, 0, 39), (75, 1, 57), (75, 2, 61)] : zW) ([(75, 0, 39), (75, 1, 57), (75, 2, 61)] : zW) xL_7 5 (some .int) xE_83 (xE_83.drop 6) [.ref 75, .int a1, .int a2, .int a3, .int a4, .null, .null] [] s Q := by
    intro n
    induction n using Nat.strongRecOn with
    | ind n ih =>
      intro a1 a2 a3 a4 s e hI
      exact m_83_6_39 hd (fun a1' a2' a3' a4' s' q => ih _ (by rw [← e]; exact q.2) a1' a2' a3' a4' s' rfl q.1) (h1 a1 a2 a3 a4 s hI)
  exact key _ a1 a2 a3 a4 s rfl h0
set_option maxRecDepth 20000 in
theorem m_83_0_39 {d d0 : Nat} (hd : d = d0 + 8)  {a1 : Int32} {s : zS} {Q : Option Value → zS → Prop}  (h : v_83_0 (fun j => Zt d (wd 39 j) j) 39  a1 s Q) : Zn d [] [] ([(75, 0, 39), (75, 1, 57), (75, 2, 61)] : zW) ([(75, 0, 39), (75, 1, 57), (75, 2, 61)] : zW) xL_7 5 (some .int) xE_83 (xE_83.drop 0) [.ref 75, .int a1, .null, .null, .null, .null, .null] [] s Q := by
  unfold v_83_0 at h
  refine zn_ld rfl rfl rfl ?_
  refine zn_st [.ref 75, .int a1, .int a1, .null, .null, .null, .null] rfl rfl rfl ?_
  refine zn_c [.int 1] (xo_push (.int 1)) rfl rfl ?_
  refine zn_st [.ref 75, .int a1, .int a1, .int 1, .null, .null, .null] rfl rfl rfl ?_
  refine zn_c [.int 0] (xo_push (.int 0)) rfl rfl ?_
  refine zn_st [.ref 75, .int a1, .int a1, .int 1, .int 0, .null, .null] rfl rfl rfl ?_
  exact ml_83_6_39 hd  h
theorem zq_83_39 {d : Nat} {a1 : Int32} {s : zS} {Q : Option Value → zS → Prop} (h : v_83_0 (fun j => Zt (d + 8) (wd 39 j) j) 39 a1 s Q) : Zt (d + 9) ([(75, 0, 39), (75, 1, 57), (75, 2, 61)] : zW) 83 [.ref 75, .int a1] s Q := zt_of (E := xE_83) (L := xL_7) (ml := 5) (ret := some .int) rfl rfl rfl (m_83_0_39 rfl h)
theorem zc_83 {d P : Nat} (hP : P = 3 ∨ P = 39) {a1 : Int32} {s : zS} {Q : Option Value → zS → Prop} (h : v_83_0 (fun j => Zt (d + 8) (wd P j) j) P a1 s Q) : Zt (d + 9) (wd P 83) 83 [.ref 75, .int a1] s Q := by
  rcases hP with rfl | rfl
  · exact zq_83_3 h
  · exact zq_83_39 h
/-! FeatherBench$Shapes.same -/
def v_84_37 (T : Nat → List Value → zS → (Option Value → zS → Prop) → Prop) (P : Nat)  (a1 : Int32) (a2 : Int32) (a3 : Int32) (a4 : Int32) (s : zS) (Q : Option Value → zS → Prop) : Prop :=
  Q (some (.int 1)) s
def v_84_4 (T : Nat → List Value → zS → (Option Value → zS → Prop) → Prop) (P : Nat) (R4 : Int32 → Int32 → Int32 → Int32 → zS → Prop) (a1 : Int32) (a2 : Int32) (a3 : Int32) (a4 : Int32) (s : zS) (Q : Option Value → zS → Prop) : Prop :=
  (60 ≤ a4.toInt → v_84_37 T P  a1 a2 a3 a4 s Q) ∧ (¬ (60 ≤ a4.toInt) → (a3.toInt ≤ 0 → v_84_37 T P  a1 a2 a3 a4 s Q) ∧ (¬ (a3.toInt ≤ 0) → ∀ x1 : Int32, (-2147483648 ≤ a1.toInt + a4.toInt ∧ a1.toInt + a4.toInt ≤ 2147483647 → x1.toInt = a1.toInt + a4.toInt) → ∀ x2 : Int32, (-2147483648 ≤ a2.toInt + a4.toInt ∧ a2.toInt + a4.toInt ≤ 2147483647 → x2.toInt = a2.toInt + a4.toInt) → ((zg s (P + 18) x1).toInt = (zg s (P + 18) x2).toInt → ∀ x3 : Int32, (-2147483648 ≤ (zg s (P + 22) (zg s (P + 18) x1)).toInt - 1 ∧ (zg s (P + 22) (zg s (P + 18) x1)).toInt - 1 ≤ 2147483647 → x3.toInt = (zg s (P + 22) (zg s (P + 18) x1)).toInt - 1) → ∀ x4 : Int32, (-2147483648 ≤ a3.toInt + x3.toInt ∧ a3.toInt + x3.toInt ≤ 2147483647 → x4.toInt = a3.toInt + x3.toInt) → ∀ x5 : Int32, (-2147483648 ≤ a4.toInt + 1 ∧ a4.toInt + 1 ≤ 2147483647 → x5.toInt = a4.toInt + 1) → R4 a1 a2 x4 x5 s) ∧ (¬ ((zg s (P + 18) x1).toInt = (zg s (P + 18) x2).toInt) → Q (some (.int 0)) s)))
def vl_84_4 (T : Nat → List Value → zS → (Option Value → zS → Prop) → Prop) (P : Nat)  (a1 : Int32) (a2 : Int32) (a3 : Int32) (a4 : Int32) (s : zS) (Q : Option Value → zS → Prop) : Prop :=
  ∃ (I : Int32 → Int32 → Int32 → Int32 → zS → Prop) (μ : Int32 → Int32 → Int32 → Int32 → zS → Nat), I a1 a2 a3 a4 s ∧ ∀ (a1 : Int32) (a2 : Int32) (a3 : Int32) (a4 : Int32) (s : zS), I a1 a2 a3 a4 s → v_84_4 T P (fun a1' a2' a3' a4' s' => I a1' a2' a3' a4' s' ∧ μ a1' a2' a3' a4' s' < μ a1 a2 a3 a4 s) a1 a2 a3 a4 s Q
def v_84_0 (T : Nat → List Value → zS → (Option Value → zS → Prop) → Prop) (P : Nat)  (a1 : Int32) (a2 : Int32) (s : zS) (Q : Option Value → zS → Prop) : Prop :=
  vl_84_4 T P  a1 a2 1 0 s Q
set_option maxRecDepth 20000 in
theorem m_84_37_3 {d d0 : Nat} (hd : d = d0 + 8)  {a1 : Int32} {a2 : Int32} {a3 : Int32} {a4 : Int32} {s : zS} {Q : Option Value → zS → Prop}  (h : v_84_37 (fun j => Zt d (wd 3 j) j) 3  a1 a2 a3 a4 s Q) : Zn d [] [] ([(75, 0, 3), (75, 1, 21), (75, 2, 25)] : zW) ([(75, 0, 3), (75, 1, 21), (75, 2, 25)] : zW) xL_7 6 (some .boolean) xE_84 (xE_84.drop 37) [.ref 75, .int a1, .int a2, .int a3, .int a4, .null, .null, .null, .null] [] s Q := by
  unfold v_84_37 at h
  refine zn_c [.int 1] (xo_push (.int 1)) rfl rfl ?_
  exact zn_retZ rfl rfl h
set_option maxRecDepth 20000 in
theorem m_84_4_3 {d d0 : Nat} (hd : d = d0 + 8) {R4 : Int32 → Int32 → Int32 → Int32 → zS → Prop} {a1 : Int32} {a2 : Int32} {a3 : Int32} {a4 : Int32} {s : zS} {Q : Option Value → zS → Prop} (r4 : ∀ a1 a2 a3 a4 s, R4 a1 a2 a3 a4 s → Zn d [] [] ([(75, 0, 3), (75, 1, 21), (75, 2, 25)] : zW) ([(75, 0, 3), (75, 1, 21), (75, 2, 25)] : zW) xL_7 6 (some .boolean) xE_84 (xE_84.drop 4) [.ref 75, .int a1, .int a2, .int a3, .int a4, .null, .null, .null, .null] [] s Q) (h : v_84_4 (fun j => Zt d (wd 3 j) j) 3 R4 a1 a2 a3 a4 s Q) : Zn d [] [] ([(75, 0, 3), (75, 1, 21), (75, 2, 25)] : zW) ([(75, 0, 3), (75, 1, 21), (75, 2, 25)] : zW) xL_7 6 (some .boolean) xE_84 (xE_84.drop 4) [.ref 75, .int a1, .int a2, .int a3, .int a4, .null, .null, .null, .null] [] s Q := by
  unfold v_84_4 at h
  refine zn_ld rfl rfl rfl ?_
  refine zn_c [.int 60, .int a4] (xo_push (.int 60)) rfl rfl ?_
  refine zn_brP rfl rfl ⟨fun hcn => ?_, fun hcn => ?_⟩
  · replace h := h.1 ((i_le (x := 60) (y := a4) (show (60 : Int32).toInt = 60 by decide) rfl).mp hcn)
    exact m_84_37_3 hd  h
  · replace h := h.2 (fun q => hcn ((i_le (x := 60) (y := a4) (show (60 : Int32).toInt = 60 by decide) rfl).mpr q))
    refine zn_ld rfl rfl rfl ?_
    refine zn_brP rfl rfl ⟨fun hcn => ?_, fun hcn => ?_⟩
    · replace h := h.1 ((i_le (x := a3) (y := 0) rfl (show (0 : Int32).toInt = 0 by decide)).mp hcn)
      exact m_84_37_3 hd  h
    · replace h := h.2 (fun q => hcn ((i_le (x := a3) (y := 0) rfl (show (0 : Int32).toInt = 0 by decide)).mpr q))
      refine zn_ld rfl rfl rfl ?_
      refine zn_get (v := .ref 21) rfl (zv_C (a := 75) (n := 1) rfl rfl rfl) ?_
      refine zn_ld rfl rfl rfl ?_
      refine zn_ld rfl rfl rfl ?_
      replace h := h _ (i_add (x := a1) (y := a4) rfl rfl)
      refine zn_c [.int (a1 + a4), .ref 21] xo_iadd rfl rfl ?_
      refine zn_row (a1 + a4) [] (a := 21) hd rfl rfl rfl rfl ?_
      change Zn _ _ _ _ _ _ _ _ _ _ _ [.int (zg s 21 (a1 + a4))] _ _
      refine zn_st [.ref 75, .int a1, .int a2, .int a3, .int a4, .int (zg s 21 (a1 + a4)), .null, .null, .null] rfl rfl rfl ?_
      refine zn_ld rfl rfl rfl ?_
      refine zn_ld rfl rfl rfl ?_
      refine zn_get (v := .ref 21) rfl (zv_C (a := 75) (n := 1) rfl rfl rfl) ?_
      refine zn_ld rfl rfl rfl ?_
      refine zn_ld rfl rfl rfl ?_
      replace h := h _ (i_add (x := a2) (y := a4) rfl rfl)
      refine zn_c [.int (a2 + a4), .ref 21, .int (zg s 21 (a1 + a4))] xo_iadd rfl rfl ?_
      refine zn_row (a2 + a4) [.int (zg s 21 (a1 + a4))] (a := 21) hd rfl rfl rfl rfl ?_
      change Zn _ _ _ _ _ _ _ _ _ _ _ [.int (zg s 21 (a2 + a4)), .int (zg s 21 (a1 + a4))] _ _
      refine zn_brP rfl rfl ⟨fun hcn => ?_, fun hcn => ?_⟩
      · replace h := h.1 ((i_eq (x := zg s 21 (a1 + a4)) (y := zg s 21 (a2 + a4)) rfl rfl).mp hcn)
        refine zn_ld rfl rfl rfl ?_
        refine zn_ld rfl rfl rfl ?_
        refine zn_get (v := .ref 25) rfl (zv_C (a := 75) (n := 2) rfl rfl rfl) ?_
        refine zn_ld rfl rfl rfl ?_
        refine zn_row (zg s 21 (a1 + a4)) [.int a3] (a := 25) hd rfl rfl rfl rfl ?_
        change Zn _ _ _ _ _ _ _ _ _ _ _ [.int (zg s 25 (zg s 21 (a1 + a4))), .int a3] _ _
        refine zn_c [.int 1, .int (zg s 25 (zg s 21 (a1 + a4))), .int a3] (xo_push (.int 1)) rfl rfl ?_
        replace h := h _ (i_sub (x := zg s 25 (zg s 21 (a1 + a4))) (y := 1) rfl (show (1 : Int32).toInt = 1 by decide))
        refine zn_c [.int ((zg s 25 (zg s 21 (a1 + a4))) - 1), .int a3] xo_isub rfl rfl ?_
        replace h := h _ (i_add (x := a3) (y := ((zg s 25 (zg s 21 (a1 + a4))) - 1)) rfl rfl)
        refine zn_c [.int (a3 + ((zg s 25 (zg s 21 (a1 + a4))) - 1))] xo_iadd rfl rfl ?_
        refine zn_st [.ref 75, .int a1, .int a2, .int (a3 + ((zg s 25 (zg s 21 (a1 + a4))) - 1)), .int a4, .int (zg s 21 (a1 + a4)), .null, .null, .null] rfl rfl rfl ?_
        replace h := h _ (i_add (x := a4) (y := 1) rfl (show (1 : Int32).toInt = 1 by decide))
        refine zn_inc [.ref 75, .int a1, .int a2, .int (a3 + ((zg s 25 (zg s 21 (a1 + a4))) - 1)), .int (a4 + 1), .int (zg s 21 (a1 + a4)), .null, .null, .null] rfl rfl rfl rfl ?_
        refine zn_go rfl ?_
        refine zn_fg 5 ?_
        exact r4 a1 a2 (a3 + ((zg s 25 (zg s 21 (a1 + a4))) - 1)) (a4 + 1) s h
      · replace h := h.2 (fun q => hcn ((i_eq (x := zg s 21 (a1 + a4)) (y := zg s 21 (a2 + a4)) rfl rfl).mpr q))
        refine zn_c [.int 0] (xo_push (.int 0)) rfl rfl ?_
        exact zn_retZ rfl rfl h
theorem ml_84_4_3 {d d0 : Nat} (hd : d = d0 + 8)  {a1 : Int32} {a2 : Int32} {a3 : Int32} {a4 : Int32} {s : zS} {Q : Option Value → zS → Prop}  (h : vl_84_4 (fun j => Zt d (wd 3 j) j) 3  a1 a2 a3 a4 s Q) : Zn d [] [] ([(75, 0, 3), (75, 1, 21), (75, 2, 25)] : zW) ([(75, 0, 3), (75, 1, 21), (75, 2, 25)] : zW) xL_7 6 (some .boolean) xE_84 (xE_84.drop 4) [.ref 75, .int a1, .int a2, .int a3, .int a4, .null, .null, .null, .null] [] s Q := by
  obtain ⟨I, μ, h0, h1⟩ := h
  have key : ∀ (n : Nat) (a1 : Int32) (a2 : Int32) (a3 : Int32) (a4 : Int32) (s : zS), μ a1 a2 a3 a4 s = n → I a1 a2 a3 a4 s → Zn d [] [] ([(75, 0, 3), (75, 1, 21), (75, 2, 25)] : zW) ([(75, 0, 3), (75, 1, 21), (75, 2, 25)] : zW) xL_7 6 (some .boolean) xE_84 (xE_84.drop 4) [.ref 75, .int a1, .int a2, .int a3, .int a4, .null, .null, .null, .null] [] s Q := by
    intro n
    induction n using Nat.strongRecOn with
    | ind n ih =>
      intro a1 a2 a3 a4 s e hI
      exact m_84_4_3 hd (fun a1' a2' a3' a4' s' q => ih _ (by rw [← e]; exact q.2) a1' a2' a3' a4' s' rfl q.1) (h1 a1 a2 a3 a4 s hI)
  exact key _ a1 a2 a3 a4 s rfl h0
set_option maxRecDepth 20000 in
theorem m_84_0_3 {d d0 : Nat} (hd : d = d0 + 8)  {a1 : Int32} {a2 : Int32} {s : zS} {Q : Option Value → zS → Prop}  (h : v_84_0 (fun j => Zt d (wd 3 j) j) 3  a1 a2 s Q) : Zn d [] [] ([(75, 0, 3), (75, 1, 21), (75, 2, 25)] : zW) ([(75, 0, 3), (75, 1, 21), (75, 2, 25)] : zW) xL_7 6 (some .boolean) xE_84 (xE_84.drop 0) [.ref 75, .int a1, .int a2, .null, .null, .null, .null, .null, .null] [] s Q := by
  unfold v_84_0 at h
  refine zn_c [.int 1] (xo_push (.int 1)) rfl rfl ?_
  refine zn_st [.ref 75, .int a1, .int a2, .int 1, .null, .null, .null, .null, .null] rfl rfl rfl ?_
  refine zn_c [.int 0] (xo_push (.int 0)) rfl rfl ?_
  refine zn_st [.ref 75, .int a1, .int a2, .int 1, .int 0, .null, .null, .null, .null] rfl rfl rfl ?_
  exact ml_84_4_3 hd  h
theorem zq_84_3 {d : Nat} {a1 : Int32} {a2 : Int32} {s : zS} {Q : Option Value → zS → Prop} (h : v_84_0 (fun j => Zt (d + 8) (wd 3 j) j) 3 a1 a2 s Q) : Zt (d + 9) ([(75, 0, 3), (75, 1, 21), (75, 2, 25)] : zW) 84 [.ref 75, .int a1, .int a2] s Q := zt_of (E := xE_84) (L := xL_7) (ml := 6) (ret := some .boolean) rfl rfl rfl (m_84_0_3 rfl h)
set_option maxRecDepth 20000 in
theorem m_84_37_39 {d d0 : Nat} (hd : d = d0 + 8)  {a1 : Int32} {a2 : Int32} {a3 : Int32} {a4 : Int32} {s : zS} {Q : Option Value → zS → Prop}  (h : v_84_37 (fun j => Zt d (wd 39 j) j) 39  a1 a2 a3 a4 s Q) : Zn d [] [] ([(75, 0, 39), (75, 1, 57), (75, 2, 61)] : zW) ([(75, 0, 39), (75, 1, 57), (75, 2, 61)] : zW) xL_7 6 (some .boolean) xE_84 (xE_84.drop 37) [.ref 75, .int a1, .int a2, .int a3, .int a4, .null, .null, .null, .null] [] s Q := by
  unfold v_84_37 at h
  refine zn_c [.int 1] (xo_push (.int 1)) rfl rfl ?_
  exact zn_retZ rfl rfl h
set_option maxRecDepth 20000 in
theorem m_84_4_39 {d d0 : Nat} (hd : d = d0 + 8) {R4 : Int32 → Int32 → Int32 → Int32 → zS → Prop} {a1 : Int32} {a2 : Int32} {a3 : Int32} {a4 : Int32} {s : zS} {Q : Option Value → zS → Prop} (r4 : ∀ a1 a2 a3 a4 s, R4 a1 a2 a3 a4 s → Zn d [] [] ([(75, 0, 39), (75, 1, 57), (75, 2, 61)] : zW) ([(75, 0, 39), (75, 1, 57), (75, 2, 61)] : zW) xL_7 6 (some .boolean) xE_84 (xE_84.drop 4) [.ref 75, .int a1, .int a2, .int a3, .int a4, .null, .null, .null, .null] [] s Q) (h : v_84_4 (fun j => Zt d (wd 39 j) j) 39 R4 a1 a2 a3 a4 s Q) : Zn d [] [] ([(75, 0, 39), (75, 1, 57), (75, 2, 61)] : zW) ([(75, 0, 39), (75, 1, 57), (75, 2, 61)] : zW) xL_7 6 (some .boolean) xE_84 (xE_84.drop 4) [.ref 75, .int a1, .int a2, .int a3, .int a4, .null, .null, .null, .null] [] s Q := by
  unfold v_84_4 at h
  refine zn_ld rfl rfl rfl ?_
  refine zn_c [.int 60, .int a4] (xo_push (.int 60)) rfl rfl ?_
  refine zn_brP rfl rfl ⟨fun hcn => ?_, fun hcn => ?_⟩
  · replace h := h.1 ((i_le (x := 60) (y := a4) (show (60 : Int32).toInt = 60 by decide) rfl).mp hcn)
    exact m_84_37_39 hd  h
  · replace h := h.2 (fun q => hcn ((i_le (x := 60) (y := a4) (show (60 : Int32).toInt = 60 by decide) rfl).mpr q))
    refine zn_ld rfl rfl rfl ?_
    refine zn_brP rfl rfl ⟨fun hcn => ?_, fun hcn => ?_⟩
    · replace h := h.1 ((i_le (x := a3) (y := 0) rfl (show (0 : Int32).toInt = 0 by decide)).mp hcn)
      exact m_84_37_39 hd  h
    · replace h := h.2 (fun q => hcn ((i_le (x := a3) (y := 0) rfl (show (0 : Int32).toInt = 0 by decide)).mpr q))
      refine zn_ld rfl rfl rfl ?_
      refine zn_get (v := .ref 57) rfl (zv_C (a := 75) (n := 1) rfl rfl rfl) ?_
      refine zn_ld rfl rfl rfl ?_
      refine zn_ld rfl rfl rfl ?_
      replace h := h _ (i_add (x := a1) (y := a4) rfl rfl)
      refine zn_c [.int (a1 + a4), .ref 57] xo_iadd rfl rfl ?_
      refine zn_row (a1 + a4) [] (a := 57) hd rfl rfl rfl rfl ?_
      change Zn _ _ _ _ _ _ _ _ _ _ _ [.int (zg s 57 (a1 + a4))] _ _
      refine zn_st [.ref 75, .int a1, .int a2, .int a3, .int a4, .int (zg s 57 (a1 + a4)), .null, .null, .null] rfl rfl rfl ?_
      refine zn_ld rfl rfl rfl ?_
      refine zn_ld rfl rfl rfl ?_
      refine zn_get (v := .ref 57) rfl (zv_C (a := 75) (n := 1) rfl rfl rfl) ?_
      refine zn_ld rfl rfl rfl ?_
      refine zn_ld rfl rfl rfl ?_
      replace h := h _ (i_add (x := a2) (y := a4) rfl rfl)
      refine zn_c [.int (a2 + a4), .ref 57, .int (zg s 57 (a1 + a4))] xo_iadd rfl rfl ?_
      refine zn_row (a2 + a4) [.int (zg s 57 (a1 + a4))] (a := 57) hd rfl rfl rfl rfl ?_
      change Zn _ _ _ _ _ _ _ _ _ _ _ [.int (zg s 57 (a2 + a4)), .int (zg s 57 (a1 + a4))] _ _
      refine zn_brP rfl rfl ⟨fun hcn => ?_, fun hcn => ?_⟩
      · replace h := h.1 ((i_eq (x := zg s 57 (a1 + a4)) (y := zg s 57 (a2 + a4)) rfl rfl).mp hcn)
        refine zn_ld rfl rfl rfl ?_
        refine zn_ld rfl rfl rfl ?_
        refine zn_get (v := .ref 61) rfl (zv_C (a := 75) (n := 2) rfl rfl rfl) ?_
        refine zn_ld rfl rfl rfl ?_
        refine zn_row (zg s 57 (a1 + a4)) [.int a3] (a := 61) hd rfl rfl rfl rfl ?_
        change Zn _ _ _ _ _ _ _ _ _ _ _ [.int (zg s 61 (zg s 57 (a1 + a4))), .int a3] _ _
        refine zn_c [.int 1, .int (zg s 61 (zg s 57 (a1 + a4))), .int a3] (xo_push (.int 1)) rfl rfl ?_
        replace h := h _ (i_sub (x := zg s 61 (zg s 57 (a1 + a4))) (y := 1) rfl (show (1 : Int32).toInt = 1 by decide))
        refine zn_c [.int ((zg s 61 (zg s 57 (a1 + a4))) - 1), .int a3] xo_isub rfl rfl ?_
        replace h := h _ (i_add (x := a3) (y := ((zg s 61 (zg s 57 (a1 + a4))) - 1)) rfl rfl)
        refine zn_c [.int (a3 + ((zg s 61 (zg s 57 (a1 + a4))) - 1))] xo_iadd rfl rfl ?_
        refine zn_st [.ref 75, .int a1, .int a2, .int (a3 + ((zg s 61 (zg s 57 (a1 + a4))) - 1)), .int a4, .int (zg s 57 (a1 + a4)), .null, .null, .null] rfl rfl rfl ?_
        replace h := h _ (i_add (x := a4) (y := 1) rfl (show (1 : Int32).toInt = 1 by decide))
        refine zn_inc [.ref 75, .int a1, .int a2, .int (a3 + ((zg s 61 (zg s 57 (a1 + a4))) - 1)), .int (a4 + 1), .int (zg s 57 (a1 + a4)), .null, .null, .null] rfl rfl rfl rfl ?_
        refine zn_go rfl ?_
        refine zn_fg 5 ?_
        exact r4 a1 a2 (a3 + ((zg s 61 (zg s 57 (a1 + a4))) - 1)) (a4 + 1) s h
      · replace h := h.2 (fun q => hcn ((i_eq (x := zg s 57 (a1 + a4)) (y := zg s 57 (a2 + a4)) rfl rfl).mpr q))
        refine zn_c [.int 0] (xo_push (.int 0)) rfl rfl ?_
        exact zn_retZ rfl rfl h
theorem ml_84_4_39 {d d0 : Nat} (hd : d = d0 + 8)  {a1 : Int32} {a2 : Int32} {a3 : Int32} {a4 : Int32} {s : zS} {Q : Option Value → zS → Prop}  (h : vl_84_4 (fun j => Zt d (wd 39 j) j) 39  a1 a2 a3 a4 s Q) : Zn d [] [] ([(75, 0, 39), (75, 1, 57), (75, 2, 61)] : zW) ([(75, 0, 39), (75, 1, 57), (75, 2, 61)] : zW) xL_7 6 (some .boolean) xE_84 (xE_84.drop 4) [.ref 75, .int a1, .int a2, .int a3, .int a4, .null, .null, .null, .null] [] s Q := by
  obtain ⟨I, μ, h0, h1⟩ := h
  have key : ∀ (n : Nat) (a1 : Int32) (a2 : Int32) (a3 : Int32) (a4 : Int32) (s : zS), μ a1 a2 a3 a4 s = n → I a1 a2 a3 a4 s → Zn d [] [] ([(75, 0, 39), (75, 1, 57), (75, 2, 61)] : zW) ([(75, 0, 39), (75, 1, 57), (75, 2, 61)] : zW) xL_7 6 (some .boolean) xE_84 (xE_84.drop 4) [.ref 75, .int a1, .int a2, .int a3, .int a4, .null, .null, .null, .null] [] s Q := by
    intro n
    induction n using Nat.strongRecOn with
    | ind n ih =>
      intro a1 a2 a3 a4 s e hI
      exact m_84_4_39 hd (fun a1' a2' a3' a4' s' q => ih _ (by rw [← e]; exact q.2) a1' a2' a3' a4' s' rfl q.1) (h1 a1 a2 a3 a4 s hI)
  exact key _ a1 a2 a3 a4 s rfl h0
set_option maxRecDepth 20000 in
theorem m_84_0_39 {d d0 : Nat} (hd : d = d0 + 8)  {a1 : Int32} {a2 : Int32} {s : zS} {Q : Option Value → zS → Prop}  (h : v_84_0 (fun j => Zt d (wd 39 j) j) 39  a1 a2 s Q) : Zn d [] [] ([(75, 0, 39), (75, 1, 57), (75, 2, 61)] : zW) ([(75, 0, 39), (75, 1, 57), (75, 2, 61)] : zW) xL_7 6 (some .boolean) xE_84 (xE_84.drop 0) [.ref 75, .int a1, .int a2, .null, .null, .null, .null, .null, .null] [] s Q := by
  unfold v_84_0 at h
  refine zn_c [.int 1] (xo_push (.int 1)) rfl rfl ?_
  refine zn_st [.ref 75, .int a1, .int a2, .int 1, .null, .null, .null, .null, .null] rfl rfl rfl ?_
  refine zn_c [.int 0] (xo_push (.int 0)) rfl rfl ?_
  refine zn_st [.ref 75, .int a1, .int a2, .int 1, .int 0, .null, .null, .null, .null] rfl rfl rfl ?_
  exact ml_84_4_39 hd  h
theorem zq_84_39 {d : Nat} {a1 : Int32} {a2 : Int32} {s : zS} {Q : Option Value → zS → Prop} (h : v_84_0 (fun j => Zt (d + 8) (wd 39 j) j) 39 a1 a2 s Q) : Zt (d + 9) ([(75, 0, 39), (75, 1, 57), (75, 2, 61)] : zW) 84 [.ref 75, .int a1, .int a2] s Q := zt_of (E := xE_84) (L := xL_7) (ml := 6) (ret := some .boolean) rfl rfl rfl (m_84_0_39 rfl h)
theorem zc_84 {d P : Nat} (hP : P = 3 ∨ P = 39) {a1 : Int32} {a2 : Int32} {s : zS} {Q : Option Value → zS → Prop} (h : v_84_0 (fun j => Zt (d + 8) (wd P j) j) P a1 a2 s Q) : Zt (d + 9) (wd P 84) 84 [.ref 75, .int a1, .int a2] s Q := by
  rcases hP with rfl | rfl
  · exact zq_84_3 h
  · exact zq_84_39 h
/-! Rows of what stands for PARAMS, not known by number -/
theorem ev_lt {e : Nat} (he : skE e = true) : e < 196 := by
  unfold skE at he
  rw [Bool.or_eq_true] at he
  rcases he with q | q
  · have := cmem_ok q
    simp only [List.mem_cons, List.not_mem_nil, or_false] at this
    omega
  · rw [Bool.and_eq_true, Bool.and_eq_true] at q
    have := Nat.le_of_ble_eq_true q.1.2
    omega
theorem ev_al : ∀ e, e < 196 → skE e = true → cmem e rowL = true ∧ (cOK e && Nat.beq (oc e) 6) = true ∧ ckR e = (-2147483648, 2147483647) ∧ cod e = false ∧ skM e = 2000100000 ∧ (¬ e = 21 ∧ ¬ e = 57) ∧ lim e = 24 := by decide +kernel
theorem ev_r {e : Nat} (he : skE e = true) : cmem e rowL = true := (ev_al e (ev_lt he) he).1
theorem ev_n {b c : Bool} {vs : List Value} {e : Nat} (he : skE e = true) (hb : b = true) (hc : c = true) : (b && (c && crc (some 6) (.ref e :: vs))) = true := by
  subst hb hc
  exact (ev_al e (ev_lt he) he).2.1
theorem ev_k {e : Nat} (he : skE e = true) (v : Int32) : (ckR e).1 ≤ v.toInt ∧ v.toInt ≤ (ckR e).2 := by
  rw [(ev_al e (ev_lt he) he).2.2.1]
  exact ⟨Int32.le_toInt _, Int.le_of_lt_add_one (Int32.toInt_lt _)⟩
theorem ev_c {e : Nat} (he : skE e = true) : cod e = false := (ev_al e (ev_lt he) he).2.2.2.1
theorem ev_m {e : Nat} (he : skE e = true) : skM e = 2000100000 := (ev_al e (ev_lt he) he).2.2.2.2.1
theorem ev_w {e : Nat} {V : List (Nat × Nat)} (he : skE e = true) : rwK e V = true := by
  have q : ∀ e, e < 196 → skE e = true → (((pTb 3 e = false ∧ pTb 39 e = false) ∧ pWd 3 e = false ∧ pWd 39 e = false) ∧ Nat.beq e 3 = false ∧ Nat.beq e 39 = false) ∧ mrR e = 0 ∧ mrF e 2 = 0 := by decide +kernel
  obtain ⟨⟨⟨⟨h1, h2⟩, h3, h4⟩, h5, h6⟩, h7, h8⟩ := q e (ev_lt he) he
  unfold rwK rwQ rfK rfQ rwO rfO
  rw [h1, h2, h3, h4, h5, h6, h7, h8]
  rfl
theorem ev_x {e : Nat} (he : skE e = true) : ¬ e = 21 ∧ ¬ e = 57 := (ev_al e (ev_lt he) he).2.2.2.2.2.1
theorem ev_y {e : Nat} {v : Int32} (he : skE e = true) (h : -1000 ≤ v.toInt ∧ v.toInt ≤ 2000100000) : skS e v := fun _ => by
  rw [ev_m he]
  exact h
theorem ev_3 {e : Nat} (he : e = 76 ∨ e = 78 ∨ e = 80) : skE e = true := by
  rcases he with rfl | rfl | rfl <;> decide
theorem ev_l {e : Nat} (he : skE e = true) : lim e = 24 := (ev_al e (ev_lt he) he).2.2.2.2.2.2
theorem ev_P {P e : Nat} (hP : P = 3 ∨ P = 39) (he : skE e = true) : ¬ e = P + 18 ∧ ¬ e = P + 22 ∧ ¬ e = P + 34 := by
  rcases hP with rfl | rfl <;> refine ⟨fun q => ?_, fun q => ?_, fun q => ?_⟩ <;> rw [q] at he <;> exact absurd he (by decide)
/-! FeatherBench$Shapes.bind -/
def v_85_0 (T : Nat → List Value → zS → (Option Value → zS → Prop) → Prop) (P : Nat) (e : Nat)  (a2 : Int32) (a3 : Int32) (s : zS) (Q : Option Value → zS → Prop) : Prop :=
  (-1000 ≤ a3.toInt ∧ a3.toInt ≤ 2000100000) ∧ (∀ s1, s1 = zt s e a2 a3 → ∀ x2 : Int32, (-2147483648 ≤ 12 + a2.toInt ∧ 12 + a2.toInt ≤ 2147483647 → x2.toInt = 12 + a2.toInt) → T 83 [.ref 75, .int a3] s1 (fun v3 s4 => ∃ x5, v3 = some (.int x5) ∧ ((-1000 ≤ x5.toInt ∧ x5.toInt ≤ 2000100000) ∧ (∀ s6, s6 = zt s4 e x2 x5 → Q none s6))))
set_option maxRecDepth 20000 in
theorem m_85_0_3e {d d0 : Nat} (hd : d = d0 + 8) {e : Nat} (he : skE e = true)  {a2 : Int32} {a3 : Int32} {s : zS} {Q : Option Value → zS → Prop}  (h : v_85_0 (fun j => Zt d (wd 3 j) j) 3 e  a2 a3 s Q) : Zn d [] [] ([(75, 0, 3), (75, 1, 21), (75, 2, 25)] : zW) ([(75, 0, 3), (75, 1, 21), (75, 2, 25)] : zW) xL_7 4 (none) xE_85 (xE_85.drop 0) [.ref 75, .ref e, .int a2, .int a3, .null, .null, .null, .null] [] s Q := by
  unfold v_85_0 at h
  refine zn_ld rfl rfl rfl ?_
  refine zn_ld rfl rfl rfl ?_
  refine zn_ld rfl rfl rfl ?_
  obtain ⟨hyS, h⟩ := h
  refine zn_set a2 a3 [] (a := e) hd rfl rfl (ev_n he rfl rfl) (ev_r he) (ev_k he _) (ev_c he) rfl ?_ (hx := Or.inl (ev_x he)) (hrw := ev_w he) (hy := ev_y he hyS)
  replace h := h _ rfl
  refine zn_ld rfl rfl rfl ?_
  refine zn_c [.int 12, .ref e] (xo_push (.int 12)) rfl rfl ?_
  refine zn_ld rfl rfl rfl ?_
  replace h := h _ (i_add (x := 12) (y := a2) (show (12 : Int32).toInt = 12 by decide) rfl)
  refine zn_c [.int (12 + a2), .ref e] xo_iadd rfl rfl ?_
  refine zn_ld rfl rfl rfl ?_
  refine zn_ld rfl rfl rfl ?_
  refine zn_zt [.ref 75, .int a3] [.int (12 + a2), .ref e] rfl rfl rfl rfl rfl (Zt.imp h (fun v3 s4 h => ?_))
  obtain ⟨x5, rfl, h⟩ := h
  change Zn _ _ _ _ _ _ _ _ _ _ _ [.int x5, .int (12 + a2), .ref e] _ _
  obtain ⟨hyS, h⟩ := h
  refine zn_set (12 + a2) x5 [] (a := e) hd rfl rfl (ev_n he rfl rfl) (ev_r he) (ev_k he _) (ev_c he) rfl ?_ (hx := Or.inl (ev_x he)) (hrw := ev_w he) (hy := ev_y he hyS)
  replace h := h _ rfl
  exact zn_ret0 rfl h
theorem zq_85_3e {d : Nat} {e : Nat} (he : skE e = true) {a2 : Int32} {a3 : Int32} {s : zS} {Q : Option Value → zS → Prop} (h : v_85_0 (fun j => Zt (d + 8) (wd 3 j) j) 3 e a2 a3 s Q) : Zt (d + 9) ([(75, 0, 3), (75, 1, 21), (75, 2, 25)] : zW) 85 [.ref 75, .ref e, .int a2, .int a3] s Q := zt_of (E := xE_85) (L := xL_7) (ml := 4) (ret := none) rfl rfl rfl (m_85_0_3e rfl he h)
set_option maxRecDepth 20000 in
theorem m_85_0_39e {d d0 : Nat} (hd : d = d0 + 8) {e : Nat} (he : skE e = true)  {a2 : Int32} {a3 : Int32} {s : zS} {Q : Option Value → zS → Prop}  (h : v_85_0 (fun j => Zt d (wd 39 j) j) 39 e  a2 a3 s Q) : Zn d [] [] ([(75, 0, 39), (75, 1, 57), (75, 2, 61)] : zW) ([(75, 0, 39), (75, 1, 57), (75, 2, 61)] : zW) xL_7 4 (none) xE_85 (xE_85.drop 0) [.ref 75, .ref e, .int a2, .int a3, .null, .null, .null, .null] [] s Q := by
  unfold v_85_0 at h
  refine zn_ld rfl rfl rfl ?_
  refine zn_ld rfl rfl rfl ?_
  refine zn_ld rfl rfl rfl ?_
  obtain ⟨hyS, h⟩ := h
  refine zn_set a2 a3 [] (a := e) hd rfl rfl (ev_n he rfl rfl) (ev_r he) (ev_k he _) (ev_c he) rfl ?_ (hx := Or.inl (ev_x he)) (hrw := ev_w he) (hy := ev_y he hyS)
  replace h := h _ rfl
  refine zn_ld rfl rfl rfl ?_
  refine zn_c [.int 12, .ref e] (xo_push (.int 12)) rfl rfl ?_
  refine zn_ld rfl rfl rfl ?_
  replace h := h _ (i_add (x := 12) (y := a2) (show (12 : Int32).toInt = 12 by decide) rfl)
  refine zn_c [.int (12 + a2), .ref e] xo_iadd rfl rfl ?_
  refine zn_ld rfl rfl rfl ?_
  refine zn_ld rfl rfl rfl ?_
  refine zn_zt [.ref 75, .int a3] [.int (12 + a2), .ref e] rfl rfl rfl rfl rfl (Zt.imp h (fun v3 s4 h => ?_))
  obtain ⟨x5, rfl, h⟩ := h
  change Zn _ _ _ _ _ _ _ _ _ _ _ [.int x5, .int (12 + a2), .ref e] _ _
  obtain ⟨hyS, h⟩ := h
  refine zn_set (12 + a2) x5 [] (a := e) hd rfl rfl (ev_n he rfl rfl) (ev_r he) (ev_k he _) (ev_c he) rfl ?_ (hx := Or.inl (ev_x he)) (hrw := ev_w he) (hy := ev_y he hyS)
  replace h := h _ rfl
  exact zn_ret0 rfl h
theorem zq_85_39e {d : Nat} {e : Nat} (he : skE e = true) {a2 : Int32} {a3 : Int32} {s : zS} {Q : Option Value → zS → Prop} (h : v_85_0 (fun j => Zt (d + 8) (wd 39 j) j) 39 e a2 a3 s Q) : Zt (d + 9) ([(75, 0, 39), (75, 1, 57), (75, 2, 61)] : zW) 85 [.ref 75, .ref e, .int a2, .int a3] s Q := zt_of (E := xE_85) (L := xL_7) (ml := 4) (ret := none) rfl rfl rfl (m_85_0_39e rfl he h)
theorem zc_85 {d P e : Nat} (hP : P = 3 ∨ P = 39) (he : skE e = true) {a2 : Int32} {a3 : Int32} {s : zS} {Q : Option Value → zS → Prop} (h : v_85_0 (fun j => Zt (d + 8) (wd P j) j) P e a2 a3 s Q) : Zt (d + 9) (wd P 85) 85 [.ref 75, .ref e, .int a2, .int a3] s Q := by
  rcases hP with rfl | rfl
  · exact zq_85_3e he h
  · exact zq_85_39e he h
/-! FeatherBench$Shapes.fill -/
def v_86_53 (T : Nat → List Value → zS → (Option Value → zS → Prop) → Prop) (P : Nat) (e : Nat) (R14 : Int32 → Int32 → Int32 → Int32 → Int32 → Int32 → zS → Prop) (a2 : Int32) (a3 : Int32) (a4 : Int32) (a5 : Int32) (a6 : Int32) (a7 : Int32) (a8 : Int32) (a9 : Int32) (t0 : Int32) (s : zS) (Q : Option Value → zS → Prop) : Prop :=
  ∀ x1 : Int32, (-2147483648 ≤ a7.toInt + 1 ∧ a7.toInt + 1 ≤ 2147483647 → x1.toInt = a7.toInt + 1) → R14 a2 a3 a4 a5 t0 x1 s
def v_86_32 (T : Nat → List Value → zS → (Option Value → zS → Prop) → Prop) (P : Nat) (e : Nat) (R14 : Int32 → Int32 → Int32 → Int32 → Int32 → Int32 → zS → Prop) (a2 : Int32) (a3 : Int32) (a4 : Int32) (a5 : Int32) (a6 : Int32) (a7 : Int32) (t0 : Int32) (s : zS) (Q : Option Value → zS → Prop) : Prop :=
  T 83 [.ref 75, .int t0] s (fun v1 s2 => ∃ x3, v1 = some (.int x3) ∧ ((-1000 ≤ t0.toInt ∧ t0.toInt ≤ 2000100000) ∧ (∀ s4, s4 = zt s2 e a7 t0 → ∀ x5 : Int32, (-2147483648 ≤ 12 + a7.toInt ∧ 12 + a7.toInt ≤ 2147483647 → x5.toInt = 12 + a7.toInt) → (-1000 ≤ x3.toInt ∧ x3.toInt ≤ 2000100000) ∧ (∀ s6, s6 = zt s4 e x5 x3 → (a5.toInt ≤ a7.toInt → v_86_53 T P e R14 a2 a3 a4 a5 a6 a7 t0 x3 a6 s6 Q) ∧ (¬ (a5.toInt ≤ a7.toInt) → v_86_53 T P e R14 a2 a3 a4 a5 a6 a7 t0 x3 x3 s6 Q)))))
def v_86_26 (T : Nat → List Value → zS → (Option Value → zS → Prop) → Prop) (P : Nat) (e : Nat) (R14 : Int32 → Int32 → Int32 → Int32 → Int32 → Int32 → zS → Prop) (a2 : Int32) (a3 : Int32) (a4 : Int32) (a5 : Int32) (a6 : Int32) (a7 : Int32) (s : zS) (Q : Option Value → zS → Prop) : Prop :=
  (a5.toInt ≤ a7.toInt → v_86_32 T P e R14 a2 a3 a4 a5 a6 a7 a7 s Q) ∧ (¬ (a5.toInt ≤ a7.toInt) → v_86_32 T P e R14 a2 a3 a4 a5 a6 a7 a6 s Q)
def v_86_14 (T : Nat → List Value → zS → (Option Value → zS → Prop) → Prop) (P : Nat) (e : Nat) (R14 : Int32 → Int32 → Int32 → Int32 → Int32 → Int32 → zS → Prop) (a2 : Int32) (a3 : Int32) (a4 : Int32) (a5 : Int32) (a6 : Int32) (a7 : Int32) (s : zS) (Q : Option Value → zS → Prop) : Prop :=
  (12 ≤ a7.toInt → Q none s) ∧ (¬ (12 ≤ a7.toInt) → (¬ (a7.toInt = 6) → v_86_26 T P e R14 a2 a3 a4 a5 a6 a7 s Q) ∧ (a7.toInt = 6 → ∀ x1 : Int32, (-2147483648 ≤ 6 + a4.toInt ∧ 6 + a4.toInt ≤ 2147483647 → x1.toInt = 6 + a4.toInt) → v_86_26 T P e R14 a2 a3 a4 x1 a3 a7 s Q))
def vl_86_14 (T : Nat → List Value → zS → (Option Value → zS → Prop) → Prop) (P : Nat) (e : Nat)  (a2 : Int32) (a3 : Int32) (a4 : Int32) (a5 : Int32) (a6 : Int32) (a7 : Int32) (s : zS) (Q : Option Value → zS → Prop) : Prop :=
  ∃ (I : Int32 → Int32 → Int32 → Int32 → Int32 → Int32 → zS → Prop) (μ : Int32 → Int32 → Int32 → Int32 → Int32 → Int32 → zS → Nat), I a2 a3 a4 a5 a6 a7 s ∧ ∀ (a2 : Int32) (a3 : Int32) (a4 : Int32) (a5 : Int32) (a6 : Int32) (a7 : Int32) (s : zS), I a2 a3 a4 a5 a6 a7 s → v_86_14 T P e (fun a2' a3' a4' a5' a6' a7' s' => I a2' a3' a4' a5' a6' a7' s' ∧ μ a2' a3' a4' a5' a6' a7' s' < μ a2 a3 a4 a5 a6 a7 s) a2 a3 a4 a5 a6 a7 s Q
def v_86_0 (T : Nat → List Value → zS → (Option Value → zS → Prop) → Prop) (P : Nat) (e : Nat)  (a2 : Int32) (a3 : Int32) (a4 : Int32) (s : zS) (Q : Option Value → zS → Prop) : Prop :=
  ∀ x1 : Int32, (-2147483648 ≤ a2.toInt + 1 ∧ a2.toInt + 1 ≤ 2147483647 → x1.toInt = a2.toInt + 1) → vl_86_14 T P e  a2 a3 a4 (zg s (P + 22) (zg s (P + 18) a2)) x1 0 s Q
set_option maxRecDepth 20000 in
theorem m_86_53_3e {d d0 : Nat} (hd : d = d0 + 8) {e : Nat} (he : skE e = true) {R14 : Int32 → Int32 → Int32 → Int32 → Int32 → Int32 → zS → Prop} {a2 : Int32} {a3 : Int32} {a4 : Int32} {a5 : Int32} {a6 : Int32} {a7 : Int32} {a8 : Int32} {a9 : Int32} {t0 : Int32} {s : zS} {Q : Option Value → zS → Prop} (r14 : ∀ a2 a3 a4 a5 a6 a7 s, R14 a2 a3 a4 a5 a6 a7 s → Zn d [] [] ([(75, 0, 3), (75, 1, 21), (75, 2, 25)] : zW) ([(75, 0, 3), (75, 1, 21), (75, 2, 25)] : zW) xL_7 10 (none) xE_86 (xE_86.drop 14) [.ref 75, .ref e, .int a2, .int a3, .int a4, .int a5, .int a6, .int a7, .null, .null, .null, .null, .null, .null, .null] [] s Q) (h : v_86_53 (fun j => Zt d (wd 3 j) j) 3 e R14 a2 a3 a4 a5 a6 a7 a8 a9 t0 s Q) : Zn d [] [] ([(75, 0, 3), (75, 1, 21), (75, 2, 25)] : zW) ([(75, 0, 3), (75, 1, 21), (75, 2, 25)] : zW) xL_7 10 (none) xE_86 (xE_86.drop 53) [.ref 75, .ref e, .int a2, .int a3, .int a4, .int a5, .int a6, .int a7, .int a8, .int a9, .null, .null, .null, .null, .null] [.int t0] s Q := by
  unfold v_86_53 at h
  refine zn_st [.ref 75, .ref e, .int a2, .int a3, .int a4, .int a5, .int t0, .int a7, .int a8, .int a9, .null, .null, .null, .null, .null] rfl rfl rfl ?_
  replace h := h _ (i_add (x := a7) (y := 1) rfl (show (1 : Int32).toInt = 1 by decide))
  refine zn_inc [.ref 75, .ref e, .int a2, .int a3, .int a4, .int a5, .int t0, .int (a7 + 1), .int a8, .int a9, .null, .null, .null, .null, .null] rfl rfl rfl rfl ?_
  refine zn_go rfl ?_
  refine zn_fg 8 ?_
  refine zn_fg 9 ?_
  exact r14 a2 a3 a4 a5 t0 (a7 + 1) s h
set_option maxRecDepth 20000 in
theorem m_86_32_3e {d d0 : Nat} (hd : d = d0 + 8) {e : Nat} (he : skE e = true) {R14 : Int32 → Int32 → Int32 → Int32 → Int32 → Int32 → zS → Prop} {a2 : Int32} {a3 : Int32} {a4 : Int32} {a5 : Int32} {a6 : Int32} {a7 : Int32} {t0 : Int32} {s : zS} {Q : Option Value → zS → Prop} (r14 : ∀ a2 a3 a4 a5 a6 a7 s, R14 a2 a3 a4 a5 a6 a7 s → Zn d [] [] ([(75, 0, 3), (75, 1, 21), (75, 2, 25)] : zW) ([(75, 0, 3), (75, 1, 21), (75, 2, 25)] : zW) xL_7 10 (none) xE_86 (xE_86.drop 14) [.ref 75, .ref e, .int a2, .int a3, .int a4, .int a5, .int a6, .int a7, .null, .null, .null, .null, .null, .null, .null] [] s Q) (h : v_86_32 (fun j => Zt d (wd 3 j) j) 3 e R14 a2 a3 a4 a5 a6 a7 t0 s Q) : Zn d [] [] ([(75, 0, 3), (75, 1, 21), (75, 2, 25)] : zW) ([(75, 0, 3), (75, 1, 21), (75, 2, 25)] : zW) xL_7 10 (none) xE_86 (xE_86.drop 32) [.ref 75, .ref e, .int a2, .int a3, .int a4, .int a5, .int a6, .int a7, .null, .null, .null, .null, .null, .null, .null] [.int t0] s Q := by
  unfold v_86_32 at h
  refine zn_st [.ref 75, .ref e, .int a2, .int a3, .int a4, .int a5, .int a6, .int a7, .int t0, .null, .null, .null, .null, .null, .null] rfl rfl rfl ?_
  refine zn_ld rfl rfl rfl ?_
  refine zn_ld rfl rfl rfl ?_
  refine zn_zt [.ref 75, .int t0] [] rfl rfl rfl rfl rfl (Zt.imp h (fun v1 s2 h => ?_))
  obtain ⟨x3, rfl, h⟩ := h
  change Zn _ _ _ _ _ _ _ _ _ _ _ [.int x3] _ _
  refine zn_st [.ref 75, .ref e, .int a2, .int a3, .int a4, .int a5, .int a6, .int a7, .int t0, .int x3, .null, .null, .null, .null, .null] rfl rfl rfl ?_
  refine zn_ld rfl rfl rfl ?_
  refine zn_ld rfl rfl rfl ?_
  refine zn_ld rfl rfl rfl ?_
  obtain ⟨hyS, h⟩ := h
  refine zn_set a7 t0 [] (a := e) hd rfl rfl (ev_n he rfl rfl) (ev_r he) (ev_k he _) (ev_c he) rfl ?_ (hx := Or.inl (ev_x he)) (hrw := ev_w he) (hy := ev_y he hyS)
  replace h := h _ rfl
  refine zn_ld rfl rfl rfl ?_
  refine zn_c [.int 12, .ref e] (xo_push (.int 12)) rfl rfl ?_
  refine zn_ld rfl rfl rfl ?_
  replace h := h _ (i_add (x := 12) (y := a7) (show (12 : Int32).toInt = 12 by decide) rfl)
  refine zn_c [.int (12 + a7), .ref e] xo_iadd rfl rfl ?_
  refine zn_ld rfl rfl rfl ?_
  obtain ⟨hyS, h⟩ := h
  refine zn_set (12 + a7) x3 [] (a := e) hd rfl rfl (ev_n he rfl rfl) (ev_r he) (ev_k he _) (ev_c he) rfl ?_ (hx := Or.inl (ev_x he)) (hrw := ev_w he) (hy := ev_y he hyS)
  replace h := h _ rfl
  refine zn_ld rfl rfl rfl ?_
  refine zn_ld rfl rfl rfl ?_
  refine zn_brP rfl rfl ⟨fun hcn => ?_, fun hcn => ?_⟩
  · replace h := h.1 ((i_le (x := a5) (y := a7) rfl rfl).mp hcn)
    refine zn_ld rfl rfl rfl ?_
    exact m_86_53_3e hd he r14 h
  · replace h := h.2 (fun q => hcn ((i_le (x := a5) (y := a7) rfl rfl).mpr q))
    refine zn_ld rfl rfl rfl ?_
    refine zn_go rfl ?_
    exact m_86_53_3e hd he r14 h
set_option maxRecDepth 20000 in
theorem m_86_26_3e {d d0 : Nat} (hd : d = d0 + 8) {e : Nat} (he : skE e = true) {R14 : Int32 → Int32 → Int32 → Int32 → Int32 → Int32 → zS → Prop} {a2 : Int32} {a3 : Int32} {a4 : Int32} {a5 : Int32} {a6 : Int32} {a7 : Int32} {s : zS} {Q : Option Value → zS → Prop} (r14 : ∀ a2 a3 a4 a5 a6 a7 s, R14 a2 a3 a4 a5 a6 a7 s → Zn d [] [] ([(75, 0, 3), (75, 1, 21), (75, 2, 25)] : zW) ([(75, 0, 3), (75, 1, 21), (75, 2, 25)] : zW) xL_7 10 (none) xE_86 (xE_86.drop 14) [.ref 75, .ref e, .int a2, .int a3, .int a4, .int a5, .int a6, .int a7, .null, .null, .null, .null, .null, .null, .null] [] s Q) (h : v_86_26 (fun j => Zt d (wd 3 j) j) 3 e R14 a2 a3 a4 a5 a6 a7 s Q) : Zn d [] [] ([(75, 0, 3), (75, 1, 21), (75, 2, 25)] : zW) ([(75, 0, 3), (75, 1, 21), (75, 2, 25)] : zW) xL_7 10 (none) xE_86 (xE_86.drop 26) [.ref 75, .ref e, .int a2, .int a3, .int a4, .int a5, .int a6, .int a7, .null, .null, .null, .null, .null, .null, .null] [] s Q := by
  unfold v_86_26 at h
  refine zn_ld rfl rfl rfl ?_
  refine zn_ld rfl rfl rfl ?_
  refine zn_brP rfl rfl ⟨fun hcn => ?_, fun hcn => ?_⟩
  · replace h := h.1 ((i_le (x := a5) (y := a7) rfl rfl).mp hcn)
    refine zn_ld rfl rfl rfl ?_
    exact m_86_32_3e hd he r14 h
  · replace h := h.2 (fun q => hcn ((i_le (x := a5) (y := a7) rfl rfl).mpr q))
    refine zn_ld rfl rfl rfl ?_
    refine zn_go rfl ?_
    exact m_86_32_3e hd he r14 h
set_option maxRecDepth 20000 in
theorem m_86_14_3e {d d0 : Nat} (hd : d = d0 + 8) {e : Nat} (he : skE e = true) {R14 : Int32 → Int32 → Int32 → Int32 → Int32 → Int32 → zS → Prop} {a2 : Int32} {a3 : Int32} {a4 : Int32} {a5 : Int32} {a6 : Int32} {a7 : Int32} {s : zS} {Q : Option Value → zS → Prop} (r14 : ∀ a2 a3 a4 a5 a6 a7 s, R14 a2 a3 a4 a5 a6 a7 s → Zn d [] [] ([(75, 0, 3), (75, 1, 21), (75, 2, 25)] : zW) ([(75, 0, 3), (75, 1, 21), (75, 2, 25)] : zW) xL_7 10 (none) xE_86 (xE_86.drop 14) [.ref 75, .ref e, .int a2, .int a3, .int a4, .int a5, .int a6, .int a7, .null, .null, .null, .null, .null, .null, .null] [] s Q) (h : v_86_14 (fun j => Zt d (wd 3 j) j) 3 e R14 a2 a3 a4 a5 a6 a7 s Q) : Zn d [] [] ([(75, 0, 3), (75, 1, 21), (75, 2, 25)] : zW) ([(75, 0, 3), (75, 1, 21), (75, 2, 25)] : zW) xL_7 10 (none) xE_86 (xE_86.drop 14) [.ref 75, .ref e, .int a2, .int a3, .int a4, .int a5, .int a6, .int a7, .null, .null, .null, .null, .null, .null, .null] [] s Q := by
  unfold v_86_14 at h
  refine zn_ld rfl rfl rfl ?_
  refine zn_c [.int 12, .int a7] (xo_push (.int 12)) rfl rfl ?_
  refine zn_brP rfl rfl ⟨fun hcn => ?_, fun hcn => ?_⟩
  · replace h := h.1 ((i_le (x := 12) (y := a7) (show (12 : Int32).toInt = 12 by decide) rfl).mp hcn)
    exact zn_ret0 rfl h
  · replace h := h.2 (fun q => hcn ((i_le (x := 12) (y := a7) (show (12 : Int32).toInt = 12 by decide) rfl).mpr q))
    refine zn_ld rfl rfl rfl ?_
    refine zn_c [.int 6, .int a7] (xo_push (.int 6)) rfl rfl ?_
    refine zn_brN rfl rfl ⟨fun hcn => ?_, fun hcn => ?_⟩
    · replace h := h.1 (fun q => hcn ((i_eq (x := a7) (y := 6) rfl (show (6 : Int32).toInt = 6 by decide)).mpr q))
      exact m_86_26_3e hd he r14 h
    · replace h := h.2 ((i_eq (x := a7) (y := 6) rfl (show (6 : Int32).toInt = 6 by decide)).mp hcn)
      refine zn_c [.int 6] (xo_push (.int 6)) rfl rfl ?_
      refine zn_ld rfl rfl rfl ?_
      replace h := h _ (i_add (x := 6) (y := a4) (show (6 : Int32).toInt = 6 by decide) rfl)
      refine zn_c [.int (6 + a4)] xo_iadd rfl rfl ?_
      refine zn_st [.ref 75, .ref e, .int a2, .int a3, .int a4, .int (6 + a4), .int a6, .int a7, .null, .null, .null, .null, .null, .null, .null] rfl rfl rfl ?_
      refine zn_ld rfl rfl rfl ?_
      refine zn_st [.ref 75, .ref e, .int a2, .int a3, .int a4, .int (6 + a4), .int a3, .int a7, .null, .null, .null, .null, .null, .null, .null] rfl rfl rfl ?_
      exact m_86_26_3e hd he r14 h
theorem ml_86_14_3e {d d0 : Nat} (hd : d = d0 + 8) {e : Nat} (he : skE e = true)  {a2 : Int32} {a3 : Int32} {a4 : Int32} {a5 : Int32} {a6 : Int32} {a7 : Int32} {s : zS} {Q : Option Value → zS → Prop}  (h : vl_86_14 (fun j => Zt d (wd 3 j) j) 3 e  a2 a3 a4 a5 a6 a7 s Q) : Zn d [] [] ([(75, 0, 3), (75, 1, 21), (75, 2, 25)] : zW) ([(75, 0, 3), (75, 1, 21), (75, 2, 25)] : zW) xL_7 10 (none) xE_86 (xE_86.drop 14) [.ref 75, .ref e, .int a2, .int a3, .int a4, .int a5, .int a6, .int a7, .null, .null, .null, .null, .null, .null, .null] [] s Q := by
  obtain ⟨I, μ, h0, h1⟩ := h
  have key : ∀ (n : Nat) (a2 : Int32) (a3 : Int32) (a4 : Int32) (a5 : Int32) (a6 : Int32) (a7 : Int32) (s : zS), μ a2 a3 a4 a5 a6 a7 s = n → I a2 a3 a4 a5 a6 a7 s → Zn d [] [] ([(75, 0, 3), (75, 1, 21), (75, 2, 25)] : zW) ([(75, 0, 3), (75, 1, 21), (75, 2, 25)] : zW) xL_7 10 (none) xE_86 (xE_86.drop 14) [.ref 75, .ref e, .int a2, .int a3, .int a4, .int a5, .int a6, .int a7, .null, .null, .null, .null, .null, .null, .null] [] s Q := by
    intro n
    induction n using Nat.strongRecOn with
    | ind n ih =>
      intro a2 a3 a4 a5 a6 a7 s e hI
      exact m_86_14_3e hd he (fun a2' a3' a4' a5' a6' a7' s' q => ih _ (by rw [← e]; exact q.2) a2' a3' a4' a5' a6' a7' s' rfl q.1) (h1 a2 a3 a4 a5 a6 a7 s hI)
  exact key _ a2 a3 a4 a5 a6 a7 s rfl h0
set_option maxRecDepth 20000 in
theorem m_86_0_3e {d d0 : Nat} (hd : d = d0 + 8) {e : Nat} (he : skE e = true)  {a2 : Int32} {a3 : Int32} {a4 : Int32} {s : zS} {Q : Option Value → zS → Prop}  (h : v_86_0 (fun j => Zt d (wd 3 j) j) 3 e  a2 a3 a4 s Q) : Zn d [] [] ([(75, 0, 3), (75, 1, 21), (75, 2, 25)] : zW) ([(75, 0, 3), (75, 1, 21), (75, 2, 25)] : zW) xL_7 10 (none) xE_86 (xE_86.drop 0) [.ref 75, .ref e, .int a2, .int a3, .int a4, .null, .null, .null, .null, .null, .null, .null, .null, .null, .null] [] s Q := by
  unfold v_86_0 at h
  refine zn_ld rfl rfl rfl ?_
  refine zn_get (v := .ref 25) rfl (zv_C (a := 75) (n := 2) rfl rfl rfl) ?_
  refine zn_ld rfl rfl rfl ?_
  refine zn_get (v := .ref 21) rfl (zv_C (a := 75) (n := 1) rfl rfl rfl) ?_
  refine zn_ld rfl rfl rfl ?_
  refine zn_row a2 [.ref 25] (a := 21) hd rfl rfl rfl rfl ?_
  change Zn _ _ _ _ _ _ _ _ _ _ _ [.int (zg s 21 a2), .ref 25] _ _
  refine zn_row (zg s 21 a2) [] (a := 25) hd rfl rfl rfl rfl ?_
  change Zn _ _ _ _ _ _ _ _ _ _ _ [.int (zg s 25 (zg s 21 a2))] _ _
  refine zn_st [.ref 75, .ref e, .int a2, .int a3, .int a4, .int (zg s 25 (zg s 21 a2)), .null, .null, .null, .null, .null, .null, .null, .null, .null] rfl rfl rfl ?_
  refine zn_ld rfl rfl rfl ?_
  refine zn_c [.int 1, .int a2] (xo_push (.int 1)) rfl rfl ?_
  replace h := h _ (i_add (x := a2) (y := 1) rfl (show (1 : Int32).toInt = 1 by decide))
  refine zn_c [.int (a2 + 1)] xo_iadd rfl rfl ?_
  refine zn_st [.ref 75, .ref e, .int a2, .int a3, .int a4, .int (zg s 25 (zg s 21 a2)), .int (a2 + 1), .null, .null, .null, .null, .null, .null, .null, .null] rfl rfl rfl ?_
  refine zn_c [.int 0] (xo_push (.int 0)) rfl rfl ?_
  refine zn_st [.ref 75, .ref e, .int a2, .int a3, .int a4, .int (zg s 25 (zg s 21 a2)), .int (a2 + 1), .int 0, .null, .null, .null, .null, .null, .null, .null] rfl rfl rfl ?_
  exact ml_86_14_3e hd he  h
theorem zq_86_3e {d : Nat} {e : Nat} (he : skE e = true) {a2 : Int32} {a3 : Int32} {a4 : Int32} {s : zS} {Q : Option Value → zS → Prop} (h : v_86_0 (fun j => Zt (d + 8) (wd 3 j) j) 3 e a2 a3 a4 s Q) : Zt (d + 9) ([(75, 0, 3), (75, 1, 21), (75, 2, 25)] : zW) 86 [.ref 75, .ref e, .int a2, .int a3, .int a4] s Q := zt_of (E := xE_86) (L := xL_7) (ml := 10) (ret := none) rfl rfl rfl (m_86_0_3e rfl he h)
set_option maxRecDepth 20000 in
theorem m_86_53_39e {d d0 : Nat} (hd : d = d0 + 8) {e : Nat} (he : skE e = true) {R14 : Int32 → Int32 → Int32 → Int32 → Int32 → Int32 → zS → Prop} {a2 : Int32} {a3 : Int32} {a4 : Int32} {a5 : Int32} {a6 : Int32} {a7 : Int32} {a8 : Int32} {a9 : Int32} {t0 : Int32} {s : zS} {Q : Option Value → zS → Prop} (r14 : ∀ a2 a3 a4 a5 a6 a7 s, R14 a2 a3 a4 a5 a6 a7 s → Zn d [] [] ([(75, 0, 39), (75, 1, 57), (75, 2, 61)] : zW) ([(75, 0, 39), (75, 1, 57), (75, 2, 61)] : zW) xL_7 10 (none) xE_86 (xE_86.drop 14) [.ref 75, .ref e, .int a2, .int a3, .int a4, .int a5, .int a6, .int a7, .null, .null, .null, .null, .null, .null, .null] [] s Q) (h : v_86_53 (fun j => Zt d (wd 39 j) j) 39 e R14 a2 a3 a4 a5 a6 a7 a8 a9 t0 s Q) : Zn d [] [] ([(75, 0, 39), (75, 1, 57), (75, 2, 61)] : zW) ([(75, 0, 39), (75, 1, 57), (75, 2, 61)] : zW) xL_7 10 (none) xE_86 (xE_86.drop 53) [.ref 75, .ref e, .int a2, .int a3, .int a4, .int a5, .int a6, .int a7, .int a8, .int a9, .null, .null, .null, .null, .null] [.int t0] s Q := by
  unfold v_86_53 at h
  refine zn_st [.ref 75, .ref e, .int a2, .int a3, .int a4, .int a5, .int t0, .int a7, .int a8, .int a9, .null, .null, .null, .null, .null] rfl rfl rfl ?_
  replace h := h _ (i_add (x := a7) (y := 1) rfl (show (1 : Int32).toInt = 1 by decide))
  refine zn_inc [.ref 75, .ref e, .int a2, .int a3, .int a4, .int a5, .int t0, .int (a7 + 1), .int a8, .int a9, .null, .null, .null, .null, .null] rfl rfl rfl rfl ?_
  refine zn_go rfl ?_
  refine zn_fg 8 ?_
  refine zn_fg 9 ?_
  exact r14 a2 a3 a4 a5 t0 (a7 + 1) s h
set_option maxRecDepth 20000 in
theorem m_86_32_39e {d d0 : Nat} (hd : d = d0 + 8) {e : Nat} (he : skE e = true) {R14 : Int32 → Int32 → Int32 → Int32 → Int32 → Int32 → zS → Prop} {a2 : Int32} {a3 : Int32} {a4 : Int32} {a5 : Int32} {a6 : Int32} {a7 : Int32} {t0 : Int32} {s : zS} {Q : Option Value → zS → Prop} (r14 : ∀ a2 a3 a4 a5 a6 a7 s, R14 a2 a3 a4 a5 a6 a7 s → Zn d [] [] ([(75, 0, 39), (75, 1, 57), (75, 2, 61)] : zW) ([(75, 0, 39), (75, 1, 57), (75, 2, 61)] : zW) xL_7 10 (none) xE_86 (xE_86.drop 14) [.ref 75, .ref e, .int a2, .int a3, .int a4, .int a5, .int a6, .int a7, .null, .null, .null, .null, .null, .null, .null] [] s Q) (h : v_86_32 (fun j => Zt d (wd 39 j) j) 39 e R14 a2 a3 a4 a5 a6 a7 t0 s Q) : Zn d [] [] ([(75, 0, 39), (75, 1, 57), (75, 2, 61)] : zW) ([(75, 0, 39), (75, 1, 57), (75, 2, 61)] : zW) xL_7 10 (none) xE_86 (xE_86.drop 32) [.ref 75, .ref e, .int a2, .int a3, .int a4, .int a5, .int a6, .int a7, .null, .null, .null, .null, .null, .null, .null] [.int t0] s Q := by
  unfold v_86_32 at h
  refine zn_st [.ref 75, .ref e, .int a2, .int a3, .int a4, .int a5, .int a6, .int a7, .int t0, .null, .null, .null, .null, .null, .null] rfl rfl rfl ?_
  refine zn_ld rfl rfl rfl ?_
  refine zn_ld rfl rfl rfl ?_
  refine zn_zt [.ref 75, .int t0] [] rfl rfl rfl rfl rfl (Zt.imp h (fun v1 s2 h => ?_))
  obtain ⟨x3, rfl, h⟩ := h
  change Zn _ _ _ _ _ _ _ _ _ _ _ [.int x3] _ _
  refine zn_st [.ref 75, .ref e, .int a2, .int a3, .int a4, .int a5, .int a6, .int a7, .int t0, .int x3, .null, .null, .null, .null, .null] rfl rfl rfl ?_
  refine zn_ld rfl rfl rfl ?_
  refine zn_ld rfl rfl rfl ?_
  refine zn_ld rfl rfl rfl ?_
  obtain ⟨hyS, h⟩ := h
  refine zn_set a7 t0 [] (a := e) hd rfl rfl (ev_n he rfl rfl) (ev_r he) (ev_k he _) (ev_c he) rfl ?_ (hx := Or.inl (ev_x he)) (hrw := ev_w he) (hy := ev_y he hyS)
  replace h := h _ rfl
  refine zn_ld rfl rfl rfl ?_
  refine zn_c [.int 12, .ref e] (xo_push (.int 12)) rfl rfl ?_
  refine zn_ld rfl rfl rfl ?_
  replace h := h _ (i_add (x := 12) (y := a7) (show (12 : Int32).toInt = 12 by decide) rfl)
  refine zn_c [.int (12 + a7), .ref e] xo_iadd rfl rfl ?_
  refine zn_ld rfl rfl rfl ?_
  obtain ⟨hyS, h⟩ := h
  refine zn_set (12 + a7) x3 [] (a := e) hd rfl rfl (ev_n he rfl rfl) (ev_r he) (ev_k he _) (ev_c he) rfl ?_ (hx := Or.inl (ev_x he)) (hrw := ev_w he) (hy := ev_y he hyS)
  replace h := h _ rfl
  refine zn_ld rfl rfl rfl ?_
  refine zn_ld rfl rfl rfl ?_
  refine zn_brP rfl rfl ⟨fun hcn => ?_, fun hcn => ?_⟩
  · replace h := h.1 ((i_le (x := a5) (y := a7) rfl rfl).mp hcn)
    refine zn_ld rfl rfl rfl ?_
    exact m_86_53_39e hd he r14 h
  · replace h := h.2 (fun q => hcn ((i_le (x := a5) (y := a7) rfl rfl).mpr q))
    refine zn_ld rfl rfl rfl ?_
    refine zn_go rfl ?_
    exact m_86_53_39e hd he r14 h
set_option maxRecDepth 20000 in
theorem m_86_26_39e {d d0 : Nat} (hd : d = d0 + 8) {e : Nat} (he : skE e = true) {R14 : Int32 → Int32 → Int32 → Int32 → Int32 → Int32 → zS → Prop} {a2 : Int32} {a3 : Int32} {a4 : Int32} {a5 : Int32} {a6 : Int32} {a7 : Int32} {s : zS} {Q : Option Value → zS → Prop} (r14 : ∀ a2 a3 a4 a5 a6 a7 s, R14 a2 a3 a4 a5 a6 a7 s → Zn d [] [] ([(75, 0, 39), (75, 1, 57), (75, 2, 61)] : zW) ([(75, 0, 39), (75, 1, 57), (75, 2, 61)] : zW) xL_7 10 (none) xE_86 (xE_86.drop 14) [.ref 75, .ref e, .int a2, .int a3, .int a4, .int a5, .int a6, .int a7, .null, .null, .null, .null, .null, .null, .null] [] s Q) (h : v_86_26 (fun j => Zt d (wd 39 j) j) 39 e R14 a2 a3 a4 a5 a6 a7 s Q) : Zn d [] [] ([(75, 0, 39), (75, 1, 57), (75, 2, 61)] : zW) ([(75, 0, 39), (75, 1, 57), (75, 2, 61)] : zW) xL_7 10 (none) xE_86 (xE_86.drop 26) [.ref 75, .ref e, .int a2, .int a3, .int a4, .int a5, .int a6, .int a7, .null, .null, .null, .null, .null, .null, .null] [] s Q := by
  unfold v_86_26 at h
  refine zn_ld rfl rfl rfl ?_
  refine zn_ld rfl rfl rfl ?_
  refine zn_brP rfl rfl ⟨fun hcn => ?_, fun hcn => ?_⟩
  · replace h := h.1 ((i_le (x := a5) (y := a7) rfl rfl).mp hcn)
    refine zn_ld rfl rfl rfl ?_
    exact m_86_32_39e hd he r14 h
  · replace h := h.2 (fun q => hcn ((i_le (x := a5) (y := a7) rfl rfl).mpr q))
    refine zn_ld rfl rfl rfl ?_
    refine zn_go rfl ?_
    exact m_86_32_39e hd he r14 h
set_option maxRecDepth 20000 in
theorem m_86_14_39e {d d0 : Nat} (hd : d = d0 + 8) {e : Nat} (he : skE e = true) {R14 : Int32 → Int32 → Int32 → Int32 → Int32 → Int32 → zS → Prop} {a2 : Int32} {a3 : Int32} {a4 : Int32} {a5 : Int32} {a6 : Int32} {a7 : Int32} {s : zS} {Q : Option Value → zS → Prop} (r14 : ∀ a2 a3 a4 a5 a6 a7 s, R14 a2 a3 a4 a5 a6 a7 s → Zn d [] [] ([(75, 0, 39), (75, 1, 57), (75, 2, 61)] : zW) ([(75, 0, 39), (75, 1, 57), (75, 2, 61)] : zW) xL_7 10 (none) xE_86 (xE_86.drop 14) [.ref 75, .ref e, .int a2, .int a3, .int a4, .int a5, .int a6, .int a7, .null, .null, .null, .null, .null, .null, .null] [] s Q) (h : v_86_14 (fun j => Zt d (wd 39 j) j) 39 e R14 a2 a3 a4 a5 a6 a7 s Q) : Zn d [] [] ([(75, 0, 39), (75, 1, 57), (75, 2, 61)] : zW) ([(75, 0, 39), (75, 1, 57), (75, 2, 61)] : zW) xL_7 10 (none) xE_86 (xE_86.drop 14) [.ref 75, .ref e, .int a2, .int a3, .int a4, .int a5, .int a6, .int a7, .null, .null, .null, .null, .null, .null, .null] [] s Q := by
  unfold v_86_14 at h
  refine zn_ld rfl rfl rfl ?_
  refine zn_c [.int 12, .int a7] (xo_push (.int 12)) rfl rfl ?_
  refine zn_brP rfl rfl ⟨fun hcn => ?_, fun hcn => ?_⟩
  · replace h := h.1 ((i_le (x := 12) (y := a7) (show (12 : Int32).toInt = 12 by decide) rfl).mp hcn)
    exact zn_ret0 rfl h
  · replace h := h.2 (fun q => hcn ((i_le (x := 12) (y := a7) (show (12 : Int32).toInt = 12 by decide) rfl).mpr q))
    refine zn_ld rfl rfl rfl ?_
    refine zn_c [.int 6, .int a7] (xo_push (.int 6)) rfl rfl ?_
    refine zn_brN rfl rfl ⟨fun hcn => ?_, fun hcn => ?_⟩
    · replace h := h.1 (fun q => hcn ((i_eq (x := a7) (y := 6) rfl (show (6 : Int32).toInt = 6 by decide)).mpr q))
      exact m_86_26_39e hd he r14 h
    · replace h := h.2 ((i_eq (x := a7) (y := 6) rfl (show (6 : Int32).toInt = 6 by decide)).mp hcn)
      refine zn_c [.int 6] (xo_push (.int 6)) rfl rfl ?_
      refine zn_ld rfl rfl rfl ?_
      replace h := h _ (i_add (x := 6) (y := a4) (show (6 : Int32).toInt = 6 by decide) rfl)
      refine zn_c [.int (6 + a4)] xo_iadd rfl rfl ?_
      refine zn_st [.ref 75, .ref e, .int a2, .int a3, .int a4, .int (6 + a4), .int a6, .int a7, .null, .null, .null, .null, .null, .null, .null] rfl rfl rfl ?_
      refine zn_ld rfl rfl rfl ?_
      refine zn_st [.ref 75, .ref e, .int a2, .int a3, .int a4, .int (6 + a4), .int a3, .int a7, .null, .null, .null, .null, .null, .null, .null] rfl rfl rfl ?_
      exact m_86_26_39e hd he r14 h
theorem ml_86_14_39e {d d0 : Nat} (hd : d = d0 + 8) {e : Nat} (he : skE e = true)  {a2 : Int32} {a3 : Int32} {a4 : Int32} {a5 : Int32} {a6 : Int32} {a7 : Int32} {s : zS} {Q : Option Value → zS → Prop}  (h : vl_86_14 (fun j => Zt d (wd 39 j) j) 39 e  a2 a3 a4 a5 a6 a7 s Q) : Zn d [] [] ([(75, 0, 39), (75, 1, 57), (75, 2, 61)] : zW) ([(75, 0, 39), (75, 1, 57), (75, 2, 61)] : zW) xL_7 10 (none) xE_86 (xE_86.drop 14) [.ref 75, .ref e, .int a2, .int a3, .int a4, .int a5, .int a6, .int a7, .null, .null, .null, .null, .null, .null, .null] [] s Q := by
  obtain ⟨I, μ, h0, h1⟩ := h
  have key : ∀ (n : Nat) (a2 : Int32) (a3 : Int32) (a4 : Int32) (a5 : Int32) (a6 : Int32) (a7 : Int32) (s : zS), μ a2 a3 a4 a5 a6 a7 s = n → I a2 a3 a4 a5 a6 a7 s → Zn d [] [] ([(75, 0, 39), (75, 1, 57), (75, 2, 61)] : zW) ([(75, 0, 39), (75, 1, 57), (75, 2, 61)] : zW) xL_7 10 (none) xE_86 (xE_86.drop 14) [.ref 75, .ref e, .int a2, .int a3, .int a4, .int a5, .int a6, .int a7, .null, .null, .null, .null, .null, .null, .null] [] s Q := by
    intro n
    induction n using Nat.strongRecOn with
    | ind n ih =>
      intro a2 a3 a4 a5 a6 a7 s e hI
      exact m_86_14_39e hd he (fun a2' a3' a4' a5' a6' a7' s' q => ih _ (by rw [← e]; exact q.2) a2' a3' a4' a5' a6' a7' s' rfl q.1) (h1 a2 a3 a4 a5 a6 a7 s hI)
  exact key _ a2 a3 a4 a5 a6 a7 s rfl h0
set_option maxRecDepth 20000 in
theorem m_86_0_39e {d d0 : Nat} (hd : d = d0 + 8) {e : Nat} (he : skE e = true)  {a2 : Int32} {a3 : Int32} {a4 : Int32} {s : zS} {Q : Option Value → zS → Prop}  (h : v_86_0 (fun j => Zt d (wd 39 j) j) 39 e  a2 a3 a4 s Q) : Zn d [] [] ([(75, 0, 39), (75, 1, 57), (75, 2, 61)] : zW) ([(75, 0, 39), (75, 1, 57), (75, 2, 61)] : zW) xL_7 10 (none) xE_86 (xE_86.drop 0) [.ref 75, .ref e, .int a2, .int a3, .int a4, .null, .null, .null, .null, .null, .null, .null, .null, .null, .null] [] s Q := by
  unfold v_86_0 at h
  refine zn_ld rfl rfl rfl ?_
  refine zn_get (v := .ref 61) rfl (zv_C (a := 75) (n := 2) rfl rfl rfl) ?_
  refine zn_ld rfl rfl rfl ?_
  refine zn_get (v := .ref 57) rfl (zv_C (a := 75) (n := 1) rfl rfl rfl) ?_
  refine zn_ld rfl rfl rfl ?_
  refine zn_row a2 [.ref 61] (a := 57) hd rfl rfl rfl rfl ?_
  change Zn _ _ _ _ _ _ _ _ _ _ _ [.int (zg s 57 a2), .ref 61] _ _
  refine zn_row (zg s 57 a2) [] (a := 61) hd rfl rfl rfl rfl ?_
  change Zn _ _ _ _ _ _ _ _ _ _ _ [.int (zg s 61 (zg s 57 a2))] _ _
  refine zn_st [.ref 75, .ref e, .int a2, .int a3, .int a4, .int (zg s 61 (zg s 57 a2)), .null, .null, .null, .null, .null, .null, .null, .null, .null] rfl rfl rfl ?_
  refine zn_ld rfl rfl rfl ?_
  refine zn_c [.int 1, .int a2] (xo_push (.int 1)) rfl rfl ?_
  replace h := h _ (i_add (x := a2) (y := 1) rfl (show (1 : Int32).toInt = 1 by decide))
  refine zn_c [.int (a2 + 1)] xo_iadd rfl rfl ?_
  refine zn_st [.ref 75, .ref e, .int a2, .int a3, .int a4, .int (zg s 61 (zg s 57 a2)), .int (a2 + 1), .null, .null, .null, .null, .null, .null, .null, .null] rfl rfl rfl ?_
  refine zn_c [.int 0] (xo_push (.int 0)) rfl rfl ?_
  refine zn_st [.ref 75, .ref e, .int a2, .int a3, .int a4, .int (zg s 61 (zg s 57 a2)), .int (a2 + 1), .int 0, .null, .null, .null, .null, .null, .null, .null] rfl rfl rfl ?_
  exact ml_86_14_39e hd he  h
theorem zq_86_39e {d : Nat} {e : Nat} (he : skE e = true) {a2 : Int32} {a3 : Int32} {a4 : Int32} {s : zS} {Q : Option Value → zS → Prop} (h : v_86_0 (fun j => Zt (d + 8) (wd 39 j) j) 39 e a2 a3 a4 s Q) : Zt (d + 9) ([(75, 0, 39), (75, 1, 57), (75, 2, 61)] : zW) 86 [.ref 75, .ref e, .int a2, .int a3, .int a4] s Q := zt_of (E := xE_86) (L := xL_7) (ml := 10) (ret := none) rfl rfl rfl (m_86_0_39e rfl he h)
theorem zc_86 {d P e : Nat} (hP : P = 3 ∨ P = 39) (he : skE e = true) {a2 : Int32} {a3 : Int32} {a4 : Int32} {s : zS} {Q : Option Value → zS → Prop} (h : v_86_0 (fun j => Zt (d + 8) (wd P j) j) P e a2 a3 a4 s Q) : Zt (d + 9) (wd P 86) 86 [.ref 75, .ref e, .int a2, .int a3, .int a4] s Q := by
  rcases hP with rfl | rfl
  · exact zq_86_3e he h
  · exact zq_86_39e he h
/-! FeatherBench$Shapes.put -/
def v_87_91 (T : Nat → List Value → zS → (Option Value → zS → Prop) → Prop) (P : Nat) (e : Nat)  (a1 : Int32) (a3 : Int32) (a4 : Int32) (a5 : Int32) (a6 : Int32) (s : zS) (Q : Option Value → zS → Prop) : Prop :=
  (a5.toInt = 0 → ∀ x1 : Int32, (-2147483648 ≤ (s.1 75 3).toInt + a3.toInt ∧ (s.1 75 3).toInt + a3.toInt ≤ 2147483647 → x1.toInt = (s.1 75 3).toInt + a3.toInt) → ∀ s2, s2 = zf s 75 3 x1 → ∀ x3 : Int32, (-2147483648 ≤ (s2.1 75 3).toInt - a3.toInt ∧ (s2.1 75 3).toInt - a3.toInt ≤ 2147483647 → x3.toInt = (s2.1 75 3).toInt - a3.toInt) → Q (some (.int x3)) s2) ∧ (¬ (a5.toInt = 0) → Q (some (.int a1)) s)
def v_87_79 (T : Nat → List Value → zS → (Option Value → zS → Prop) → Prop) (P : Nat) (e : Nat) (R8 : Int32 → Int32 → Int32 → Int32 → Int32 → zS → Prop) (a1 : Int32) (a3 : Int32) (a4 : Int32) (a5 : Int32) (a6 : Int32) (a7 : Int32) (a8 : Int32) (a9 : Int32) (a10 : Int32) (a11 : Int32) (t0 : Int32) (s : zS) (Q : Option Value → zS → Prop) : Prop :=
  ∀ x1 : Int32, (-2147483648 ≤ (zg s (P + 22) a7).toInt - 1 ∧ (zg s (P + 22) a7).toInt - 1 ≤ 2147483647 → x1.toInt = (zg s (P + 22) a7).toInt - 1) → ∀ x2 : Int32, (-2147483648 ≤ a4.toInt + x1.toInt ∧ a4.toInt + x1.toInt ≤ 2147483647 → x2.toInt = a4.toInt + x1.toInt) → ∀ x3 : Int32, (-2147483648 ≤ a6.toInt + 1 ∧ a6.toInt + 1 ≤ 2147483647 → x3.toInt = a6.toInt + 1) → R8 a1 a3 x2 t0 x3 s
def v_87_78 (T : Nat → List Value → zS → (Option Value → zS → Prop) → Prop) (P : Nat) (e : Nat) (R8 : Int32 → Int32 → Int32 → Int32 → Int32 → zS → Prop) (a1 : Int32) (a3 : Int32) (a4 : Int32) (a5 : Int32) (a6 : Int32) (a7 : Int32) (a8 : Int32) (a9 : Int32) (a10 : Int32) (a11 : Int32) (s : zS) (Q : Option Value → zS → Prop) : Prop :=
  v_87_79 T P e R8 a1 a3 a4 a5 a6 a7 a8 a9 a10 a11 0 s Q
def v_87_55 (T : Nat → List Value → zS → (Option Value → zS → Prop) → Prop) (P : Nat) (e : Nat) (R8 : Int32 → Int32 → Int32 → Int32 → Int32 → zS → Prop) (R55 : Int32 → Int32 → Int32 → Int32 → Int32 → Int32 → Int32 → Int32 → Int32 → Int32 → zS → Prop) (a1 : Int32) (a3 : Int32) (a4 : Int32) (a5 : Int32) (a6 : Int32) (a7 : Int32) (a8 : Int32) (a9 : Int32) (a10 : Int32) (a11 : Int32) (s : zS) (Q : Option Value → zS → Prop) : Prop :=
  (a10.toInt ≤ a11.toInt → (a5.toInt = 0 → v_87_78 T P e R8 a1 a3 a4 a5 a6 a7 a8 a9 a10 a11 s Q) ∧ (¬ (a5.toInt = 0) → (0 ≤ a8.toInt → v_87_78 T P e R8 a1 a3 a4 a5 a6 a7 a8 a9 a10 a11 s Q) ∧ (¬ (0 ≤ a8.toInt) → v_87_79 T P e R8 a1 a3 a4 a5 a6 a7 a8 a9 a10 a11 1 s Q))) ∧ (¬ (a10.toInt ≤ a11.toInt) → ∀ x1 : Int32, (-2147483648 ≤ (s.1 75 3).toInt + a3.toInt ∧ (s.1 75 3).toInt + a3.toInt ≤ 2147483647 → x1.toInt = (s.1 75 3).toInt + a3.toInt) → (x1.toInt < 0 ∨ 18 ≤ x1.toInt) ∧ (∀ s2, s2 = zt s (P + 18) x1 (zg s (P + 18) a11) → ∀ x3 : Int32, (-2147483648 ≤ a3.toInt + 1 ∧ a3.toInt + 1 ≤ 2147483647 → x3.toInt = a3.toInt + 1) → ∀ x4 : Int32, (-2147483648 ≤ a11.toInt + 1 ∧ a11.toInt + 1 ≤ 2147483647 → x4.toInt = a11.toInt + 1) → R55 a1 x3 a4 a5 a6 a7 a8 a9 a10 x4 s2))
def vl_87_55 (T : Nat → List Value → zS → (Option Value → zS → Prop) → Prop) (P : Nat) (e : Nat) (R8 : Int32 → Int32 → Int32 → Int32 → Int32 → zS → Prop) (a1 : Int32) (a3 : Int32) (a4 : Int32) (a5 : Int32) (a6 : Int32) (a7 : Int32) (a8 : Int32) (a9 : Int32) (a10 : Int32) (a11 : Int32) (s : zS) (Q : Option Value → zS → Prop) : Prop :=
  ∃ (I : Int32 → Int32 → Int32 → Int32 → Int32 → Int32 → Int32 → Int32 → Int32 → Int32 → zS → Prop) (μ : Int32 → Int32 → Int32 → Int32 → Int32 → Int32 → Int32 → Int32 → Int32 → Int32 → zS → Nat), I a1 a3 a4 a5 a6 a7 a8 a9 a10 a11 s ∧ ∀ (a1 : Int32) (a3 : Int32) (a4 : Int32) (a5 : Int32) (a6 : Int32) (a7 : Int32) (a8 : Int32) (a9 : Int32) (a10 : Int32) (a11 : Int32) (s : zS), I a1 a3 a4 a5 a6 a7 a8 a9 a10 a11 s → v_87_55 T P e R8 (fun a1' a3' a4' a5' a6' a7' a8' a9' a10' a11' s' => I a1' a3' a4' a5' a6' a7' a8' a9' a10' a11' s' ∧ μ a1' a3' a4' a5' a6' a7' a8' a9' a10' a11' s' < μ a1 a3 a4 a5 a6 a7 a8 a9 a10 a11 s) a1 a3 a4 a5 a6 a7 a8 a9 a10 a11 s Q
def v_87_43 (T : Nat → List Value → zS → (Option Value → zS → Prop) → Prop) (P : Nat) (e : Nat) (R8 : Int32 → Int32 → Int32 → Int32 → Int32 → zS → Prop) (a1 : Int32) (a3 : Int32) (a4 : Int32) (a5 : Int32) (a6 : Int32) (a7 : Int32) (a8 : Int32) (a9 : Int32) (t0 : Int32) (s : zS) (Q : Option Value → zS → Prop) : Prop :=
  ∀ x1 : Int32, (-2147483648 ≤ a3.toInt + t0.toInt ∧ a3.toInt + t0.toInt ≤ 2147483647 → x1.toInt = a3.toInt + t0.toInt) → ∀ x2 : Int32, (-2147483648 ≤ x1.toInt - a9.toInt ∧ x1.toInt - a9.toInt ≤ 2147483647 → x2.toInt = x1.toInt - a9.toInt) → (x2.toInt ≤ 60 → vl_87_55 T P e R8 a1 a3 a4 a5 a6 a7 a8 a9 t0 a9 s Q) ∧ (¬ (x2.toInt ≤ 60) → Q (some (.int (-1))) s)
def v_87_31 (T : Nat → List Value → zS → (Option Value → zS → Prop) → Prop) (P : Nat) (e : Nat) (R8 : Int32 → Int32 → Int32 → Int32 → Int32 → zS → Prop) (a1 : Int32) (a3 : Int32) (a4 : Int32) (a5 : Int32) (a6 : Int32) (a7 : Int32) (a8 : Int32) (t0 : Int32) (s : zS) (Q : Option Value → zS → Prop) : Prop :=
  (0 ≤ a8.toInt → ∀ x1 : Int32, (-2147483648 ≤ 12 + a8.toInt ∧ 12 + a8.toInt ≤ 2147483647 → x1.toInt = 12 + a8.toInt) → v_87_43 T P e R8 a1 a3 a4 a5 a6 a7 a8 t0 (zg s e x1) s Q) ∧ (¬ (0 ≤ a8.toInt) → ∀ x2 : Int32, (-2147483648 ≤ a6.toInt + 1 ∧ a6.toInt + 1 ≤ 2147483647 → x2.toInt = a6.toInt + 1) → v_87_43 T P e R8 a1 a3 a4 a5 a6 a7 a8 t0 x2 s Q)
def v_87_8 (T : Nat → List Value → zS → (Option Value → zS → Prop) → Prop) (P : Nat) (e : Nat) (R8 : Int32 → Int32 → Int32 → Int32 → Int32 → zS → Prop) (a1 : Int32) (a3 : Int32) (a4 : Int32) (a5 : Int32) (a6 : Int32) (s : zS) (Q : Option Value → zS → Prop) : Prop :=
  ∀ x1 : Int32, (-2147483648 ≤ a1.toInt + 60 ∧ a1.toInt + 60 ≤ 2147483647 → x1.toInt = a1.toInt + 60) → (x1.toInt ≤ a6.toInt → v_87_91 T P e  a1 a3 a4 a5 a6 s Q) ∧ (¬ (x1.toInt ≤ a6.toInt) → (a4.toInt ≤ 0 → v_87_91 T P e  a1 a3 a4 a5 a6 s Q) ∧ (¬ (a4.toInt ≤ 0) → ∀ x2 : Int32, (-2147483648 ≤ (zg s (P + 18) a6).toInt - 24 ∧ (zg s (P + 18) a6).toInt - 24 ≤ 2147483647 → x2.toInt = (zg s (P + 18) a6).toInt - 24) → (0 ≤ x2.toInt → v_87_31 T P e R8 a1 a3 a4 a5 a6 (zg s (P + 18) a6) x2 (zg s e x2) s Q) ∧ (¬ (0 ≤ x2.toInt) → v_87_31 T P e R8 a1 a3 a4 a5 a6 (zg s (P + 18) a6) x2 a6 s Q)))
def vl_87_8 (T : Nat → List Value → zS → (Option Value → zS → Prop) → Prop) (P : Nat) (e : Nat)  (a1 : Int32) (a3 : Int32) (a4 : Int32) (a5 : Int32) (a6 : Int32) (s : zS) (Q : Option Value → zS → Prop) : Prop :=
  ∃ (I : Int32 → Int32 → Int32 → Int32 → Int32 → zS → Prop) (μ : Int32 → Int32 → Int32 → Int32 → Int32 → zS → Nat), I a1 a3 a4 a5 a6 s ∧ ∀ (a1 : Int32) (a3 : Int32) (a4 : Int32) (a5 : Int32) (a6 : Int32) (s : zS), I a1 a3 a4 a5 a6 s → v_87_8 T P e (fun a1' a3' a4' a5' a6' s' => I a1' a3' a4' a5' a6' s' ∧ μ a1' a3' a4' a5' a6' s' < μ a1 a3 a4 a5 a6 s) a1 a3 a4 a5 a6 s Q
def v_87_0 (T : Nat → List Value → zS → (Option Value → zS → Prop) → Prop) (P : Nat) (e : Nat)  (a1 : Int32) (s : zS) (Q : Option Value → zS → Prop) : Prop :=
  vl_87_8 T P e  a1 0 1 1 a1 s Q
set_option maxRecDepth 20000 in
theorem m_87_91_3e {d d0 : Nat} (hd : d = d0 + 8) {e : Nat} (he : skE e = true)  {a1 : Int32} {a3 : Int32} {a4 : Int32} {a5 : Int32} {a6 : Int32} {s : zS} {Q : Option Value → zS → Prop}  (h : v_87_91 (fun j => Zt d (wd 3 j) j) 3 e  a1 a3 a4 a5 a6 s Q) : Zn d [] [(3, 98)] ([(75, 0, 3), (75, 1, 21), (75, 2, 25)] : zW) ([(75, 0, 3), (75, 1, 21), (75, 2, 25)] : zW) xL_7 12 (some .int) xE_87 (xE_87.drop 91) [.ref 75, .int a1, .ref e, .int a3, .int a4, .int a5, .int a6, .null, .null, .null, .null, .null, .null, .null, .null] [] s Q := by
  unfold v_87_91 at h
  refine zn_ld rfl rfl rfl ?_
  refine zn_brP rfl rfl ⟨fun hcn => ?_, fun hcn => ?_⟩
  · replace h := h.1 ((i_eq (x := a5) (y := 0) rfl (show (0 : Int32).toInt = 0 by decide)).mp hcn)
    refine zn_ld rfl rfl rfl ?_
    refine zn_c [.ref 75, .ref 75] xo_dup rfl rfl ?_
    refine zn_get (v := .int (s.1 75 3)) rfl (zv_I (a := 75) rfl rfl) ?_
    refine zn_ld rfl rfl rfl ?_
    replace h := h _ (i_add (x := s.1 75 3) (y := a3) rfl rfl)
    refine zn_c [.int ((s.1 75 3) + a3), .ref 75] xo_iadd rfl rfl ?_
    refine zn_putI (a := 75) rfl rfl rfl rfl ⟨Int32.le_toInt _, Int.le_of_lt_add_one (Int32.toInt_lt _)⟩ rfl rfl rfl ?_
    replace h := h _ rfl
    refine zn_ld rfl rfl rfl ?_
    refine zn_get (v := .int ((zf s 75 3 ((s.1 75 3) + a3)).1 75 3)) rfl (zv_I (a := 75) rfl rfl) ?_
    refine zn_ld rfl rfl rfl ?_
    replace h := h _ (i_sub (x := (zf s 75 3 ((s.1 75 3) + a3)).1 75 3) (y := a3) rfl rfl)
    refine zn_c [.int (((zf s 75 3 ((s.1 75 3) + a3)).1 75 3) - a3)] xo_isub rfl rfl ?_
    exact zn_retI rfl h
  · replace h := h.2 (fun q => hcn ((i_eq (x := a5) (y := 0) rfl (show (0 : Int32).toInt = 0 by decide)).mpr q))
    refine zn_ld rfl rfl rfl ?_
    exact zn_retI rfl h
set_option maxRecDepth 20000 in
theorem m_87_79_3e {d d0 : Nat} (hd : d = d0 + 8) {e : Nat} (he : skE e = true) {R8 : Int32 → Int32 → Int32 → Int32 → Int32 → zS → Prop} {a1 : Int32} {a3 : Int32} {a4 : Int32} {a5 : Int32} {a6 : Int32} {a7 : Int32} {a8 : Int32} {a9 : Int32} {a10 : Int32} {a11 : Int32} {t0 : Int32} {s : zS} {Q : Option Value → zS → Prop} (r8 : ∀ a1 a3 a4 a5 a6 s, R8 a1 a3 a4 a5 a6 s → Zn d [] [(3, 98)] ([(75, 0, 3), (75, 1, 21), (75, 2, 25)] : zW) ([(75, 0, 3), (75, 1, 21), (75, 2, 25)] : zW) xL_7 12 (some .int) xE_87 (xE_87.drop 8) [.ref 75, .int a1, .ref e, .int a3, .int a4, .int a5, .int a6, .null, .null, .null, .null, .null, .null, .null, .null] [] s Q) (h : v_87_79 (fun j => Zt d (wd 3 j) j) 3 e R8 a1 a3 a4 a5 a6 a7 a8 a9 a10 a11 t0 s Q) : Zn d [] [(3, 98)] ([(75, 0, 3), (75, 1, 21), (75, 2, 25)] : zW) ([(75, 0, 3), (75, 1, 21), (75, 2, 25)] : zW) xL_7 12 (some .int) xE_87 (xE_87.drop 79) [.ref 75, .int a1, .ref e, .int a3, .int a4, .int a5, .int a6, .int a7, .int a8, .int a9, .int a10, .int a11, .null, .null, .null] [.int t0] s Q := by
  unfold v_87_79 at h
  refine zn_st [.ref 75, .int a1, .ref e, .int a3, .int a4, .int t0, .int a6, .int a7, .int a8, .int a9, .int a10, .int a11, .null, .null, .null] rfl rfl rfl ?_
  refine zn_ld rfl rfl rfl ?_
  refine zn_ld rfl rfl rfl ?_
  refine zn_get (v := .ref 25) rfl (zv_C (a := 75) (n := 2) rfl rfl rfl) ?_
  refine zn_ld rfl rfl rfl ?_
  refine zn_row a7 [.int a4] (a := 25) hd rfl rfl rfl rfl ?_
  change Zn _ _ _ _ _ _ _ _ _ _ _ [.int (zg s 25 a7), .int a4] _ _
  refine zn_c [.int 1, .int (zg s 25 a7), .int a4] (xo_push (.int 1)) rfl rfl ?_
  replace h := h _ (i_sub (x := zg s 25 a7) (y := 1) rfl (show (1 : Int32).toInt = 1 by decide))
  refine zn_c [.int ((zg s 25 a7) - 1), .int a4] xo_isub rfl rfl ?_
  replace h := h _ (i_add (x := a4) (y := ((zg s 25 a7) - 1)) rfl rfl)
  refine zn_c [.int (a4 + ((zg s 25 a7) - 1))] xo_iadd rfl rfl ?_
  refine zn_st [.ref 75, .int a1, .ref e, .int a3, .int (a4 + ((zg s 25 a7) - 1)), .int t0, .int a6, .int a7, .int a8, .int a9, .int a10, .int a11, .null, .null, .null] rfl rfl rfl ?_
  replace h := h _ (i_add (x := a6) (y := 1) rfl (show (1 : Int32).toInt = 1 by decide))
  refine zn_inc [.ref 75, .int a1, .ref e, .int a3, .int (a4 + ((zg s 25 a7) - 1)), .int t0, .int (a6 + 1), .int a7, .int a8, .int a9, .int a10, .int a11, .null, .null, .null] rfl rfl rfl rfl ?_
  refine zn_go rfl ?_
  refine zn_fg 7 ?_
  refine zn_fg 8 ?_
  refine zn_fg 9 ?_
  refine zn_fg 10 ?_
  refine zn_fg 11 ?_
  exact r8 a1 a3 (a4 + ((zg s 25 a7) - 1)) t0 (a6 + 1) s h
set_option maxRecDepth 20000 in
theorem m_87_78_3e {d d0 : Nat} (hd : d = d0 + 8) {e : Nat} (he : skE e = true) {R8 : Int32 → Int32 → Int32 → Int32 → Int32 → zS → Prop} {a1 : Int32} {a3 : Int32} {a4 : Int32} {a5 : Int32} {a6 : Int32} {a7 : Int32} {a8 : Int32} {a9 : Int32} {a10 : Int32} {a11 : Int32} {s : zS} {Q : Option Value → zS → Prop} (r8 : ∀ a1 a3 a4 a5 a6 s, R8 a1 a3 a4 a5 a6 s → Zn d [] [(3, 98)] ([(75, 0, 3), (75, 1, 21), (75, 2, 25)] : zW) ([(75, 0, 3), (75, 1, 21), (75, 2, 25)] : zW) xL_7 12 (some .int) xE_87 (xE_87.drop 8) [.ref 75, .int a1, .ref e, .int a3, .int a4, .int a5, .int a6, .null, .null, .null, .null, .null, .null, .null, .null] [] s Q) (h : v_87_78 (fun j => Zt d (wd 3 j) j) 3 e R8 a1 a3 a4 a5 a6 a7 a8 a9 a10 a11 s Q) : Zn d [] [(3, 98)] ([(75, 0, 3), (75, 1, 21), (75, 2, 25)] : zW) ([(75, 0, 3), (75, 1, 21), (75, 2, 25)] : zW) xL_7 12 (some .int) xE_87 (xE_87.drop 78) [.ref 75, .int a1, .ref e, .int a3, .int a4, .int a5, .int a6, .int a7, .int a8, .int a9, .int a10, .int a11, .null, .null, .null] [] s Q := by
  unfold v_87_78 at h
  refine zn_c [.int 0] (xo_push (.int 0)) rfl rfl ?_
  exact m_87_79_3e hd he r8 h
set_option maxRecDepth 20000 in
theorem m_87_55_3e {d d0 : Nat} (hd : d = d0 + 8) {e : Nat} (he : skE e = true) {R8 : Int32 → Int32 → Int32 → Int32 → Int32 → zS → Prop} {R55 : Int32 → Int32 → Int32 → Int32 → Int32 → Int32 → Int32 → Int32 → Int32 → Int32 → zS → Prop} {a1 : Int32} {a3 : Int32} {a4 : Int32} {a5 : Int32} {a6 : Int32} {a7 : Int32} {a8 : Int32} {a9 : Int32} {a10 : Int32} {a11 : Int32} {s : zS} {Q : Option Value → zS → Prop} (r8 : ∀ a1 a3 a4 a5 a6 s, R8 a1 a3 a4 a5 a6 s → Zn d [] [(3, 98)] ([(75, 0, 3), (75, 1, 21), (75, 2, 25)] : zW) ([(75, 0, 3), (75, 1, 21), (75, 2, 25)] : zW) xL_7 12 (some .int) xE_87 (xE_87.drop 8) [.ref 75, .int a1, .ref e, .int a3, .int a4, .int a5, .int a6, .null, .null, .null, .null, .null, .null, .null, .null] [] s Q) (r55 : ∀ a1 a3 a4 a5 a6 a7 a8 a9 a10 a11 s, R55 a1 a3 a4 a5 a6 a7 a8 a9 a10 a11 s → Zn d [] [(3, 98)] ([(75, 0, 3), (75, 1, 21), (75, 2, 25)] : zW) ([(75, 0, 3), (75, 1, 21), (75, 2, 25)] : zW) xL_7 12 (some .int) xE_87 (xE_87.drop 55) [.ref 75, .int a1, .ref e, .int a3, .int a4, .int a5, .int a6, .int a7, .int a8, .int a9, .int a10, .int a11, .null, .null, .null] [] s Q) (h : v_87_55 (fun j => Zt d (wd 3 j) j) 3 e R8 R55 a1 a3 a4 a5 a6 a7 a8 a9 a10 a11 s Q) : Zn d [] [(3, 98)] ([(75, 0, 3), (75, 1, 21), (75, 2, 25)] : zW) ([(75, 0, 3), (75, 1, 21), (75, 2, 25)] : zW) xL_7 12 (some .int) xE_87 (xE_87.drop 55) [.ref 75, .int a1, .ref e, .int a3, .int a4, .int a5, .int a6, .int a7, .int a8, .int a9, .int a10, .int a11, .null, .null, .null] [] s Q := by
  unfold v_87_55 at h
  refine zn_ld rfl rfl rfl ?_
  refine zn_ld rfl rfl rfl ?_
  refine zn_brP rfl rfl ⟨fun hcn => ?_, fun hcn => ?_⟩
  · replace h := h.1 ((i_le (x := a10) (y := a11) rfl rfl).mp hcn)
    refine zn_ld rfl rfl rfl ?_
    refine zn_brP rfl rfl ⟨fun hcn => ?_, fun hcn => ?_⟩
    · replace h := h.1 ((i_eq (x := a5) (y := 0) rfl (show (0 : Int32).toInt = 0 by decide)).mp hcn)
      exact m_87_78_3e hd he r8 h
    · replace h := h.2 (fun q => hcn ((i_eq (x := a5) (y := 0) rfl (show (0 : Int32).toInt = 0 by decide)).mpr q))
      refine zn_ld rfl rfl rfl ?_
      refine zn_brP rfl rfl ⟨fun hcn => ?_, fun hcn => ?_⟩
      · replace h := h.1 ((i_le (x := 0) (y := a8) (show (0 : Int32).toInt = 0 by decide) rfl).mp hcn)
        exact m_87_78_3e hd he r8 h
      · replace h := h.2 (fun q => hcn ((i_le (x := 0) (y := a8) (show (0 : Int32).toInt = 0 by decide) rfl).mpr q))
        refine zn_c [.int 1] (xo_push (.int 1)) rfl rfl ?_
        refine zn_go rfl ?_
        exact m_87_79_3e hd he r8 h
  · replace h := h.2 (fun q => hcn ((i_le (x := a10) (y := a11) rfl rfl).mpr q))
    refine zn_ld rfl rfl rfl ?_
    refine zn_get (v := .ref 21) rfl (zv_C (a := 75) (n := 1) rfl rfl rfl) ?_
    refine zn_ld rfl rfl rfl ?_
    refine zn_get (v := .int (s.1 75 3)) rfl (zv_I (a := 75) rfl rfl) ?_
    refine zn_ld rfl rfl rfl ?_
    replace h := h _ (i_add (x := s.1 75 3) (y := a3) rfl rfl)
    refine zn_c [.int ((s.1 75 3) + a3), .ref 21] xo_iadd rfl rfl ?_
    refine zn_ld rfl rfl rfl ?_
    refine zn_get (v := .ref 21) rfl (zv_C (a := 75) (n := 1) rfl rfl rfl) ?_
    refine zn_ld rfl rfl rfl ?_
    refine zn_row a11 [.int ((s.1 75 3) + a3), .ref 21] (a := 21) hd rfl rfl rfl rfl ?_
    change Zn _ _ _ _ _ _ _ _ _ _ _ [.int (zg s 21 a11), .int ((s.1 75 3) + a3), .ref 21] _ _
    obtain ⟨hx18, h⟩ := h
    refine zn_set ((s.1 75 3) + a3) (zg s 21 a11) [] (a := 21) hd rfl rfl rfl rfl ⟨Int32.le_toInt _, Int.le_of_lt_add_one (Int32.toInt_lt _)⟩ rfl rfl ?_ (hx := Or.inr hx18)
    replace h := h _ rfl
    replace h := h _ (i_add (x := a3) (y := 1) rfl (show (1 : Int32).toInt = 1 by decide))
    refine zn_inc [.ref 75, .int a1, .ref e, .int (a3 + 1), .int a4, .int a5, .int a6, .int a7, .int a8, .int a9, .int a10, .int a11, .null, .null, .null] rfl rfl rfl rfl ?_
    replace h := h _ (i_add (x := a11) (y := 1) rfl (show (1 : Int32).toInt = 1 by decide))
    refine zn_inc [.ref 75, .int a1, .ref e, .int (a3 + 1), .int a4, .int a5, .int a6, .int a7, .int a8, .int a9, .int a10, .int (a11 + 1), .null, .null, .null] rfl rfl rfl rfl ?_
    refine zn_go rfl ?_
    exact r55 a1 (a3 + 1) a4 a5 a6 a7 a8 a9 a10 (a11 + 1) (zt s 21 ((s.1 75 3) + a3) (zg s 21 a11)) h
theorem ml_87_55_3e {d d0 : Nat} (hd : d = d0 + 8) {e : Nat} (he : skE e = true) {R8 : Int32 → Int32 → Int32 → Int32 → Int32 → zS → Prop} {a1 : Int32} {a3 : Int32} {a4 : Int32} {a5 : Int32} {a6 : Int32} {a7 : Int32} {a8 : Int32} {a9 : Int32} {a10 : Int32} {a11 : Int32} {s : zS} {Q : Option Value → zS → Prop} (r8 : ∀ a1 a3 a4 a5 a6 s, R8 a1 a3 a4 a5 a6 s → Zn d [] [(3, 98)] ([(75, 0, 3), (75, 1, 21), (75, 2, 25)] : zW) ([(75, 0, 3), (75, 1, 21), (75, 2, 25)] : zW) xL_7 12 (some .int) xE_87 (xE_87.drop 8) [.ref 75, .int a1, .ref e, .int a3, .int a4, .int a5, .int a6, .null, .null, .null, .null, .null, .null, .null, .null] [] s Q) (h : vl_87_55 (fun j => Zt d (wd 3 j) j) 3 e R8 a1 a3 a4 a5 a6 a7 a8 a9 a10 a11 s Q) : Zn d [] [(3, 98)] ([(75, 0, 3), (75, 1, 21), (75, 2, 25)] : zW) ([(75, 0, 3), (75, 1, 21), (75, 2, 25)] : zW) xL_7 12 (some .int) xE_87 (xE_87.drop 55) [.ref 75, .int a1, .ref e, .int a3, .int a4, .int a5, .int a6, .int a7, .int a8, .int a9, .int a10, .int a11, .null, .null, .null] [] s Q := by
  obtain ⟨I, μ, h0, h1⟩ := h
  have key : ∀ (n : Nat) (a1 : Int32) (a3 : Int32) (a4 : Int32) (a5 : Int32) (a6 : Int32) (a7 : Int32) (a8 : Int32) (a9 : Int32) (a10 : Int32) (a11 : Int32) (s : zS), μ a1 a3 a4 a5 a6 a7 a8 a9 a10 a11 s = n → I a1 a3 a4 a5 a6 a7 a8 a9 a10 a11 s → Zn d [] [(3, 98)] ([(75, 0, 3), (75, 1, 21), (75, 2, 25)] : zW) ([(75, 0, 3), (75, 1, 21), (75, 2, 25)] : zW) xL_7 12 (some .int) xE_87 (xE_87.drop 55) [.ref 75, .int a1, .ref e, .int a3, .int a4, .int a5, .int a6, .int a7, .int a8, .int a9, .int a10, .int a11, .null, .null, .null] [] s Q := by
    intro n
    induction n using Nat.strongRecOn with
    | ind n ih =>
      intro a1 a3 a4 a5 a6 a7 a8 a9 a10 a11 s e hI
      exact m_87_55_3e hd he r8 (fun a1' a3' a4' a5' a6' a7' a8' a9' a10' a11' s' q => ih _ (by rw [← e]; exact q.2) a1' a3' a4' a5' a6' a7' a8' a9' a10' a11' s' rfl q.1) (h1 a1 a3 a4 a5 a6 a7 a8 a9 a10 a11 s hI)
  exact key _ a1 a3 a4 a5 a6 a7 a8 a9 a10 a11 s rfl h0
set_option maxRecDepth 20000 in
theorem m_87_43_3e {d d0 : Nat} (hd : d = d0 + 8) {e : Nat} (he : skE e = true) {R8 : Int32 → Int32 → Int32 → Int32 → Int32 → zS → Prop} {a1 : Int32} {a3 : Int32} {a4 : Int32} {a5 : Int32} {a6 : Int32} {a7 : Int32} {a8 : Int32} {a9 : Int32} {t0 : Int32} {s : zS} {Q : Option Value → zS → Prop} (r8 : ∀ a1 a3 a4 a5 a6 s, R8 a1 a3 a4 a5 a6 s → Zn d [] [(3, 98)] ([(75, 0, 3), (75, 1, 21), (75, 2, 25)] : zW) ([(75, 0, 3), (75, 1, 21), (75, 2, 25)] : zW) xL_7 12 (some .int) xE_87 (xE_87.drop 8) [.ref 75, .int a1, .ref e, .int a3, .int a4, .int a5, .int a6, .null, .null, .null, .null, .null, .null, .null, .null] [] s Q) (h : v_87_43 (fun j => Zt d (wd 3 j) j) 3 e R8 a1 a3 a4 a5 a6 a7 a8 a9 t0 s Q) : Zn d [] [(3, 98)] ([(75, 0, 3), (75, 1, 21), (75, 2, 25)] : zW) ([(75, 0, 3), (75, 1, 21), (75, 2, 25)] : zW) xL_7 12 (some .int) xE_87 (xE_87.drop 43) [.ref 75, .int a1, .ref e, .int a3, .int a4, .int a5, .int a6, .int a7, .int a8, .int a9, .null, .null, .null, .null, .null] [.int t0] s Q := by
  unfold v_87_43 at h
  refine zn_st [.ref 75, .int a1, .ref e, .int a3, .int a4, .int a5, .int a6, .int a7, .int a8, .int a9, .int t0, .null, .null, .null, .null] rfl rfl rfl ?_
  refine zn_ld rfl rfl rfl ?_
  refine zn_ld rfl rfl rfl ?_
  replace h := h _ (i_add (x := a3) (y := t0) rfl rfl)
  refine zn_c [.int (a3 + t0)] xo_iadd rfl rfl ?_
  refine zn_ld rfl rfl rfl ?_
  replace h := h _ (i_sub (x := (a3 + t0)) (y := a9) rfl rfl)
  refine zn_c [.int ((a3 + t0) - a9)] xo_isub rfl rfl ?_
  refine zn_c [.int 60, .int ((a3 + t0) - a9)] (xo_push (.int 60)) rfl rfl ?_
  refine zn_brP rfl rfl ⟨fun hcn => ?_, fun hcn => ?_⟩
  · replace h := h.1 ((i_le (x := ((a3 + t0) - a9)) (y := 60) rfl (show (60 : Int32).toInt = 60 by decide)).mp hcn)
    refine zn_ld rfl rfl rfl ?_
    refine zn_st [.ref 75, .int a1, .ref e, .int a3, .int a4, .int a5, .int a6, .int a7, .int a8, .int a9, .int t0, .int a9, .null, .null, .null] rfl rfl rfl ?_
    exact ml_87_55_3e hd he r8 h
  · replace h := h.2 (fun q => hcn ((i_le (x := ((a3 + t0) - a9)) (y := 60) rfl (show (60 : Int32).toInt = 60 by decide)).mpr q))
    refine zn_c [.int (-1)] (xo_push (.int (-1))) rfl rfl ?_
    exact zn_retI rfl h
set_option maxRecDepth 20000 in
theorem m_87_31_3e {d d0 : Nat} (hd : d = d0 + 8) {e : Nat} (he : skE e = true) {R8 : Int32 → Int32 → Int32 → Int32 → Int32 → zS → Prop} {a1 : Int32} {a3 : Int32} {a4 : Int32} {a5 : Int32} {a6 : Int32} {a7 : Int32} {a8 : Int32} {t0 : Int32} {s : zS} {Q : Option Value → zS → Prop} (r8 : ∀ a1 a3 a4 a5 a6 s, R8 a1 a3 a4 a5 a6 s → Zn d [] [(3, 98)] ([(75, 0, 3), (75, 1, 21), (75, 2, 25)] : zW) ([(75, 0, 3), (75, 1, 21), (75, 2, 25)] : zW) xL_7 12 (some .int) xE_87 (xE_87.drop 8) [.ref 75, .int a1, .ref e, .int a3, .int a4, .int a5, .int a6, .null, .null, .null, .null, .null, .null, .null, .null] [] s Q) (h : v_87_31 (fun j => Zt d (wd 3 j) j) 3 e R8 a1 a3 a4 a5 a6 a7 a8 t0 s Q) : Zn d [] [(3, 98)] ([(75, 0, 3), (75, 1, 21), (75, 2, 25)] : zW) ([(75, 0, 3), (75, 1, 21), (75, 2, 25)] : zW) xL_7 12 (some .int) xE_87 (xE_87.drop 31) [.ref 75, .int a1, .ref e, .int a3, .int a4, .int a5, .int a6, .int a7, .int a8, .null, .null, .null, .null, .null, .null] [.int t0] s Q := by
  unfold v_87_31 at h
  refine zn_st [.ref 75, .int a1, .ref e, .int a3, .int a4, .int a5, .int a6, .int a7, .int a8, .int t0, .null, .null, .null, .null, .null] rfl rfl rfl ?_
  refine zn_ld rfl rfl rfl ?_
  refine zn_brP rfl rfl ⟨fun hcn => ?_, fun hcn => ?_⟩
  · replace h := h.1 ((i_le (x := 0) (y := a8) (show (0 : Int32).toInt = 0 by decide) rfl).mp hcn)
    refine zn_ld rfl rfl rfl ?_
    refine zn_c [.int 12, .ref e] (xo_push (.int 12)) rfl rfl ?_
    refine zn_ld rfl rfl rfl ?_
    replace h := h _ (i_add (x := 12) (y := a8) (show (12 : Int32).toInt = 12 by decide) rfl)
    refine zn_c [.int (12 + a8), .ref e] xo_iadd rfl rfl ?_
    refine zn_row (12 + a8) [] (a := e) hd rfl rfl (ev_n he rfl rfl) (ev_r he) ?_
    change Zn _ _ _ _ _ _ _ _ _ _ _ [.int (zg s e (12 + a8))] _ _
    exact m_87_43_3e hd he r8 h
  · replace h := h.2 (fun q => hcn ((i_le (x := 0) (y := a8) (show (0 : Int32).toInt = 0 by decide) rfl).mpr q))
    refine zn_ld rfl rfl rfl ?_
    refine zn_c [.int 1, .int a6] (xo_push (.int 1)) rfl rfl ?_
    replace h := h _ (i_add (x := a6) (y := 1) rfl (show (1 : Int32).toInt = 1 by decide))
    refine zn_c [.int (a6 + 1)] xo_iadd rfl rfl ?_
    refine zn_go rfl ?_
    exact m_87_43_3e hd he r8 h
set_option maxRecDepth 20000 in
theorem m_87_8_3e {d d0 : Nat} (hd : d = d0 + 8) {e : Nat} (he : skE e = true) {R8 : Int32 → Int32 → Int32 → Int32 → Int32 → zS → Prop} {a1 : Int32} {a3 : Int32} {a4 : Int32} {a5 : Int32} {a6 : Int32} {s : zS} {Q : Option Value → zS → Prop} (r8 : ∀ a1 a3 a4 a5 a6 s, R8 a1 a3 a4 a5 a6 s → Zn d [] [(3, 98)] ([(75, 0, 3), (75, 1, 21), (75, 2, 25)] : zW) ([(75, 0, 3), (75, 1, 21), (75, 2, 25)] : zW) xL_7 12 (some .int) xE_87 (xE_87.drop 8) [.ref 75, .int a1, .ref e, .int a3, .int a4, .int a5, .int a6, .null, .null, .null, .null, .null, .null, .null, .null] [] s Q) (h : v_87_8 (fun j => Zt d (wd 3 j) j) 3 e R8 a1 a3 a4 a5 a6 s Q) : Zn d [] [(3, 98)] ([(75, 0, 3), (75, 1, 21), (75, 2, 25)] : zW) ([(75, 0, 3), (75, 1, 21), (75, 2, 25)] : zW) xL_7 12 (some .int) xE_87 (xE_87.drop 8) [.ref 75, .int a1, .ref e, .int a3, .int a4, .int a5, .int a6, .null, .null, .null, .null, .null, .null, .null, .null] [] s Q := by
  unfold v_87_8 at h
  refine zn_ld rfl rfl rfl ?_
  refine zn_ld rfl rfl rfl ?_
  refine zn_c [.int 60, .int a1, .int a6] (xo_push (.int 60)) rfl rfl ?_
  replace h := h _ (i_add (x := a1) (y := 60) rfl (show (60 : Int32).toInt = 60 by decide))
  refine zn_c [.int (a1 + 60), .int a6] xo_iadd rfl rfl ?_
  refine zn_brP rfl rfl ⟨fun hcn => ?_, fun hcn => ?_⟩
  · replace h := h.1 ((i_le (x := (a1 + 60)) (y := a6) rfl rfl).mp hcn)
    exact m_87_91_3e hd he  h
  · replace h := h.2 (fun q => hcn ((i_le (x := (a1 + 60)) (y := a6) rfl rfl).mpr q))
    refine zn_ld rfl rfl rfl ?_
    refine zn_brP rfl rfl ⟨fun hcn => ?_, fun hcn => ?_⟩
    · replace h := h.1 ((i_le (x := a4) (y := 0) rfl (show (0 : Int32).toInt = 0 by decide)).mp hcn)
      exact m_87_91_3e hd he  h
    · replace h := h.2 (fun q => hcn ((i_le (x := a4) (y := 0) rfl (show (0 : Int32).toInt = 0 by decide)).mpr q))
      refine zn_ld rfl rfl rfl ?_
      refine zn_get (v := .ref 21) rfl (zv_C (a := 75) (n := 1) rfl rfl rfl) ?_
      refine zn_ld rfl rfl rfl ?_
      refine zn_row a6 [] (a := 21) hd rfl rfl rfl rfl ?_
      change Zn _ _ _ _ _ _ _ _ _ _ _ [.int (zg s 21 a6)] _ _
      refine zn_st [.ref 75, .int a1, .ref e, .int a3, .int a4, .int a5, .int a6, .int (zg s 21 a6), .null, .null, .null, .null, .null, .null, .null] rfl rfl rfl ?_
      refine zn_ld rfl rfl rfl ?_
      refine zn_c [.int 24, .int (zg s 21 a6)] (xo_push (.int 24)) rfl rfl ?_
      replace h := h _ (i_sub (x := zg s 21 a6) (y := 24) rfl (show (24 : Int32).toInt = 24 by decide))
      refine zn_c [.int ((zg s 21 a6) - 24)] xo_isub rfl rfl ?_
      refine zn_st [.ref 75, .int a1, .ref e, .int a3, .int a4, .int a5, .int a6, .int (zg s 21 a6), .int ((zg s 21 a6) - 24), .null, .null, .null, .null, .null, .null] rfl rfl rfl ?_
      refine zn_ld rfl rfl rfl ?_
      refine zn_brP rfl rfl ⟨fun hcn => ?_, fun hcn => ?_⟩
      · replace h := h.1 ((i_le (x := 0) (y := ((zg s 21 a6) - 24)) (show (0 : Int32).toInt = 0 by decide) rfl).mp hcn)
        refine zn_ld rfl rfl rfl ?_
        refine zn_ld rfl rfl rfl ?_
        refine zn_row ((zg s 21 a6) - 24) [] (a := e) hd rfl rfl (ev_n he rfl rfl) (ev_r he) ?_
        change Zn _ _ _ _ _ _ _ _ _ _ _ [.int (zg s e ((zg s 21 a6) - 24))] _ _
        exact m_87_31_3e hd he r8 h
      · replace h := h.2 (fun q => hcn ((i_le (x := 0) (y := ((zg s 21 a6) - 24)) (show (0 : Int32).toInt = 0 by decide) rfl).mpr q))
        refine zn_ld rfl rfl rfl ?_
        refine zn_go rfl ?_
        exact m_87_31_3e hd he r8 h
theorem ml_87_8_3e {d d0 : Nat} (hd : d = d0 + 8) {e : Nat} (he : skE e = true)  {a1 : Int32} {a3 : Int32} {a4 : Int32} {a5 : Int32} {a6 : Int32} {s : zS} {Q : Option Value → zS → Prop}  (h : vl_87_8 (fun j => Zt d (wd 3 j) j) 3 e  a1 a3 a4 a5 a6 s Q) : Zn d [] [(3, 98)] ([(75, 0, 3), (75, 1, 21), (75, 2, 25)] : zW) ([(75, 0, 3), (75, 1, 21), (75, 2, 25)] : zW) xL_7 12 (some .int) xE_87 (xE_87.drop 8) [.ref 75, .int a1, .ref e, .int a3, .int a4, .int a5, .int a6, .null, .null, .null, .null, .null, .null, .null, .null] [] s Q := by
  obtain ⟨I, μ, h0, h1⟩ := h
  have key : ∀ (n : Nat) (a1 : Int32) (a3 : Int32) (a4 : Int32) (a5 : Int32) (a6 : Int32) (s : zS), μ a1 a3 a4 a5 a6 s = n → I a1 a3 a4 a5 a6 s → Zn d [] [(3, 98)] ([(75, 0, 3), (75, 1, 21), (75, 2, 25)] : zW) ([(75, 0, 3), (75, 1, 21), (75, 2, 25)] : zW) xL_7 12 (some .int) xE_87 (xE_87.drop 8) [.ref 75, .int a1, .ref e, .int a3, .int a4, .int a5, .int a6, .null, .null, .null, .null, .null, .null, .null, .null] [] s Q := by
    intro n
    induction n using Nat.strongRecOn with
    | ind n ih =>
      intro a1 a3 a4 a5 a6 s e hI
      exact m_87_8_3e hd he (fun a1' a3' a4' a5' a6' s' q => ih _ (by rw [← e]; exact q.2) a1' a3' a4' a5' a6' s' rfl q.1) (h1 a1 a3 a4 a5 a6 s hI)
  exact key _ a1 a3 a4 a5 a6 s rfl h0
set_option maxRecDepth 20000 in
theorem m_87_0_3e {d d0 : Nat} (hd : d = d0 + 8) {e : Nat} (he : skE e = true)  {a1 : Int32} {s : zS} {Q : Option Value → zS → Prop}  (h : v_87_0 (fun j => Zt d (wd 3 j) j) 3 e  a1 s Q) : Zn d [] [(3, 98)] ([(75, 0, 3), (75, 1, 21), (75, 2, 25)] : zW) ([(75, 0, 3), (75, 1, 21), (75, 2, 25)] : zW) xL_7 12 (some .int) xE_87 (xE_87.drop 0) [.ref 75, .int a1, .ref e, .null, .null, .null, .null, .null, .null, .null, .null, .null, .null, .null, .null] [] s Q := by
  unfold v_87_0 at h
  refine zn_c [.int 0] (xo_push (.int 0)) rfl rfl ?_
  refine zn_st [.ref 75, .int a1, .ref e, .int 0, .null, .null, .null, .null, .null, .null, .null, .null, .null, .null, .null] rfl rfl rfl ?_
  refine zn_c [.int 1] (xo_push (.int 1)) rfl rfl ?_
  refine zn_st [.ref 75, .int a1, .ref e, .int 0, .int 1, .null, .null, .null, .null, .null, .null, .null, .null, .null, .null] rfl rfl rfl ?_
  refine zn_c [.int 1] (xo_push (.int 1)) rfl rfl ?_
  refine zn_st [.ref 75, .int a1, .ref e, .int 0, .int 1, .int 1, .null, .null, .null, .null, .null, .null, .null, .null, .null] rfl rfl rfl ?_
  refine zn_ld rfl rfl rfl ?_
  refine zn_st [.ref 75, .int a1, .ref e, .int 0, .int 1, .int 1, .int a1, .null, .null, .null, .null, .null, .null, .null, .null] rfl rfl rfl ?_
  exact ml_87_8_3e hd he  h
theorem zq_87_3e {d : Nat} {e : Nat} (he : skE e = true) {a1 : Int32} {s : zS} {Q : Option Value → zS → Prop} (h : v_87_0 (fun j => Zt (d + 8) (wd 3 j) j) 3 e a1 s Q) : Zt (d + 9) ([(75, 0, 3), (75, 1, 21), (75, 2, 25)] : zW) 87 [.ref 75, .int a1, .ref e] s Q := zt_of (E := xE_87) (L := xL_7) (ml := 12) (ret := some .int) rfl rfl rfl (m_87_0_3e rfl he h)
set_option maxRecDepth 20000 in
theorem m_87_91_39e {d d0 : Nat} (hd : d = d0 + 8) {e : Nat} (he : skE e = true)  {a1 : Int32} {a3 : Int32} {a4 : Int32} {a5 : Int32} {a6 : Int32} {s : zS} {Q : Option Value → zS → Prop}  (h : v_87_91 (fun j => Zt d (wd 39 j) j) 39 e  a1 a3 a4 a5 a6 s Q) : Zn d [] [(39, 98)] ([(75, 0, 39), (75, 1, 57), (75, 2, 61)] : zW) ([(75, 0, 39), (75, 1, 57), (75, 2, 61)] : zW) xL_7 12 (some .int) xE_87 (xE_87.drop 91) [.ref 75, .int a1, .ref e, .int a3, .int a4, .int a5, .int a6, .null, .null, .null, .null, .null, .null, .null, .null] [] s Q := by
  unfold v_87_91 at h
  refine zn_ld rfl rfl rfl ?_
  refine zn_brP rfl rfl ⟨fun hcn => ?_, fun hcn => ?_⟩
  · replace h := h.1 ((i_eq (x := a5) (y := 0) rfl (show (0 : Int32).toInt = 0 by decide)).mp hcn)
    refine zn_ld rfl rfl rfl ?_
    refine zn_c [.ref 75, .ref 75] xo_dup rfl rfl ?_
    refine zn_get (v := .int (s.1 75 3)) rfl (zv_I (a := 75) rfl rfl) ?_
    refine zn_ld rfl rfl rfl ?_
    replace h := h _ (i_add (x := s.1 75 3) (y := a3) rfl rfl)
    refine zn_c [.int ((s.1 75 3) + a3), .ref 75] xo_iadd rfl rfl ?_
    refine zn_putI (a := 75) rfl rfl rfl rfl ⟨Int32.le_toInt _, Int.le_of_lt_add_one (Int32.toInt_lt _)⟩ rfl rfl rfl ?_
    replace h := h _ rfl
    refine zn_ld rfl rfl rfl ?_
    refine zn_get (v := .int ((zf s 75 3 ((s.1 75 3) + a3)).1 75 3)) rfl (zv_I (a := 75) rfl rfl) ?_
    refine zn_ld rfl rfl rfl ?_
    replace h := h _ (i_sub (x := (zf s 75 3 ((s.1 75 3) + a3)).1 75 3) (y := a3) rfl rfl)
    refine zn_c [.int (((zf s 75 3 ((s.1 75 3) + a3)).1 75 3) - a3)] xo_isub rfl rfl ?_
    exact zn_retI rfl h
  · replace h := h.2 (fun q => hcn ((i_eq (x := a5) (y := 0) rfl (show (0 : Int32).toInt = 0 by decide)).mpr q))
    refine zn_ld rfl rfl rfl ?_
    exact zn_retI rfl h
set_option maxRecDepth 20000 in
theorem m_87_79_39e {d d0 : Nat} (hd : d = d0 + 8) {e : Nat} (he : skE e = true) {R8 : Int32 → Int32 → Int32 → Int32 → Int32 → zS → Prop} {a1 : Int32} {a3 : Int32} {a4 : Int32} {a5 : Int32} {a6 : Int32} {a7 : Int32} {a8 : Int32} {a9 : Int32} {a10 : Int32} {a11 : Int32} {t0 : Int32} {s : zS} {Q : Option Value → zS → Prop} (r8 : ∀ a1 a3 a4 a5 a6 s, R8 a1 a3 a4 a5 a6 s → Zn d [] [(39, 98)] ([(75, 0, 39), (75, 1, 57), (75, 2, 61)] : zW) ([(75, 0, 39), (75, 1, 57), (75, 2, 61)] : zW) xL_7 12 (some .int) xE_87 (xE_87.drop 8) [.ref 75, .int a1, .ref e, .int a3, .int a4, .int a5, .int a6, .null, .null, .null, .null, .null, .null, .null, .null] [] s Q) (h : v_87_79 (fun j => Zt d (wd 39 j) j) 39 e R8 a1 a3 a4 a5 a6 a7 a8 a9 a10 a11 t0 s Q) : Zn d [] [(39, 98)] ([(75, 0, 39), (75, 1, 57), (75, 2, 61)] : zW) ([(75, 0, 39), (75, 1, 57), (75, 2, 61)] : zW) xL_7 12 (some .int) xE_87 (xE_87.drop 79) [.ref 75, .int a1, .ref e, .int a3, .int a4, .int a5, .int a6, .int a7, .int a8, .int a9, .int a10, .int a11, .null, .null, .null] [.int t0] s Q := by
  unfold v_87_79 at h
  refine zn_st [.ref 75, .int a1, .ref e, .int a3, .int a4, .int t0, .int a6, .int a7, .int a8, .int a9, .int a10, .int a11, .null, .null, .null] rfl rfl rfl ?_
  refine zn_ld rfl rfl rfl ?_
  refine zn_ld rfl rfl rfl ?_
  refine zn_get (v := .ref 61) rfl (zv_C (a := 75) (n := 2) rfl rfl rfl) ?_
  refine zn_ld rfl rfl rfl ?_
  refine zn_row a7 [.int a4] (a := 61) hd rfl rfl rfl rfl ?_
  change Zn _ _ _ _ _ _ _ _ _ _ _ [.int (zg s 61 a7), .int a4] _ _
  refine zn_c [.int 1, .int (zg s 61 a7), .int a4] (xo_push (.int 1)) rfl rfl ?_
  replace h := h _ (i_sub (x := zg s 61 a7) (y := 1) rfl (show (1 : Int32).toInt = 1 by decide))
  refine zn_c [.int ((zg s 61 a7) - 1), .int a4] xo_isub rfl rfl ?_
  replace h := h _ (i_add (x := a4) (y := ((zg s 61 a7) - 1)) rfl rfl)
  refine zn_c [.int (a4 + ((zg s 61 a7) - 1))] xo_iadd rfl rfl ?_
  refine zn_st [.ref 75, .int a1, .ref e, .int a3, .int (a4 + ((zg s 61 a7) - 1)), .int t0, .int a6, .int a7, .int a8, .int a9, .int a10, .int a11, .null, .null, .null] rfl rfl rfl ?_
  replace h := h _ (i_add (x := a6) (y := 1) rfl (show (1 : Int32).toInt = 1 by decide))
  refine zn_inc [.ref 75, .int a1, .ref e, .int a3, .int (a4 + ((zg s 61 a7) - 1)), .int t0, .int (a6 + 1), .int a7, .int a8, .int a9, .int a10, .int a11, .null, .null, .null] rfl rfl rfl rfl ?_
  refine zn_go rfl ?_
  refine zn_fg 7 ?_
  refine zn_fg 8 ?_
  refine zn_fg 9 ?_
  refine zn_fg 10 ?_
  refine zn_fg 11 ?_
  exact r8 a1 a3 (a4 + ((zg s 61 a7) - 1)) t0 (a6 + 1) s h
set_option maxRecDepth 20000 in
theorem m_87_78_39e {d d0 : Nat} (hd : d = d0 + 8) {e : Nat} (he : skE e = true) {R8 : Int32 → Int32 → Int32 → Int32 → Int32 → zS → Prop} {a1 : Int32} {a3 : Int32} {a4 : Int32} {a5 : Int32} {a6 : Int32} {a7 : Int32} {a8 : Int32} {a9 : Int32} {a10 : Int32} {a11 : Int32} {s : zS} {Q : Option Value → zS → Prop} (r8 : ∀ a1 a3 a4 a5 a6 s, R8 a1 a3 a4 a5 a6 s → Zn d [] [(39, 98)] ([(75, 0, 39), (75, 1, 57), (75, 2, 61)] : zW) ([(75, 0, 39), (75, 1, 57), (75, 2, 61)] : zW) xL_7 12 (some .int) xE_87 (xE_87.drop 8) [.ref 75, .int a1, .ref e, .int a3, .int a4, .int a5, .int a6, .null, .null, .null, .null, .null, .null, .null, .null] [] s Q) (h : v_87_78 (fun j => Zt d (wd 39 j) j) 39 e R8 a1 a3 a4 a5 a6 a7 a8 a9 a10 a11 s Q) : Zn d [] [(39, 98)] ([(75, 0, 39), (75, 1, 57), (75, 2, 61)] : zW) ([(75, 0, 39), (75, 1, 57), (75, 2, 61)] : zW) xL_7 12 (some .int) xE_87 (xE_87.drop 78) [.ref 75, .int a1, .ref e, .int a3, .int a4, .int a5, .int a6, .int a7, .int a8, .int a9, .int a10, .int a11, .null, .null, .null] [] s Q := by
  unfold v_87_78 at h
  refine zn_c [.int 0] (xo_push (.int 0)) rfl rfl ?_
  exact m_87_79_39e hd he r8 h
set_option maxRecDepth 20000 in
theorem m_87_55_39e {d d0 : Nat} (hd : d = d0 + 8) {e : Nat} (he : skE e = true) {R8 : Int32 → Int32 → Int32 → Int32 → Int32 → zS → Prop} {R55 : Int32 → Int32 → Int32 → Int32 → Int32 → Int32 → Int32 → Int32 → Int32 → Int32 → zS → Prop} {a1 : Int32} {a3 : Int32} {a4 : Int32} {a5 : Int32} {a6 : Int32} {a7 : Int32} {a8 : Int32} {a9 : Int32} {a10 : Int32} {a11 : Int32} {s : zS} {Q : Option Value → zS → Prop} (r8 : ∀ a1 a3 a4 a5 a6 s, R8 a1 a3 a4 a5 a6 s → Zn d [] [(39, 98)] ([(75, 0, 39), (75, 1, 57), (75, 2, 61)] : zW) ([(75, 0, 39), (75, 1, 57), (75, 2, 61)] : zW) xL_7 12 (some .int) xE_87 (xE_87.drop 8) [.ref 75, .int a1, .ref e, .int a3, .int a4, .int a5, .int a6, .null, .null, .null, .null, .null, .null, .null, .null] [] s Q) (r55 : ∀ a1 a3 a4 a5 a6 a7 a8 a9 a10 a11 s, R55 a1 a3 a4 a5 a6 a7 a8 a9 a10 a11 s → Zn d [] [(39, 98)] ([(75, 0, 39), (75, 1, 57), (75, 2, 61)] : zW) ([(75, 0, 39), (75, 1, 57), (75, 2, 61)] : zW) xL_7 12 (some .int) xE_87 (xE_87.drop 55) [.ref 75, .int a1, .ref e, .int a3, .int a4, .int a5, .int a6, .int a7, .int a8, .int a9, .int a10, .int a11, .null, .null, .null] [] s Q) (h : v_87_55 (fun j => Zt d (wd 39 j) j) 39 e R8 R55 a1 a3 a4 a5 a6 a7 a8 a9 a10 a11 s Q) : Zn d [] [(39, 98)] ([(75, 0, 39), (75, 1, 57), (75, 2, 61)] : zW) ([(75, 0, 39), (75, 1, 57), (75, 2, 61)] : zW) xL_7 12 (some .int) xE_87 (xE_87.drop 55) [.ref 75, .int a1, .ref e, .int a3, .int a4, .int a5, .int a6, .int a7, .int a8, .int a9, .int a10, .int a11, .null, .null, .null] [] s Q := by
  unfold v_87_55 at h
  refine zn_ld rfl rfl rfl ?_
  refine zn_ld rfl rfl rfl ?_
  refine zn_brP rfl rfl ⟨fun hcn => ?_, fun hcn => ?_⟩
  · replace h := h.1 ((i_le (x := a10) (y := a11) rfl rfl).mp hcn)
    refine zn_ld rfl rfl rfl ?_
    refine zn_brP rfl rfl ⟨fun hcn => ?_, fun hcn => ?_⟩
    · replace h := h.1 ((i_eq (x := a5) (y := 0) rfl (show (0 : Int32).toInt = 0 by decide)).mp hcn)
      exact m_87_78_39e hd he r8 h
    · replace h := h.2 (fun q => hcn ((i_eq (x := a5) (y := 0) rfl (show (0 : Int32).toInt = 0 by decide)).mpr q))
      refine zn_ld rfl rfl rfl ?_
      refine zn_brP rfl rfl ⟨fun hcn => ?_, fun hcn => ?_⟩
      · replace h := h.1 ((i_le (x := 0) (y := a8) (show (0 : Int32).toInt = 0 by decide) rfl).mp hcn)
        exact m_87_78_39e hd he r8 h
      · replace h := h.2 (fun q => hcn ((i_le (x := 0) (y := a8) (show (0 : Int32).toInt = 0 by decide) rfl).mpr q))
        refine zn_c [.int 1] (xo_push (.int 1)) rfl rfl ?_
        refine zn_go rfl ?_
        exact m_87_79_39e hd he r8 h
  · replace h := h.2 (fun q => hcn ((i_le (x := a10) (y := a11) rfl rfl).mpr q))
    refine zn_ld rfl rfl rfl ?_
    refine zn_get (v := .ref 57) rfl (zv_C (a := 75) (n := 1) rfl rfl rfl) ?_
    refine zn_ld rfl rfl rfl ?_
    refine zn_get (v := .int (s.1 75 3)) rfl (zv_I (a := 75) rfl rfl) ?_
    refine zn_ld rfl rfl rfl ?_
    replace h := h _ (i_add (x := s.1 75 3) (y := a3) rfl rfl)
    refine zn_c [.int ((s.1 75 3) + a3), .ref 57] xo_iadd rfl rfl ?_
    refine zn_ld rfl rfl rfl ?_
    refine zn_get (v := .ref 57) rfl (zv_C (a := 75) (n := 1) rfl rfl rfl) ?_
    refine zn_ld rfl rfl rfl ?_
    refine zn_row a11 [.int ((s.1 75 3) + a3), .ref 57] (a := 57) hd rfl rfl rfl rfl ?_
    change Zn _ _ _ _ _ _ _ _ _ _ _ [.int (zg s 57 a11), .int ((s.1 75 3) + a3), .ref 57] _ _
    obtain ⟨hx18, h⟩ := h
    refine zn_set ((s.1 75 3) + a3) (zg s 57 a11) [] (a := 57) hd rfl rfl rfl rfl ⟨Int32.le_toInt _, Int.le_of_lt_add_one (Int32.toInt_lt _)⟩ rfl rfl ?_ (hx := Or.inr hx18)
    replace h := h _ rfl
    replace h := h _ (i_add (x := a3) (y := 1) rfl (show (1 : Int32).toInt = 1 by decide))
    refine zn_inc [.ref 75, .int a1, .ref e, .int (a3 + 1), .int a4, .int a5, .int a6, .int a7, .int a8, .int a9, .int a10, .int a11, .null, .null, .null] rfl rfl rfl rfl ?_
    replace h := h _ (i_add (x := a11) (y := 1) rfl (show (1 : Int32).toInt = 1 by decide))
    refine zn_inc [.ref 75, .int a1, .ref e, .int (a3 + 1), .int a4, .int a5, .int a6, .int a7, .int a8, .int a9, .int a10, .int (a11 + 1), .null, .null, .null] rfl rfl rfl rfl ?_
    refine zn_go rfl ?_
    exact r55 a1 (a3 + 1) a4 a5 a6 a7 a8 a9 a10 (a11 + 1) (zt s 57 ((s.1 75 3) + a3) (zg s 57 a11)) h
theorem ml_87_55_39e {d d0 : Nat} (hd : d = d0 + 8) {e : Nat} (he : skE e = true) {R8 : Int32 → Int32 → Int32 → Int32 → Int32 → zS → Prop} {a1 : Int32} {a3 : Int32} {a4 : Int32} {a5 : Int32} {a6 : Int32} {a7 : Int32} {a8 : Int32} {a9 : Int32} {a10 : Int32} {a11 : Int32} {s : zS} {Q : Option Value → zS → Prop} (r8 : ∀ a1 a3 a4 a5 a6 s, R8 a1 a3 a4 a5 a6 s → Zn d [] [(39, 98)] ([(75, 0, 39), (75, 1, 57), (75, 2, 61)] : zW) ([(75, 0, 39), (75, 1, 57), (75, 2, 61)] : zW) xL_7 12 (some .int) xE_87 (xE_87.drop 8) [.ref 75, .int a1, .ref e, .int a3, .int a4, .int a5, .int a6, .null, .null, .null, .null, .null, .null, .null, .null] [] s Q) (h : vl_87_55 (fun j => Zt d (wd 39 j) j) 39 e R8 a1 a3 a4 a5 a6 a7 a8 a9 a10 a11 s Q) : Zn d [] [(39, 98)] ([(75, 0, 39), (75, 1, 57), (75, 2, 61)] : zW) ([(75, 0, 39), (75, 1, 57), (75, 2, 61)] : zW) xL_7 12 (some .int) xE_87 (xE_87.drop 55) [.ref 75, .int a1, .ref e, .int a3, .int a4, .int a5, .int a6, .int a7, .int a8, .int a9, .int a10, .int a11, .null, .null, .null] [] s Q := by
  obtain ⟨I, μ, h0, h1⟩ := h
  have key : ∀ (n : Nat) (a1 : Int32) (a3 : Int32) (a4 : Int32) (a5 : Int32) (a6 : Int32) (a7 : Int32) (a8 : Int32) (a9 : Int32) (a10 : Int32) (a11 : Int32) (s : zS), μ a1 a3 a4 a5 a6 a7 a8 a9 a10 a11 s = n → I a1 a3 a4 a5 a6 a7 a8 a9 a10 a11 s → Zn d [] [(39, 98)] ([(75, 0, 39), (75, 1, 57), (75, 2, 61)] : zW) ([(75, 0, 39), (75, 1, 57), (75, 2, 61)] : zW) xL_7 12 (some .int) xE_87 (xE_87.drop 55) [.ref 75, .int a1, .ref e, .int a3, .int a4, .int a5, .int a6, .int a7, .int a8, .int a9, .int a10, .int a11, .null, .null, .null] [] s Q := by
    intro n
    induction n using Nat.strongRecOn with
    | ind n ih =>
      intro a1 a3 a4 a5 a6 a7 a8 a9 a10 a11 s e hI
      exact m_87_55_39e hd he r8 (fun a1' a3' a4' a5' a6' a7' a8' a9' a10' a11' s' q => ih _ (by rw [← e]; exact q.2) a1' a3' a4' a5' a6' a7' a8' a9' a10' a11' s' rfl q.1) (h1 a1 a3 a4 a5 a6 a7 a8 a9 a10 a11 s hI)
  exact key _ a1 a3 a4 a5 a6 a7 a8 a9 a10 a11 s rfl h0
set_option maxRecDepth 20000 in
theorem m_87_43_39e {d d0 : Nat} (hd : d = d0 + 8) {e : Nat} (he : skE e = true) {R8 : Int32 → Int32 → Int32 → Int32 → Int32 → zS → Prop} {a1 : Int32} {a3 : Int32} {a4 : Int32} {a5 : Int32} {a6 : Int32} {a7 : Int32} {a8 : Int32} {a9 : Int32} {t0 : Int32} {s : zS} {Q : Option Value → zS → Prop} (r8 : ∀ a1 a3 a4 a5 a6 s, R8 a1 a3 a4 a5 a6 s → Zn d [] [(39, 98)] ([(75, 0, 39), (75, 1, 57), (75, 2, 61)] : zW) ([(75, 0, 39), (75, 1, 57), (75, 2, 61)] : zW) xL_7 12 (some .int) xE_87 (xE_87.drop 8) [.ref 75, .int a1, .ref e, .int a3, .int a4, .int a5, .int a6, .null, .null, .null, .null, .null, .null, .null, .null] [] s Q) (h : v_87_43 (fun j => Zt d (wd 39 j) j) 39 e R8 a1 a3 a4 a5 a6 a7 a8 a9 t0 s Q) : Zn d [] [(39, 98)] ([(75, 0, 39), (75, 1, 57), (75, 2, 61)] : zW) ([(75, 0, 39), (75, 1, 57), (75, 2, 61)] : zW) xL_7 12 (some .int) xE_87 (xE_87.drop 43) [.ref 75, .int a1, .ref e, .int a3, .int a4, .int a5, .int a6, .int a7, .int a8, .int a9, .null, .null, .null, .null, .null] [.int t0] s Q := by
  unfold v_87_43 at h
  refine zn_st [.ref 75, .int a1, .ref e, .int a3, .int a4, .int a5, .int a6, .int a7, .int a8, .int a9, .int t0, .null, .null, .null, .null] rfl rfl rfl ?_
  refine zn_ld rfl rfl rfl ?_
  refine zn_ld rfl rfl rfl ?_
  replace h := h _ (i_add (x := a3) (y := t0) rfl rfl)
  refine zn_c [.int (a3 + t0)] xo_iadd rfl rfl ?_
  refine zn_ld rfl rfl rfl ?_
  replace h := h _ (i_sub (x := (a3 + t0)) (y := a9) rfl rfl)
  refine zn_c [.int ((a3 + t0) - a9)] xo_isub rfl rfl ?_
  refine zn_c [.int 60, .int ((a3 + t0) - a9)] (xo_push (.int 60)) rfl rfl ?_
  refine zn_brP rfl rfl ⟨fun hcn => ?_, fun hcn => ?_⟩
  · replace h := h.1 ((i_le (x := ((a3 + t0) - a9)) (y := 60) rfl (show (60 : Int32).toInt = 60 by decide)).mp hcn)
    refine zn_ld rfl rfl rfl ?_
    refine zn_st [.ref 75, .int a1, .ref e, .int a3, .int a4, .int a5, .int a6, .int a7, .int a8, .int a9, .int t0, .int a9, .null, .null, .null] rfl rfl rfl ?_
    exact ml_87_55_39e hd he r8 h
  · replace h := h.2 (fun q => hcn ((i_le (x := ((a3 + t0) - a9)) (y := 60) rfl (show (60 : Int32).toInt = 60 by decide)).mpr q))
    refine zn_c [.int (-1)] (xo_push (.int (-1))) rfl rfl ?_
    exact zn_retI rfl h
set_option maxRecDepth 20000 in
theorem m_87_31_39e {d d0 : Nat} (hd : d = d0 + 8) {e : Nat} (he : skE e = true) {R8 : Int32 → Int32 → Int32 → Int32 → Int32 → zS → Prop} {a1 : Int32} {a3 : Int32} {a4 : Int32} {a5 : Int32} {a6 : Int32} {a7 : Int32} {a8 : Int32} {t0 : Int32} {s : zS} {Q : Option Value → zS → Prop} (r8 : ∀ a1 a3 a4 a5 a6 s, R8 a1 a3 a4 a5 a6 s → Zn d [] [(39, 98)] ([(75, 0, 39), (75, 1, 57), (75, 2, 61)] : zW) ([(75, 0, 39), (75, 1, 57), (75, 2, 61)] : zW) xL_7 12 (some .int) xE_87 (xE_87.drop 8) [.ref 75, .int a1, .ref e, .int a3, .int a4, .int a5, .int a6, .null, .null, .null, .null, .null, .null, .null, .null] [] s Q) (h : v_87_31 (fun j => Zt d (wd 39 j) j) 39 e R8 a1 a3 a4 a5 a6 a7 a8 t0 s Q) : Zn d [] [(39, 98)] ([(75, 0, 39), (75, 1, 57), (75, 2, 61)] : zW) ([(75, 0, 39), (75, 1, 57), (75, 2, 61)] : zW) xL_7 12 (some .int) xE_87 (xE_87.drop 31) [.ref 75, .int a1, .ref e, .int a3, .int a4, .int a5, .int a6, .int a7, .int a8, .null, .null, .null, .null, .null, .null] [.int t0] s Q := by
  unfold v_87_31 at h
  refine zn_st [.ref 75, .int a1, .ref e, .int a3, .int a4, .int a5, .int a6, .int a7, .int a8, .int t0, .null, .null, .null, .null, .null] rfl rfl rfl ?_
  refine zn_ld rfl rfl rfl ?_
  refine zn_brP rfl rfl ⟨fun hcn => ?_, fun hcn => ?_⟩
  · replace h := h.1 ((i_le (x := 0) (y := a8) (show (0 : Int32).toInt = 0 by decide) rfl).mp hcn)
    refine zn_ld rfl rfl rfl ?_
    refine zn_c [.int 12, .ref e] (xo_push (.int 12)) rfl rfl ?_
    refine zn_ld rfl rfl rfl ?_
    replace h := h _ (i_add (x := 12) (y := a8) (show (12 : Int32).toInt = 12 by decide) rfl)
    refine zn_c [.int (12 + a8), .ref e] xo_iadd rfl rfl ?_
    refine zn_row (12 + a8) [] (a := e) hd rfl rfl (ev_n he rfl rfl) (ev_r he) ?_
    change Zn _ _ _ _ _ _ _ _ _ _ _ [.int (zg s e (12 + a8))] _ _
    exact m_87_43_39e hd he r8 h
  · replace h := h.2 (fun q => hcn ((i_le (x := 0) (y := a8) (show (0 : Int32).toInt = 0 by decide) rfl).mpr q))
    refine zn_ld rfl rfl rfl ?_
    refine zn_c [.int 1, .int a6] (xo_push (.int 1)) rfl rfl ?_
    replace h := h _ (i_add (x := a6) (y := 1) rfl (show (1 : Int32).toInt = 1 by decide))
    refine zn_c [.int (a6 + 1)] xo_iadd rfl rfl ?_
    refine zn_go rfl ?_
    exact m_87_43_39e hd he r8 h
set_option maxRecDepth 20000 in
theorem m_87_8_39e {d d0 : Nat} (hd : d = d0 + 8) {e : Nat} (he : skE e = true) {R8 : Int32 → Int32 → Int32 → Int32 → Int32 → zS → Prop} {a1 : Int32} {a3 : Int32} {a4 : Int32} {a5 : Int32} {a6 : Int32} {s : zS} {Q : Option Value → zS → Prop} (r8 : ∀ a1 a3 a4 a5 a6 s, R8 a1 a3 a4 a5 a6 s → Zn d [] [(39, 98)] ([(75, 0, 39), (75, 1, 57), (75, 2, 61)] : zW) ([(75, 0, 39), (75, 1, 57), (75, 2, 61)] : zW) xL_7 12 (some .int) xE_87 (xE_87.drop 8) [.ref 75, .int a1, .ref e, .int a3, .int a4, .int a5, .int a6, .null, .null, .null, .null, .null, .null, .null, .null] [] s Q) (h : v_87_8 (fun j => Zt d (wd 39 j) j) 39 e R8 a1 a3 a4 a5 a6 s Q) : Zn d [] [(39, 98)] ([(75, 0, 39), (75, 1, 57), (75, 2, 61)] : zW) ([(75, 0, 39), (75, 1, 57), (75, 2, 61)] : zW) xL_7 12 (some .int) xE_87 (xE_87.drop 8) [.ref 75, .int a1, .ref e, .int a3, .int a4, .int a5, .int a6, .null, .null, .null, .null, .null, .null, .null, .null] [] s Q := by
  unfold v_87_8 at h
  refine zn_ld rfl rfl rfl ?_
  refine zn_ld rfl rfl rfl ?_
  refine zn_c [.int 60, .int a1, .int a6] (xo_push (.int 60)) rfl rfl ?_
  replace h := h _ (i_add (x := a1) (y := 60) rfl (show (60 : Int32).toInt = 60 by decide))
  refine zn_c [.int (a1 + 60), .int a6] xo_iadd rfl rfl ?_
  refine zn_brP rfl rfl ⟨fun hcn => ?_, fun hcn => ?_⟩
  · replace h := h.1 ((i_le (x := (a1 + 60)) (y := a6) rfl rfl).mp hcn)
    exact m_87_91_39e hd he  h
  · replace h := h.2 (fun q => hcn ((i_le (x := (a1 + 60)) (y := a6) rfl rfl).mpr q))
    refine zn_ld rfl rfl rfl ?_
    refine zn_brP rfl rfl ⟨fun hcn => ?_, fun hcn => ?_⟩
    · replace h := h.1 ((i_le (x := a4) (y := 0) rfl (show (0 : Int32).toInt = 0 by decide)).mp hcn)
      exact m_87_91_39e hd he  h
    · replace h := h.2 (fun q => hcn ((i_le (x := a4) (y := 0) rfl (show (0 : Int32).toInt = 0 by decide)).mpr q))
      refine zn_ld rfl rfl rfl ?_
      refine zn_get (v := .ref 57) rfl (zv_C (a := 75) (n := 1) rfl rfl rfl) ?_
      refine zn_ld rfl rfl rfl ?_
      refine zn_row a6 [] (a := 57) hd rfl rfl rfl rfl ?_
      change Zn _ _ _ _ _ _ _ _ _ _ _ [.int (zg s 57 a6)] _ _
      refine zn_st [.ref 75, .int a1, .ref e, .int a3, .int a4, .int a5, .int a6, .int (zg s 57 a6), .null, .null, .null, .null, .null, .null, .null] rfl rfl rfl ?_
      refine zn_ld rfl rfl rfl ?_
      refine zn_c [.int 24, .int (zg s 57 a6)] (xo_push (.int 24)) rfl rfl ?_
      replace h := h _ (i_sub (x := zg s 57 a6) (y := 24) rfl (show (24 : Int32).toInt = 24 by decide))
      refine zn_c [.int ((zg s 57 a6) - 24)] xo_isub rfl rfl ?_
      refine zn_st [.ref 75, .int a1, .ref e, .int a3, .int a4, .int a5, .int a6, .int (zg s 57 a6), .int ((zg s 57 a6) - 24), .null, .null, .null, .null, .null, .null] rfl rfl rfl ?_
      refine zn_ld rfl rfl rfl ?_
      refine zn_brP rfl rfl ⟨fun hcn => ?_, fun hcn => ?_⟩
      · replace h := h.1 ((i_le (x := 0) (y := ((zg s 57 a6) - 24)) (show (0 : Int32).toInt = 0 by decide) rfl).mp hcn)
        refine zn_ld rfl rfl rfl ?_
        refine zn_ld rfl rfl rfl ?_
        refine zn_row ((zg s 57 a6) - 24) [] (a := e) hd rfl rfl (ev_n he rfl rfl) (ev_r he) ?_
        change Zn _ _ _ _ _ _ _ _ _ _ _ [.int (zg s e ((zg s 57 a6) - 24))] _ _
        exact m_87_31_39e hd he r8 h
      · replace h := h.2 (fun q => hcn ((i_le (x := 0) (y := ((zg s 57 a6) - 24)) (show (0 : Int32).toInt = 0 by decide) rfl).mpr q))
        refine zn_ld rfl rfl rfl ?_
        refine zn_go rfl ?_
        exact m_87_31_39e hd he r8 h
theorem ml_87_8_39e {d d0 : Nat} (hd : d = d0 + 8) {e : Nat} (he : skE e = true)  {a1 : Int32} {a3 : Int32} {a4 : Int32} {a5 : Int32} {a6 : Int32} {s : zS} {Q : Option Value → zS → Prop}  (h : vl_87_8 (fun j => Zt d (wd 39 j) j) 39 e  a1 a3 a4 a5 a6 s Q) : Zn d [] [(39, 98)] ([(75, 0, 39), (75, 1, 57), (75, 2, 61)] : zW) ([(75, 0, 39), (75, 1, 57), (75, 2, 61)] : zW) xL_7 12 (some .int) xE_87 (xE_87.drop 8) [.ref 75, .int a1, .ref e, .int a3, .int a4, .int a5, .int a6, .null, .null, .null, .null, .null, .null, .null, .null] [] s Q := by
  obtain ⟨I, μ, h0, h1⟩ := h
  have key : ∀ (n : Nat) (a1 : Int32) (a3 : Int32) (a4 : Int32) (a5 : Int32) (a6 : Int32) (s : zS), μ a1 a3 a4 a5 a6 s = n → I a1 a3 a4 a5 a6 s → Zn d [] [(39, 98)] ([(75, 0, 39), (75, 1, 57), (75, 2, 61)] : zW) ([(75, 0, 39), (75, 1, 57), (75, 2, 61)] : zW) xL_7 12 (some .int) xE_87 (xE_87.drop 8) [.ref 75, .int a1, .ref e, .int a3, .int a4, .int a5, .int a6, .null, .null, .null, .null, .null, .null, .null, .null] [] s Q := by
    intro n
    induction n using Nat.strongRecOn with
    | ind n ih =>
      intro a1 a3 a4 a5 a6 s e hI
      exact m_87_8_39e hd he (fun a1' a3' a4' a5' a6' s' q => ih _ (by rw [← e]; exact q.2) a1' a3' a4' a5' a6' s' rfl q.1) (h1 a1 a3 a4 a5 a6 s hI)
  exact key _ a1 a3 a4 a5 a6 s rfl h0
set_option maxRecDepth 20000 in
theorem m_87_0_39e {d d0 : Nat} (hd : d = d0 + 8) {e : Nat} (he : skE e = true)  {a1 : Int32} {s : zS} {Q : Option Value → zS → Prop}  (h : v_87_0 (fun j => Zt d (wd 39 j) j) 39 e  a1 s Q) : Zn d [] [(39, 98)] ([(75, 0, 39), (75, 1, 57), (75, 2, 61)] : zW) ([(75, 0, 39), (75, 1, 57), (75, 2, 61)] : zW) xL_7 12 (some .int) xE_87 (xE_87.drop 0) [.ref 75, .int a1, .ref e, .null, .null, .null, .null, .null, .null, .null, .null, .null, .null, .null, .null] [] s Q := by
  unfold v_87_0 at h
  refine zn_c [.int 0] (xo_push (.int 0)) rfl rfl ?_
  refine zn_st [.ref 75, .int a1, .ref e, .int 0, .null, .null, .null, .null, .null, .null, .null, .null, .null, .null, .null] rfl rfl rfl ?_
  refine zn_c [.int 1] (xo_push (.int 1)) rfl rfl ?_
  refine zn_st [.ref 75, .int a1, .ref e, .int 0, .int 1, .null, .null, .null, .null, .null, .null, .null, .null, .null, .null] rfl rfl rfl ?_
  refine zn_c [.int 1] (xo_push (.int 1)) rfl rfl ?_
  refine zn_st [.ref 75, .int a1, .ref e, .int 0, .int 1, .int 1, .null, .null, .null, .null, .null, .null, .null, .null, .null] rfl rfl rfl ?_
  refine zn_ld rfl rfl rfl ?_
  refine zn_st [.ref 75, .int a1, .ref e, .int 0, .int 1, .int 1, .int a1, .null, .null, .null, .null, .null, .null, .null, .null] rfl rfl rfl ?_
  exact ml_87_8_39e hd he  h
theorem zq_87_39e {d : Nat} {e : Nat} (he : skE e = true) {a1 : Int32} {s : zS} {Q : Option Value → zS → Prop} (h : v_87_0 (fun j => Zt (d + 8) (wd 39 j) j) 39 e a1 s Q) : Zt (d + 9) ([(75, 0, 39), (75, 1, 57), (75, 2, 61)] : zW) 87 [.ref 75, .int a1, .ref e] s Q := zt_of (E := xE_87) (L := xL_7) (ml := 12) (ret := some .int) rfl rfl rfl (m_87_0_39e rfl he h)
theorem zc_87 {d P e : Nat} (hP : P = 3 ∨ P = 39) (he : skE e = true) {a1 : Int32} {s : zS} {Q : Option Value → zS → Prop} (h : v_87_0 (fun j => Zt (d + 8) (wd P j) j) P e a1 s Q) : Zt (d + 9) (wd P 87) 87 [.ref 75, .int a1, .ref e] s Q := by
  rcases hP with rfl | rfl
  · exact zq_87_3e he h
  · exact zq_87_39e he h
/-! FeatherBench$Shapes.meets -/
def v_88_77 (T : Nat → List Value → zS → (Option Value → zS → Prop) → Prop) (P : Nat) (R45 : Int32 → Int32 → Int32 → Int32 → Int32 → Int32 → zS → Prop) (a1 : Int32) (a2 : Int32) (a3 : Int32) (a4 : Int32) (a5 : Int32) (a6 : Int32) (a7 : Int32) (t0 : Int32) (s : zS) (Q : Option Value → zS → Prop) : Prop :=
  (t0.toInt = 0 → ∀ x1 : Int32, (-2147483648 ≤ a6.toInt + 1 ∧ a6.toInt + 1 ≤ 2147483647 → x1.toInt = a6.toInt + 1) → R45 a1 a2 a3 a4 a5 x1 s) ∧ (¬ (t0.toInt = 0) → Q (some (.int t0)) s)
def v_88_45 (T : Nat → List Value → zS → (Option Value → zS → Prop) → Prop) (P : Nat) (R45 : Int32 → Int32 → Int32 → Int32 → Int32 → Int32 → zS → Prop) (a1 : Int32) (a2 : Int32) (a3 : Int32) (a4 : Int32) (a5 : Int32) (a6 : Int32) (s : zS) (Q : Option Value → zS → Prop) : Prop :=
  ((zg s (P + 24) (a3 * 6 + 4)).toInt ≤ a6.toInt → Q (some (.int 0)) s) ∧ (¬ ((zg s (P + 24) (a3 * 6 + 4)).toInt ≤ a6.toInt) → ∀ x2 : Int32, (-2147483648 ≤ a5.toInt + a6.toInt ∧ a5.toInt + a6.toInt ≤ 2147483647 → x2.toInt = a5.toInt + a6.toInt) → T 52 [.ref P, .int (zg s (P + 18) a4), .int (zg s (P + 28) (x2 * 5 + 1))] s (fun v4 s5 => ∃ x6, v4 = some (.int x6) ∧ ((0 ≤ x6.toInt → ∀ x7 : Int32, (-2147483648 ≤ a5.toInt + a6.toInt ∧ a5.toInt + a6.toInt ≤ 2147483647 → x7.toInt = a5.toInt + a6.toInt) → T 89 [.ref 75, .int x7, .int x6] s5 (fun v8 s9 => ∃ x10, v8 = some (.int x10) ∧ (v_88_77 T P R45 a1 a2 a3 a4 a5 a6 x6 x10 s9 Q))) ∧ (¬ (0 ≤ x6.toInt) → v_88_77 T P R45 a1 a2 a3 a4 a5 a6 x6 7 s5 Q))))
def vl_88_45 (T : Nat → List Value → zS → (Option Value → zS → Prop) → Prop) (P : Nat)  (a1 : Int32) (a2 : Int32) (a3 : Int32) (a4 : Int32) (a5 : Int32) (a6 : Int32) (s : zS) (Q : Option Value → zS → Prop) : Prop :=
  ∃ (I : Int32 → Int32 → Int32 → Int32 → Int32 → Int32 → zS → Prop) (μ : Int32 → Int32 → Int32 → Int32 → Int32 → Int32 → zS → Nat), I a1 a2 a3 a4 a5 a6 s ∧ ∀ (a1 : Int32) (a2 : Int32) (a3 : Int32) (a4 : Int32) (a5 : Int32) (a6 : Int32) (s : zS), I a1 a2 a3 a4 a5 a6 s → v_88_45 T P (fun a1' a2' a3' a4' a5' a6' s' => I a1' a2' a3' a4' a5' a6' s' ∧ μ a1' a2' a3' a4' a5' a6' s' < μ a1 a2 a3 a4 a5 a6 s) a1 a2 a3 a4 a5 a6 s Q
def v_88_18 (T : Nat → List Value → zS → (Option Value → zS → Prop) → Prop) (P : Nat)  (a1 : Int32) (a2 : Int32) (a3 : Int32) (t0 : Int32) (s : zS) (Q : Option Value → zS → Prop) : Prop :=
  Q (some (.int t0)) s
def v_88_0 (T : Nat → List Value → zS → (Option Value → zS → Prop) → Prop) (P : Nat)  (a1 : Int32) (a2 : Int32) (s : zS) (Q : Option Value → zS → Prop) : Prop :=
  (¬ ((zInf s P (zg s (P + 18) a2)).toInt = 0) → T 90 [.ref 75, .int a1] s (fun v1 s2 => ∃ x3, v1 = some (.int x3) ∧ (T 86 [.ref 75, .ref 78, .int x3, .int 12, .int 6] s2 (fun v4 s5 => v4 = none ∧ (T 86 [.ref 75, .ref 80, .int a2, .int 12, .int 6] s5 (fun v6 s7 => v6 = none ∧ (vl_88_45 T P  a1 a2 (zg s (P + 18) a2) x3 (zg s7 (P + 24) ((zg s (P + 18) a2) * 6 + 3)) 0 s7 Q))))))) ∧ ((zInf s P (zg s (P + 18) a2)).toInt = 0 → T 84 [.ref 75, .int a1, .int a2] s (fun v9 s10 => ∃ x11, v9 = some (.int x11) ∧ ((x11.toInt = 0 → v_88_18 T P  a1 a2 (zg s (P + 18) a2) 7 s10 Q) ∧ (¬ (x11.toInt = 0) → v_88_18 T P  a1 a2 (zg s (P + 18) a2) 0 s10 Q))))
set_option maxRecDepth 20000 in
theorem m_88_77_3 {d d0 : Nat} (hd : d = d0 + 8) {R45 : Int32 → Int32 → Int32 → Int32 → Int32 → Int32 → zS → Prop} {a1 : Int32} {a2 : Int32} {a3 : Int32} {a4 : Int32} {a5 : Int32} {a6 : Int32} {a7 : Int32} {t0 : Int32} {s : zS} {Q : Option Value → zS → Prop} (r45 : ∀ a1 a2 a3 a4 a5 a6 s, R45 a1 a2 a3 a4 a5 a6 s → Zn d [] [(3, 98)] ([(75, 0, 3), (75, 1, 21), (75, 2, 25)] : zW) ([(75, 0, 3), (75, 1, 21), (75, 2, 25)] : zW) xL_7 9 (some .int) xE_88 (xE_88.drop 45) [.ref 75, .int a1, .int a2, .int a3, .int a4, .int a5, .int a6, .null, .null, .null, .null, .null] [] s Q) (h : v_88_77 (fun j => Zt d (wd 3 j) j) 3 R45 a1 a2 a3 a4 a5 a6 a7 t0 s Q) : Zn d [] [(3, 98)] ([(75, 0, 3), (75, 1, 21), (75, 2, 25)] : zW) ([(75, 0, 3), (75, 1, 21), (75, 2, 25)] : zW) xL_7 9 (some .int) xE_88 (xE_88.drop 77) [.ref 75, .int a1, .int a2, .int a3, .int a4, .int a5, .int a6, .int a7, .null, .null, .null, .null] [.int t0] s Q := by
  unfold v_88_77 at h
  refine zn_st [.ref 75, .int a1, .int a2, .int a3, .int a4, .int a5, .int a6, .int a7, .int t0, .null, .null, .null] rfl rfl rfl ?_
  refine zn_ld rfl rfl rfl ?_
  refine zn_brP rfl rfl ⟨fun hcn => ?_, fun hcn => ?_⟩
  · replace h := h.1 ((i_eq (x := t0) (y := 0) rfl (show (0 : Int32).toInt = 0 by decide)).mp hcn)
    replace h := h _ (i_add (x := a6) (y := 1) rfl (show (1 : Int32).toInt = 1 by decide))
    refine zn_inc [.ref 75, .int a1, .int a2, .int a3, .int a4, .int a5, .int (a6 + 1), .int a7, .int t0, .null, .null, .null] rfl rfl rfl rfl ?_
    refine zn_go rfl ?_
    refine zn_fg 7 ?_
    refine zn_fg 8 ?_
    exact r45 a1 a2 a3 a4 a5 (a6 + 1) s h
  · replace h := h.2 (fun q => hcn ((i_eq (x := t0) (y := 0) rfl (show (0 : Int32).toInt = 0 by decide)).mpr q))
    refine zn_ld rfl rfl rfl ?_
    exact zn_retI rfl h
set_option maxRecDepth 20000 in
theorem m_88_45_3 {d d0 : Nat} (hd : d = d0 + 8) {R45 : Int32 → Int32 → Int32 → Int32 → Int32 → Int32 → zS → Prop} {a1 : Int32} {a2 : Int32} {a3 : Int32} {a4 : Int32} {a5 : Int32} {a6 : Int32} {s : zS} {Q : Option Value → zS → Prop} (r45 : ∀ a1 a2 a3 a4 a5 a6 s, R45 a1 a2 a3 a4 a5 a6 s → Zn d [] [(3, 98)] ([(75, 0, 3), (75, 1, 21), (75, 2, 25)] : zW) ([(75, 0, 3), (75, 1, 21), (75, 2, 25)] : zW) xL_7 9 (some .int) xE_88 (xE_88.drop 45) [.ref 75, .int a1, .int a2, .int a3, .int a4, .int a5, .int a6, .null, .null, .null, .null, .null] [] s Q) (h : v_88_45 (fun j => Zt d (wd 3 j) j) 3 R45 a1 a2 a3 a4 a5 a6 s Q) : Zn d [] [(3, 98)] ([(75, 0, 3), (75, 1, 21), (75, 2, 25)] : zW) ([(75, 0, 3), (75, 1, 21), (75, 2, 25)] : zW) xL_7 9 (some .int) xE_88 (xE_88.drop 45) [.ref 75, .int a1, .int a2, .int a3, .int a4, .int a5, .int a6, .null, .null, .null, .null, .null] [] s Q := by
  unfold v_88_45 at h
  refine zn_ld rfl rfl rfl ?_
  refine zn_ld rfl rfl rfl ?_
  refine zn_get (v := .ref 3) rfl (zv_C (a := 75) (n := 0) rfl rfl rfl) ?_
  refine zn_ld rfl rfl rfl ?_
  refine zn_c [.int 4, .int a3, .ref 3, .int a6] (xo_push (.int 4)) rfl rfl ?_
  refine zn_zt [.ref 3, .int a3, .int 4] [.int a6] (c := []) rfl rfl rfl rfl rfl (Zt.imp (zp_39 hd (Or.inl rfl)) (fun vq sq hq => ?_))
  obtain ⟨rfl, hq⟩ := hq
  rw [hq]
  change Zn _ _ _ _ _ _ _ _ _ _ _ [.int (zg s 27 (a3 * 6 + 4)), .int a6] _ _
  refine zn_brP rfl rfl ⟨fun hcn => ?_, fun hcn => ?_⟩
  · replace h := h.1 ((i_le (x := zg s 27 (a3 * 6 + 4)) (y := a6) rfl rfl).mp hcn)
    refine zn_c [.int 0] (xo_push (.int 0)) rfl rfl ?_
    exact zn_retI rfl h
  · replace h := h.2 (fun q => hcn ((i_le (x := zg s 27 (a3 * 6 + 4)) (y := a6) rfl rfl).mpr q))
    refine zn_ld rfl rfl rfl ?_
    refine zn_get (v := .ref 3) rfl (zv_C (a := 75) (n := 0) rfl rfl rfl) ?_
    refine zn_ld rfl rfl rfl ?_
    refine zn_get (v := .ref 21) rfl (zv_C (a := 75) (n := 1) rfl rfl rfl) ?_
    refine zn_ld rfl rfl rfl ?_
    refine zn_row a4 [.ref 3] (a := 21) hd rfl rfl rfl rfl ?_
    change Zn _ _ _ _ _ _ _ _ _ _ _ [.int (zg s 21 a4), .ref 3] _ _
    refine zn_ld rfl rfl rfl ?_
    refine zn_get (v := .ref 3) rfl (zv_C (a := 75) (n := 0) rfl rfl rfl) ?_
    refine zn_ld rfl rfl rfl ?_
    refine zn_ld rfl rfl rfl ?_
    replace h := h _ (i_add (x := a5) (y := a6) rfl rfl)
    refine zn_c [.int (a5 + a6), .ref 3, .int (zg s 21 a4), .ref 3] xo_iadd rfl rfl ?_
    refine zn_c [.int 1, .int (a5 + a6), .ref 3, .int (zg s 21 a4), .ref 3] (xo_push (.int 1)) rfl rfl ?_
    refine zn_zt [.ref 3, .int (a5 + a6), .int 1] [.int (zg s 21 a4), .ref 3] (c := []) rfl rfl rfl rfl rfl (Zt.imp (zp_41 hd (Or.inl rfl)) (fun vq sq hq => ?_))
    obtain ⟨rfl, hq⟩ := hq
    rw [hq]
    change Zn _ _ _ _ _ _ _ _ _ _ _ [.int (zg s 31 ((a5 + a6) * 5 + 1)), .int (zg s 21 a4), .ref 3] _ _
    refine zn_zt [.ref 3, .int (zg s 21 a4), .int (zg s 31 ((a5 + a6) * 5 + 1))] [] rfl rfl rfl rfl rfl (Zt.imp h (fun v4 s5 h => ?_))
    obtain ⟨x6, rfl, h⟩ := h
    change Zn _ _ _ _ _ _ _ _ _ _ _ [.int x6] _ _
    refine zn_st [.ref 75, .int a1, .int a2, .int a3, .int a4, .int a5, .int a6, .int x6, .null, .null, .null, .null] rfl rfl rfl ?_
    refine zn_ld rfl rfl rfl ?_
    refine zn_brP rfl rfl ⟨fun hcn => ?_, fun hcn => ?_⟩
    · replace h := h.1 ((i_le (x := 0) (y := x6) (show (0 : Int32).toInt = 0 by decide) rfl).mp hcn)
      refine zn_ld rfl rfl rfl ?_
      refine zn_ld rfl rfl rfl ?_
      refine zn_ld rfl rfl rfl ?_
      replace h := h _ (i_add (x := a5) (y := a6) rfl rfl)
      refine zn_c [.int (a5 + a6), .ref 75] xo_iadd rfl rfl ?_
      refine zn_ld rfl rfl rfl ?_
      refine zn_zt [.ref 75, .int (a5 + a6), .int x6] [] rfl rfl rfl rfl rfl (Zt.imp h (fun v8 s9 h => ?_))
      obtain ⟨x10, rfl, h⟩ := h
      change Zn _ _ _ _ _ _ _ _ _ _ _ [.int x10] _ _
      exact m_88_77_3 hd r45 h
    · replace h := h.2 (fun q => hcn ((i_le (x := 0) (y := x6) (show (0 : Int32).toInt = 0 by decide) rfl).mpr q))
      refine zn_c [.int 7] (xo_push (.int 7)) rfl rfl ?_
      refine zn_go rfl ?_
      exact m_88_77_3 hd r45 h
theorem ml_88_45_3 {d d0 : Nat} (hd : d = d0 + 8)  {a1 : Int32} {a2 : Int32} {a3 : Int32} {a4 : Int32} {a5 : Int32} {a6 : Int32} {s : zS} {Q : Option Value → zS → Prop}  (h : vl_88_45 (fun j => Zt d (wd 3 j) j) 3  a1 a2 a3 a4 a5 a6 s Q) : Zn d [] [(3, 98)] ([(75, 0, 3), (75, 1, 21), (75, 2, 25)] : zW) ([(75, 0, 3), (75, 1, 21), (75, 2, 25)] : zW) xL_7 9 (some .int) xE_88 (xE_88.drop 45) [.ref 75, .int a1, .int a2, .int a3, .int a4, .int a5, .int a6, .null, .null, .null, .null, .null] [] s Q := by
  obtain ⟨I, μ, h0, h1⟩ := h
  have key : ∀ (n : Nat) (a1 : Int32) (a2 : Int32) (a3 : Int32) (a4 : Int32) (a5 : Int32) (a6 : Int32) (s : zS), μ a1 a2 a3 a4 a5 a6 s = n → I a1 a2 a3 a4 a5 a6 s → Zn d [] [(3, 98)] ([(75, 0, 3), (75, 1, 21), (75, 2, 25)] : zW) ([(75, 0, 3), (75, 1, 21), (75, 2, 25)] : zW) xL_7 9 (some .int) xE_88 (xE_88.drop 45) [.ref 75, .int a1, .int a2, .int a3, .int a4, .int a5, .int a6, .null, .null, .null, .null, .null] [] s Q := by
    intro n
    induction n using Nat.strongRecOn with
    | ind n ih =>
      intro a1 a2 a3 a4 a5 a6 s e hI
      exact m_88_45_3 hd (fun a1' a2' a3' a4' a5' a6' s' q => ih _ (by rw [← e]; exact q.2) a1' a2' a3' a4' a5' a6' s' rfl q.1) (h1 a1 a2 a3 a4 a5 a6 s hI)
  exact key _ a1 a2 a3 a4 a5 a6 s rfl h0
set_option maxRecDepth 20000 in
theorem m_88_18_3 {d d0 : Nat} (hd : d = d0 + 8)  {a1 : Int32} {a2 : Int32} {a3 : Int32} {t0 : Int32} {s : zS} {Q : Option Value → zS → Prop}  (h : v_88_18 (fun j => Zt d (wd 3 j) j) 3  a1 a2 a3 t0 s Q) : Zn d [] [(3, 98)] ([(75, 0, 3), (75, 1, 21), (75, 2, 25)] : zW) ([(75, 0, 3), (75, 1, 21), (75, 2, 25)] : zW) xL_7 9 (some .int) xE_88 (xE_88.drop 18) [.ref 75, .int a1, .int a2, .int a3, .null, .null, .null, .null, .null, .null, .null, .null] [.int t0] s Q := by
  unfold v_88_18 at h
  exact zn_retI rfl h
set_option maxRecDepth 20000 in
theorem m_88_0_3 {d d0 : Nat} (hd : d = d0 + 8)  {a1 : Int32} {a2 : Int32} {s : zS} {Q : Option Value → zS → Prop}  (h : v_88_0 (fun j => Zt d (wd 3 j) j) 3  a1 a2 s Q) : Zn d [] [(3, 98)] ([(75, 0, 3), (75, 1, 21), (75, 2, 25)] : zW) ([(75, 0, 3), (75, 1, 21), (75, 2, 25)] : zW) xL_7 9 (some .int) xE_88 (xE_88.drop 0) [.ref 75, .int a1, .int a2, .null, .null, .null, .null, .null, .null, .null, .null, .null] [] s Q := by
  unfold v_88_0 at h
  refine zn_ld rfl rfl rfl ?_
  refine zn_get (v := .ref 21) rfl (zv_C (a := 75) (n := 1) rfl rfl rfl) ?_
  refine zn_ld rfl rfl rfl ?_
  refine zn_row a2 [] (a := 21) hd rfl rfl rfl rfl ?_
  change Zn _ _ _ _ _ _ _ _ _ _ _ [.int (zg s 21 a2)] _ _
  refine zn_st [.ref 75, .int a1, .int a2, .int (zg s 21 a2), .null, .null, .null, .null, .null, .null, .null, .null] rfl rfl rfl ?_
  refine zn_ld rfl rfl rfl ?_
  refine zn_get (v := .ref 3) rfl (zv_C (a := 75) (n := 0) rfl rfl rfl) ?_
  refine zn_ld rfl rfl rfl ?_
  refine zn_zt [.ref 3, .int (zg s 21 a2)] [] (c := []) rfl rfl rfl rfl rfl (Zt.imp (zp_50 hd (Or.inl rfl)) (fun vq sq hq => ?_))
  obtain ⟨rfl, hq⟩ := hq
  rw [hq]
  change Zn _ _ _ _ _ _ _ _ _ _ _ [.int (zInf s 3 (zg s 21 a2))] _ _
  refine zn_brN rfl rfl ⟨fun hcn => ?_, fun hcn => ?_⟩
  · replace h := h.1 (fun q => hcn ((i_eq (x := zInf s 3 (zg s 21 a2)) (y := 0) rfl (show (0 : Int32).toInt = 0 by decide)).mpr q))
    refine zn_ld rfl rfl rfl ?_
    refine zn_ld rfl rfl rfl ?_
    refine zn_zt [.ref 75, .int a1] [] rfl rfl rfl rfl rfl (Zt.imp h (fun v1 s2 h => ?_))
    obtain ⟨x3, rfl, h⟩ := h
    change Zn _ _ _ _ _ _ _ _ _ _ _ [.int x3] _ _
    refine zn_st [.ref 75, .int a1, .int a2, .int (zg s 21 a2), .int x3, .null, .null, .null, .null, .null, .null, .null] rfl rfl rfl ?_
    refine zn_ld rfl rfl rfl ?_
    refine zn_ld rfl rfl rfl ?_
    refine zn_get (v := .ref 78) rfl (zv_R (a := 75) rfl rfl) ?_
    refine zn_ld rfl rfl rfl ?_
    refine zn_c [.int 12, .int x3, .ref 78, .ref 75] (xo_push (.int 12)) rfl rfl ?_
    refine zn_c [.int 6, .int 12, .int x3, .ref 78, .ref 75] (xo_push (.int 6)) rfl rfl ?_
    refine zn_zt [.ref 75, .ref 78, .int x3, .int 12, .int 6] [] rfl rfl rfl rfl rfl (Zt.imp h (fun v4 s5 h => ?_))
    obtain ⟨rfl, h⟩ := h
    change Zn _ _ _ _ _ _ _ _ _ _ _ [] _ _
    refine zn_ld rfl rfl rfl ?_
    refine zn_ld rfl rfl rfl ?_
    refine zn_get (v := .ref 80) rfl (zv_R (a := 75) rfl rfl) ?_
    refine zn_ld rfl rfl rfl ?_
    refine zn_c [.int 12, .int a2, .ref 80, .ref 75] (xo_push (.int 12)) rfl rfl ?_
    refine zn_c [.int 6, .int 12, .int a2, .ref 80, .ref 75] (xo_push (.int 6)) rfl rfl ?_
    refine zn_zt [.ref 75, .ref 80, .int a2, .int 12, .int 6] [] rfl rfl rfl rfl rfl (Zt.imp h (fun v6 s7 h => ?_))
    obtain ⟨rfl, h⟩ := h
    change Zn _ _ _ _ _ _ _ _ _ _ _ [] _ _
    refine zn_ld rfl rfl rfl ?_
    refine zn_get (v := .ref 3) rfl (zv_C (a := 75) (n := 0) rfl rfl rfl) ?_
    refine zn_ld rfl rfl rfl ?_
    refine zn_c [.int 3, .int (zg s 21 a2), .ref 3] (xo_push (.int 3)) rfl rfl ?_
    refine zn_zt [.ref 3, .int (zg s 21 a2), .int 3] [] (c := []) rfl rfl rfl rfl rfl (Zt.imp (zp_39 hd (Or.inl rfl)) (fun vq sq hq => ?_))
    obtain ⟨rfl, hq⟩ := hq
    rw [hq]
    change Zn _ _ _ _ _ _ _ _ _ _ _ [.int (zg s7 27 ((zg s 21 a2) * 6 + 3))] _ _
    refine zn_st [.ref 75, .int a1, .int a2, .int (zg s 21 a2), .int x3, .int (zg s7 27 ((zg s 21 a2) * 6 + 3)), .null, .null, .null, .null, .null, .null] rfl rfl rfl ?_
    refine zn_c [.int 0] (xo_push (.int 0)) rfl rfl ?_
    refine zn_st [.ref 75, .int a1, .int a2, .int (zg s 21 a2), .int x3, .int (zg s7 27 ((zg s 21 a2) * 6 + 3)), .int 0, .null, .null, .null, .null, .null] rfl rfl rfl ?_
    exact ml_88_45_3 hd  h
  · replace h := h.2 ((i_eq (x := zInf s 3 (zg s 21 a2)) (y := 0) rfl (show (0 : Int32).toInt = 0 by decide)).mp hcn)
    refine zn_ld rfl rfl rfl ?_
    refine zn_ld rfl rfl rfl ?_
    refine zn_ld rfl rfl rfl ?_
    refine zn_zt [.ref 75, .int a1, .int a2] [] rfl rfl rfl rfl rfl (Zt.imp h (fun v9 s10 h => ?_))
    obtain ⟨x11, rfl, h⟩ := h
    change Zn _ _ _ _ _ _ _ _ _ _ _ [.int x11] _ _
    refine zn_brP rfl rfl ⟨fun hcn => ?_, fun hcn => ?_⟩
    · replace h := h.1 ((i_eq (x := x11) (y := 0) rfl (show (0 : Int32).toInt = 0 by decide)).mp hcn)
      refine zn_c [.int 7] (xo_push (.int 7)) rfl rfl ?_
      exact m_88_18_3 hd  h
    · replace h := h.2 (fun q => hcn ((i_eq (x := x11) (y := 0) rfl (show (0 : Int32).toInt = 0 by decide)).mpr q))
      refine zn_c [.int 0] (xo_push (.int 0)) rfl rfl ?_
      refine zn_go rfl ?_
      exact m_88_18_3 hd  h
theorem zq_88_3 {d : Nat} {a1 : Int32} {a2 : Int32} {s : zS} {Q : Option Value → zS → Prop} (h : v_88_0 (fun j => Zt (d + 8) (wd 3 j) j) 3 a1 a2 s Q) : Zt (d + 9) ([(75, 0, 3), (75, 1, 21), (75, 2, 25)] : zW) 88 [.ref 75, .int a1, .int a2] s Q := zt_of (E := xE_88) (L := xL_7) (ml := 9) (ret := some .int) rfl rfl rfl (m_88_0_3 rfl h)
set_option maxRecDepth 20000 in
theorem m_88_77_39 {d d0 : Nat} (hd : d = d0 + 8) {R45 : Int32 → Int32 → Int32 → Int32 → Int32 → Int32 → zS → Prop} {a1 : Int32} {a2 : Int32} {a3 : Int32} {a4 : Int32} {a5 : Int32} {a6 : Int32} {a7 : Int32} {t0 : Int32} {s : zS} {Q : Option Value → zS → Prop} (r45 : ∀ a1 a2 a3 a4 a5 a6 s, R45 a1 a2 a3 a4 a5 a6 s → Zn d [] [(39, 98)] ([(75, 0, 39), (75, 1, 57), (75, 2, 61)] : zW) ([(75, 0, 39), (75, 1, 57), (75, 2, 61)] : zW) xL_7 9 (some .int) xE_88 (xE_88.drop 45) [.ref 75, .int a1, .int a2, .int a3, .int a4, .int a5, .int a6, .null, .null, .null, .null, .null] [] s Q) (h : v_88_77 (fun j => Zt d (wd 39 j) j) 39 R45 a1 a2 a3 a4 a5 a6 a7 t0 s Q) : Zn d [] [(39, 98)] ([(75, 0, 39), (75, 1, 57), (75, 2, 61)] : zW) ([(75, 0, 39), (75, 1, 57), (75, 2, 61)] : zW) xL_7 9 (some .int) xE_88 (xE_88.drop 77) [.ref 75, .int a1, .int a2, .int a3, .int a4, .int a5, .int a6, .int a7, .null, .null, .null, .null] [.int t0] s Q := by
  unfold v_88_77 at h
  refine zn_st [.ref 75, .int a1, .int a2, .int a3, .int a4, .int a5, .int a6, .int a7, .int t0, .null, .null, .null] rfl rfl rfl ?_
  refine zn_ld rfl rfl rfl ?_
  refine zn_brP rfl rfl ⟨fun hcn => ?_, fun hcn => ?_⟩
  · replace h := h.1 ((i_eq (x := t0) (y := 0) rfl (show (0 : Int32).toInt = 0 by decide)).mp hcn)
    replace h := h _ (i_add (x := a6) (y := 1) rfl (show (1 : Int32).toInt = 1 by decide))
    refine zn_inc [.ref 75, .int a1, .int a2, .int a3, .int a4, .int a5, .int (a6 + 1), .int a7, .int t0, .null, .null, .null] rfl rfl rfl rfl ?_
    refine zn_go rfl ?_
    refine zn_fg 7 ?_
    refine zn_fg 8 ?_
    exact r45 a1 a2 a3 a4 a5 (a6 + 1) s h
  · replace h := h.2 (fun q => hcn ((i_eq (x := t0) (y := 0) rfl (show (0 : Int32).toInt = 0 by decide)).mpr q))
    refine zn_ld rfl rfl rfl ?_
    exact zn_retI rfl h
set_option maxRecDepth 20000 in
theorem m_88_45_39 {d d0 : Nat} (hd : d = d0 + 8) {R45 : Int32 → Int32 → Int32 → Int32 → Int32 → Int32 → zS → Prop} {a1 : Int32} {a2 : Int32} {a3 : Int32} {a4 : Int32} {a5 : Int32} {a6 : Int32} {s : zS} {Q : Option Value → zS → Prop} (r45 : ∀ a1 a2 a3 a4 a5 a6 s, R45 a1 a2 a3 a4 a5 a6 s → Zn d [] [(39, 98)] ([(75, 0, 39), (75, 1, 57), (75, 2, 61)] : zW) ([(75, 0, 39), (75, 1, 57), (75, 2, 61)] : zW) xL_7 9 (some .int) xE_88 (xE_88.drop 45) [.ref 75, .int a1, .int a2, .int a3, .int a4, .int a5, .int a6, .null, .null, .null, .null, .null] [] s Q) (h : v_88_45 (fun j => Zt d (wd 39 j) j) 39 R45 a1 a2 a3 a4 a5 a6 s Q) : Zn d [] [(39, 98)] ([(75, 0, 39), (75, 1, 57), (75, 2, 61)] : zW) ([(75, 0, 39), (75, 1, 57), (75, 2, 61)] : zW) xL_7 9 (some .int) xE_88 (xE_88.drop 45) [.ref 75, .int a1, .int a2, .int a3, .int a4, .int a5, .int a6, .null, .null, .null, .null, .null] [] s Q := by
  unfold v_88_45 at h
  refine zn_ld rfl rfl rfl ?_
  refine zn_ld rfl rfl rfl ?_
  refine zn_get (v := .ref 39) rfl (zv_C (a := 75) (n := 0) rfl rfl rfl) ?_
  refine zn_ld rfl rfl rfl ?_
  refine zn_c [.int 4, .int a3, .ref 39, .int a6] (xo_push (.int 4)) rfl rfl ?_
  refine zn_zt [.ref 39, .int a3, .int 4] [.int a6] (c := []) rfl rfl rfl rfl rfl (Zt.imp (zp_39 hd (Or.inr rfl)) (fun vq sq hq => ?_))
  obtain ⟨rfl, hq⟩ := hq
  rw [hq]
  change Zn _ _ _ _ _ _ _ _ _ _ _ [.int (zg s 63 (a3 * 6 + 4)), .int a6] _ _
  refine zn_brP rfl rfl ⟨fun hcn => ?_, fun hcn => ?_⟩
  · replace h := h.1 ((i_le (x := zg s 63 (a3 * 6 + 4)) (y := a6) rfl rfl).mp hcn)
    refine zn_c [.int 0] (xo_push (.int 0)) rfl rfl ?_
    exact zn_retI rfl h
  · replace h := h.2 (fun q => hcn ((i_le (x := zg s 63 (a3 * 6 + 4)) (y := a6) rfl rfl).mpr q))
    refine zn_ld rfl rfl rfl ?_
    refine zn_get (v := .ref 39) rfl (zv_C (a := 75) (n := 0) rfl rfl rfl) ?_
    refine zn_ld rfl rfl rfl ?_
    refine zn_get (v := .ref 57) rfl (zv_C (a := 75) (n := 1) rfl rfl rfl) ?_
    refine zn_ld rfl rfl rfl ?_
    refine zn_row a4 [.ref 39] (a := 57) hd rfl rfl rfl rfl ?_
    change Zn _ _ _ _ _ _ _ _ _ _ _ [.int (zg s 57 a4), .ref 39] _ _
    refine zn_ld rfl rfl rfl ?_
    refine zn_get (v := .ref 39) rfl (zv_C (a := 75) (n := 0) rfl rfl rfl) ?_
    refine zn_ld rfl rfl rfl ?_
    refine zn_ld rfl rfl rfl ?_
    replace h := h _ (i_add (x := a5) (y := a6) rfl rfl)
    refine zn_c [.int (a5 + a6), .ref 39, .int (zg s 57 a4), .ref 39] xo_iadd rfl rfl ?_
    refine zn_c [.int 1, .int (a5 + a6), .ref 39, .int (zg s 57 a4), .ref 39] (xo_push (.int 1)) rfl rfl ?_
    refine zn_zt [.ref 39, .int (a5 + a6), .int 1] [.int (zg s 57 a4), .ref 39] (c := []) rfl rfl rfl rfl rfl (Zt.imp (zp_41 hd (Or.inr rfl)) (fun vq sq hq => ?_))
    obtain ⟨rfl, hq⟩ := hq
    rw [hq]
    change Zn _ _ _ _ _ _ _ _ _ _ _ [.int (zg s 67 ((a5 + a6) * 5 + 1)), .int (zg s 57 a4), .ref 39] _ _
    refine zn_zt [.ref 39, .int (zg s 57 a4), .int (zg s 67 ((a5 + a6) * 5 + 1))] [] rfl rfl rfl rfl rfl (Zt.imp h (fun v4 s5 h => ?_))
    obtain ⟨x6, rfl, h⟩ := h
    change Zn _ _ _ _ _ _ _ _ _ _ _ [.int x6] _ _
    refine zn_st [.ref 75, .int a1, .int a2, .int a3, .int a4, .int a5, .int a6, .int x6, .null, .null, .null, .null] rfl rfl rfl ?_
    refine zn_ld rfl rfl rfl ?_
    refine zn_brP rfl rfl ⟨fun hcn => ?_, fun hcn => ?_⟩
    · replace h := h.1 ((i_le (x := 0) (y := x6) (show (0 : Int32).toInt = 0 by decide) rfl).mp hcn)
      refine zn_ld rfl rfl rfl ?_
      refine zn_ld rfl rfl rfl ?_
      refine zn_ld rfl rfl rfl ?_
      replace h := h _ (i_add (x := a5) (y := a6) rfl rfl)
      refine zn_c [.int (a5 + a6), .ref 75] xo_iadd rfl rfl ?_
      refine zn_ld rfl rfl rfl ?_
      refine zn_zt [.ref 75, .int (a5 + a6), .int x6] [] rfl rfl rfl rfl rfl (Zt.imp h (fun v8 s9 h => ?_))
      obtain ⟨x10, rfl, h⟩ := h
      change Zn _ _ _ _ _ _ _ _ _ _ _ [.int x10] _ _
      exact m_88_77_39 hd r45 h
    · replace h := h.2 (fun q => hcn ((i_le (x := 0) (y := x6) (show (0 : Int32).toInt = 0 by decide) rfl).mpr q))
      refine zn_c [.int 7] (xo_push (.int 7)) rfl rfl ?_
      refine zn_go rfl ?_
      exact m_88_77_39 hd r45 h
theorem ml_88_45_39 {d d0 : Nat} (hd : d = d0 + 8)  {a1 : Int32} {a2 : Int32} {a3 : Int32} {a4 : Int32} {a5 : Int32} {a6 : Int32} {s : zS} {Q : Option Value → zS → Prop}  (h : vl_88_45 (fun j => Zt d (wd 39 j) j) 39  a1 a2 a3 a4 a5 a6 s Q) : Zn d [] [(39, 98)] ([(75, 0, 39), (75, 1, 57), (75, 2, 61)] : zW) ([(75, 0, 39), (75, 1, 57), (75, 2, 61)] : zW) xL_7 9 (some .int) xE_88 (xE_88.drop 45) [.ref 75, .int a1, .int a2, .int a3, .int a4, .int a5, .int a6, .null, .null, .null, .null, .null] [] s Q := by
  obtain ⟨I, μ, h0, h1⟩ := h
  have key : ∀ (n : Nat) (a1 : Int32) (a2 : Int32) (a3 : Int32) (a4 : Int32) (a5 : Int32) (a6 : Int32) (s : zS), μ a1 a2 a3 a4 a5 a6 s = n → I a1 a2 a3 a4 a5 a6 s → Zn d [] [(39, 98)] ([(75, 0, 39), (75, 1, 57), (75, 2, 61)] : zW) ([(75, 0, 39), (75, 1, 57), (75, 2, 61)] : zW) xL_7 9 (some .int) xE_88 (xE_88.drop 45) [.ref 75, .int a1, .int a2, .int a3, .int a4, .int a5, .int a6, .null, .null, .null, .null, .null] [] s Q := by
    intro n
    induction n using Nat.strongRecOn with
    | ind n ih =>
      intro a1 a2 a3 a4 a5 a6 s e hI
      exact m_88_45_39 hd (fun a1' a2' a3' a4' a5' a6' s' q => ih _ (by rw [← e]; exact q.2) a1' a2' a3' a4' a5' a6' s' rfl q.1) (h1 a1 a2 a3 a4 a5 a6 s hI)
  exact key _ a1 a2 a3 a4 a5 a6 s rfl h0
set_option maxRecDepth 20000 in
theorem m_88_18_39 {d d0 : Nat} (hd : d = d0 + 8)  {a1 : Int32} {a2 : Int32} {a3 : Int32} {t0 : Int32} {s : zS} {Q : Option Value → zS → Prop}  (h : v_88_18 (fun j => Zt d (wd 39 j) j) 39  a1 a2 a3 t0 s Q) : Zn d [] [(39, 98)] ([(75, 0, 39), (75, 1, 57), (75, 2, 61)] : zW) ([(75, 0, 39), (75, 1, 57), (75, 2, 61)] : zW) xL_7 9 (some .int) xE_88 (xE_88.drop 18) [.ref 75, .int a1, .int a2, .int a3, .null, .null, .null, .null, .null, .null, .null, .null] [.int t0] s Q := by
  unfold v_88_18 at h
  exact zn_retI rfl h
set_option maxRecDepth 20000 in
theorem m_88_0_39 {d d0 : Nat} (hd : d = d0 + 8)  {a1 : Int32} {a2 : Int32} {s : zS} {Q : Option Value → zS → Prop}  (h : v_88_0 (fun j => Zt d (wd 39 j) j) 39  a1 a2 s Q) : Zn d [] [(39, 98)] ([(75, 0, 39), (75, 1, 57), (75, 2, 61)] : zW) ([(75, 0, 39), (75, 1, 57), (75, 2, 61)] : zW) xL_7 9 (some .int) xE_88 (xE_88.drop 0) [.ref 75, .int a1, .int a2, .null, .null, .null, .null, .null, .null, .null, .null, .null] [] s Q := by
  unfold v_88_0 at h
  refine zn_ld rfl rfl rfl ?_
  refine zn_get (v := .ref 57) rfl (zv_C (a := 75) (n := 1) rfl rfl rfl) ?_
  refine zn_ld rfl rfl rfl ?_
  refine zn_row a2 [] (a := 57) hd rfl rfl rfl rfl ?_
  change Zn _ _ _ _ _ _ _ _ _ _ _ [.int (zg s 57 a2)] _ _
  refine zn_st [.ref 75, .int a1, .int a2, .int (zg s 57 a2), .null, .null, .null, .null, .null, .null, .null, .null] rfl rfl rfl ?_
  refine zn_ld rfl rfl rfl ?_
  refine zn_get (v := .ref 39) rfl (zv_C (a := 75) (n := 0) rfl rfl rfl) ?_
  refine zn_ld rfl rfl rfl ?_
  refine zn_zt [.ref 39, .int (zg s 57 a2)] [] (c := []) rfl rfl rfl rfl rfl (Zt.imp (zp_50 hd (Or.inr rfl)) (fun vq sq hq => ?_))
  obtain ⟨rfl, hq⟩ := hq
  rw [hq]
  change Zn _ _ _ _ _ _ _ _ _ _ _ [.int (zInf s 39 (zg s 57 a2))] _ _
  refine zn_brN rfl rfl ⟨fun hcn => ?_, fun hcn => ?_⟩
  · replace h := h.1 (fun q => hcn ((i_eq (x := zInf s 39 (zg s 57 a2)) (y := 0) rfl (show (0 : Int32).toInt = 0 by decide)).mpr q))
    refine zn_ld rfl rfl rfl ?_
    refine zn_ld rfl rfl rfl ?_
    refine zn_zt [.ref 75, .int a1] [] rfl rfl rfl rfl rfl (Zt.imp h (fun v1 s2 h => ?_))
    obtain ⟨x3, rfl, h⟩ := h
    change Zn _ _ _ _ _ _ _ _ _ _ _ [.int x3] _ _
    refine zn_st [.ref 75, .int a1, .int a2, .int (zg s 57 a2), .int x3, .null, .null, .null, .null, .null, .null, .null] rfl rfl rfl ?_
    refine zn_ld rfl rfl rfl ?_
    refine zn_ld rfl rfl rfl ?_
    refine zn_get (v := .ref 78) rfl (zv_R (a := 75) rfl rfl) ?_
    refine zn_ld rfl rfl rfl ?_
    refine zn_c [.int 12, .int x3, .ref 78, .ref 75] (xo_push (.int 12)) rfl rfl ?_
    refine zn_c [.int 6, .int 12, .int x3, .ref 78, .ref 75] (xo_push (.int 6)) rfl rfl ?_
    refine zn_zt [.ref 75, .ref 78, .int x3, .int 12, .int 6] [] rfl rfl rfl rfl rfl (Zt.imp h (fun v4 s5 h => ?_))
    obtain ⟨rfl, h⟩ := h
    change Zn _ _ _ _ _ _ _ _ _ _ _ [] _ _
    refine zn_ld rfl rfl rfl ?_
    refine zn_ld rfl rfl rfl ?_
    refine zn_get (v := .ref 80) rfl (zv_R (a := 75) rfl rfl) ?_
    refine zn_ld rfl rfl rfl ?_
    refine zn_c [.int 12, .int a2, .ref 80, .ref 75] (xo_push (.int 12)) rfl rfl ?_
    refine zn_c [.int 6, .int 12, .int a2, .ref 80, .ref 75] (xo_push (.int 6)) rfl rfl ?_
    refine zn_zt [.ref 75, .ref 80, .int a2, .int 12, .int 6] [] rfl rfl rfl rfl rfl (Zt.imp h (fun v6 s7 h => ?_))
    obtain ⟨rfl, h⟩ := h
    change Zn _ _ _ _ _ _ _ _ _ _ _ [] _ _
    refine zn_ld rfl rfl rfl ?_
    refine zn_get (v := .ref 39) rfl (zv_C (a := 75) (n := 0) rfl rfl rfl) ?_
    refine zn_ld rfl rfl rfl ?_
    refine zn_c [.int 3, .int (zg s 57 a2), .ref 39] (xo_push (.int 3)) rfl rfl ?_
    refine zn_zt [.ref 39, .int (zg s 57 a2), .int 3] [] (c := []) rfl rfl rfl rfl rfl (Zt.imp (zp_39 hd (Or.inr rfl)) (fun vq sq hq => ?_))
    obtain ⟨rfl, hq⟩ := hq
    rw [hq]
    change Zn _ _ _ _ _ _ _ _ _ _ _ [.int (zg s7 63 ((zg s 57 a2) * 6 + 3))] _ _
    refine zn_st [.ref 75, .int a1, .int a2, .int (zg s 57 a2), .int x3, .int (zg s7 63 ((zg s 57 a2) * 6 + 3)), .null, .null, .null, .null, .null, .null] rfl rfl rfl ?_
    refine zn_c [.int 0] (xo_push (.int 0)) rfl rfl ?_
    refine zn_st [.ref 75, .int a1, .int a2, .int (zg s 57 a2), .int x3, .int (zg s7 63 ((zg s 57 a2) * 6 + 3)), .int 0, .null, .null, .null, .null, .null] rfl rfl rfl ?_
    exact ml_88_45_39 hd  h
  · replace h := h.2 ((i_eq (x := zInf s 39 (zg s 57 a2)) (y := 0) rfl (show (0 : Int32).toInt = 0 by decide)).mp hcn)
    refine zn_ld rfl rfl rfl ?_
    refine zn_ld rfl rfl rfl ?_
    refine zn_ld rfl rfl rfl ?_
    refine zn_zt [.ref 75, .int a1, .int a2] [] rfl rfl rfl rfl rfl (Zt.imp h (fun v9 s10 h => ?_))
    obtain ⟨x11, rfl, h⟩ := h
    change Zn _ _ _ _ _ _ _ _ _ _ _ [.int x11] _ _
    refine zn_brP rfl rfl ⟨fun hcn => ?_, fun hcn => ?_⟩
    · replace h := h.1 ((i_eq (x := x11) (y := 0) rfl (show (0 : Int32).toInt = 0 by decide)).mp hcn)
      refine zn_c [.int 7] (xo_push (.int 7)) rfl rfl ?_
      exact m_88_18_39 hd  h
    · replace h := h.2 (fun q => hcn ((i_eq (x := x11) (y := 0) rfl (show (0 : Int32).toInt = 0 by decide)).mpr q))
      refine zn_c [.int 0] (xo_push (.int 0)) rfl rfl ?_
      refine zn_go rfl ?_
      exact m_88_18_39 hd  h
theorem zq_88_39 {d : Nat} {a1 : Int32} {a2 : Int32} {s : zS} {Q : Option Value → zS → Prop} (h : v_88_0 (fun j => Zt (d + 8) (wd 39 j) j) 39 a1 a2 s Q) : Zt (d + 9) ([(75, 0, 39), (75, 1, 57), (75, 2, 61)] : zW) 88 [.ref 75, .int a1, .int a2] s Q := zt_of (E := xE_88) (L := xL_7) (ml := 9) (ret := some .int) rfl rfl rfl (m_88_0_39 rfl h)
theorem zc_88 {d P : Nat} (hP : P = 3 ∨ P = 39) {a1 : Int32} {a2 : Int32} {s : zS} {Q : Option Value → zS → Prop} (h : v_88_0 (fun j => Zt (d + 8) (wd P j) j) P a1 a2 s Q) : Zt (d + 9) (wd P 88) 88 [.ref 75, .int a1, .int a2] s Q := by
  rcases hP with rfl | rfl
  · exact zq_88_3 h
  · exact zq_88_39 h
/-! FeatherBench$Shapes.alike -/
def v_89_82 (T : Nat → List Value → zS → (Option Value → zS → Prop) → Prop) (P : Nat) (R35 : Int32 → Int32 → Int32 → Int32 → Int32 → Int32 → Int32 → zS → Prop) (a1 : Int32) (a2 : Int32) (a3 : Int32) (a4 : Int32) (a5 : Int32) (a6 : Int32) (a7 : Int32) (a8 : Int32) (a9 : Int32) (t0 : Int32) (s : zS) (Q : Option Value → zS → Prop) : Prop :=
  ∀ s1, s1 = zf s 75 3 a8 → (0 ≤ t0.toInt → T 84 [.ref 75, .int a9, .int t0] s1 (fun v2 s3 => ∃ x4, v2 = some (.int x4) ∧ ((¬ (x4.toInt = 0) → ∀ x5 : Int32, (-2147483648 ≤ a7.toInt + 1 ∧ a7.toInt + 1 ≤ 2147483647 → x5.toInt = a7.toInt + 1) → R35 a1 a2 a3 a4 a5 a6 x5 s3) ∧ (x4.toInt = 0 → Q (some (.int 7)) s3)))) ∧ (¬ (0 ≤ t0.toInt) → Q (some (.int 9)) s1)
def v_89_52 (T : Nat → List Value → zS → (Option Value → zS → Prop) → Prop) (P : Nat) (R35 : Int32 → Int32 → Int32 → Int32 → Int32 → Int32 → Int32 → zS → Prop) (a1 : Int32) (a2 : Int32) (a3 : Int32) (a4 : Int32) (a5 : Int32) (a6 : Int32) (a7 : Int32) (s : zS) (Q : Option Value → zS → Prop) : Prop :=
  ∀ x1 : Int32, (-2147483648 ≤ a5.toInt + a7.toInt ∧ a5.toInt + a7.toInt ≤ 2147483647 → x1.toInt = a5.toInt + a7.toInt) → T 87 [.ref 75, .int (zg s (P + 30) (x1 * 5 + 3)), .ref 80] s (fun v3 s4 => ∃ x5, v3 = some (.int x5) ∧ ((0 ≤ x5.toInt → ∀ x6 : Int32, (-2147483648 ≤ a6.toInt + a7.toInt ∧ a6.toInt + a7.toInt ≤ 2147483647 → x6.toInt = a6.toInt + a7.toInt) → T 87 [.ref 75, .int (zg s4 (P + 30) (x6 * 5 + 3)), .ref 78] s4 (fun v8 s9 => ∃ x10, v8 = some (.int x10) ∧ (v_89_82 T P R35 a1 a2 a3 a4 a5 a6 a7 (s.1 75 3) x5 x10 s9 Q))) ∧ (¬ (0 ≤ x5.toInt) → v_89_82 T P R35 a1 a2 a3 a4 a5 a6 a7 (s.1 75 3) x5 (-1) s4 Q)))
def v_89_35 (T : Nat → List Value → zS → (Option Value → zS → Prop) → Prop) (P : Nat) (R35 : Int32 → Int32 → Int32 → Int32 → Int32 → Int32 → Int32 → zS → Prop) (a1 : Int32) (a2 : Int32) (a3 : Int32) (a4 : Int32) (a5 : Int32) (a6 : Int32) (a7 : Int32) (s : zS) (Q : Option Value → zS → Prop) : Prop :=
  ∀ x1 : Int32, (-2147483648 ≤ a3.toInt + a4.toInt ∧ a3.toInt + a4.toInt ≤ 2147483647 → x1.toInt = a3.toInt + a4.toInt) → (x1.toInt < a7.toInt → Q (some (.int 0)) s) ∧ (¬ (x1.toInt < a7.toInt) → (¬ (a7.toInt = a3.toInt) → v_89_52 T P R35 a1 a2 a3 a4 a5 a6 a7 s Q) ∧ (a7.toInt = a3.toInt → (a4.toInt = (zg s (P + 28) (a2 * 5 + 4)).toInt → v_89_52 T P R35 a1 a2 a3 a4 a5 a6 a7 s Q) ∧ (¬ (a4.toInt = (zg s (P + 28) (a2 * 5 + 4)).toInt) → Q (some (.int 7)) s)))
def vl_89_35 (T : Nat → List Value → zS → (Option Value → zS → Prop) → Prop) (P : Nat)  (a1 : Int32) (a2 : Int32) (a3 : Int32) (a4 : Int32) (a5 : Int32) (a6 : Int32) (a7 : Int32) (s : zS) (Q : Option Value → zS → Prop) : Prop :=
  ∃ (I : Int32 → Int32 → Int32 → Int32 → Int32 → Int32 → Int32 → zS → Prop) (μ : Int32 → Int32 → Int32 → Int32 → Int32 → Int32 → Int32 → zS → Nat), I a1 a2 a3 a4 a5 a6 a7 s ∧ ∀ (a1 : Int32) (a2 : Int32) (a3 : Int32) (a4 : Int32) (a5 : Int32) (a6 : Int32) (a7 : Int32) (s : zS), I a1 a2 a3 a4 a5 a6 a7 s → v_89_35 T P (fun a1' a2' a3' a4' a5' a6' a7' s' => I a1' a2' a3' a4' a5' a6' a7' s' ∧ μ a1' a2' a3' a4' a5' a6' a7' s' < μ a1 a2 a3 a4 a5 a6 a7 s) a1 a2 a3 a4 a5 a6 a7 s Q
def v_89_0 (T : Nat → List Value → zS → (Option Value → zS → Prop) → Prop) (P : Nat)  (a1 : Int32) (a2 : Int32) (s : zS) (Q : Option Value → zS → Prop) : Prop :=
  ((zg s (P + 28) (a1 * 5 + 3)).toInt = (zg s (P + 28) (a2 * 5 + 3)).toInt → vl_89_35 T P  a1 a2 (zg s (P + 28) (a1 * 5 + 3)) (zg s (P + 28) (a1 * 5 + 4)) (zg s (P + 28) (a1 * 5 + 2)) (zg s (P + 28) (a2 * 5 + 2)) 0 s Q) ∧ (¬ ((zg s (P + 28) (a1 * 5 + 3)).toInt = (zg s (P + 28) (a2 * 5 + 3)).toInt) → Q (some (.int 7)) s)
set_option maxRecDepth 20000 in
theorem m_89_82_3 {d d0 : Nat} (hd : d = d0 + 8) {R35 : Int32 → Int32 → Int32 → Int32 → Int32 → Int32 → Int32 → zS → Prop} {a1 : Int32} {a2 : Int32} {a3 : Int32} {a4 : Int32} {a5 : Int32} {a6 : Int32} {a7 : Int32} {a8 : Int32} {a9 : Int32} {t0 : Int32} {s : zS} {Q : Option Value → zS → Prop} (r35 : ∀ a1 a2 a3 a4 a5 a6 a7 s, R35 a1 a2 a3 a4 a5 a6 a7 s → Zn d [] [(3, 98)] ([(75, 0, 3), (75, 1, 21), (75, 2, 25)] : zW) ([(75, 0, 3), (75, 1, 21), (75, 2, 25)] : zW) xL_7 11 (some .int) xE_89 (xE_89.drop 35) [.ref 75, .int a1, .int a2, .int a3, .int a4, .int a5, .int a6, .int a7, .null, .null, .null, .null, .null, .null] [] s Q) (h : v_89_82 (fun j => Zt d (wd 3 j) j) 3 R35 a1 a2 a3 a4 a5 a6 a7 a8 a9 t0 s Q) : Zn d [] [(3, 98)] ([(75, 0, 3), (75, 1, 21), (75, 2, 25)] : zW) ([(75, 0, 3), (75, 1, 21), (75, 2, 25)] : zW) xL_7 11 (some .int) xE_89 (xE_89.drop 82) [.ref 75, .int a1, .int a2, .int a3, .int a4, .int a5, .int a6, .int a7, .int a8, .int a9, .null, .null, .null, .null] [.int t0] s Q := by
  unfold v_89_82 at h
  refine zn_st [.ref 75, .int a1, .int a2, .int a3, .int a4, .int a5, .int a6, .int a7, .int a8, .int a9, .int t0, .null, .null, .null] rfl rfl rfl ?_
  refine zn_ld rfl rfl rfl ?_
  refine zn_ld rfl rfl rfl ?_
  refine zn_putI (a := 75) rfl rfl rfl rfl ⟨Int32.le_toInt _, Int.le_of_lt_add_one (Int32.toInt_lt _)⟩ rfl rfl rfl ?_
  replace h := h _ rfl
  refine zn_ld rfl rfl rfl ?_
  refine zn_brP rfl rfl ⟨fun hcn => ?_, fun hcn => ?_⟩
  · replace h := h.1 ((i_le (x := 0) (y := t0) (show (0 : Int32).toInt = 0 by decide) rfl).mp hcn)
    refine zn_ld rfl rfl rfl ?_
    refine zn_ld rfl rfl rfl ?_
    refine zn_ld rfl rfl rfl ?_
    refine zn_zt [.ref 75, .int a9, .int t0] [] rfl rfl rfl rfl rfl (Zt.imp h (fun v2 s3 h => ?_))
    obtain ⟨x4, rfl, h⟩ := h
    change Zn _ _ _ _ _ _ _ _ _ _ _ [.int x4] _ _
    refine zn_brN rfl rfl ⟨fun hcn => ?_, fun hcn => ?_⟩
    · replace h := h.1 (fun q => hcn ((i_eq (x := x4) (y := 0) rfl (show (0 : Int32).toInt = 0 by decide)).mpr q))
      replace h := h _ (i_add (x := a7) (y := 1) rfl (show (1 : Int32).toInt = 1 by decide))
      refine zn_inc [.ref 75, .int a1, .int a2, .int a3, .int a4, .int a5, .int a6, .int (a7 + 1), .int a8, .int a9, .int t0, .null, .null, .null] rfl rfl rfl rfl ?_
      refine zn_go rfl ?_
      refine zn_fg 8 ?_
      refine zn_fg 9 ?_
      refine zn_fg 10 ?_
      exact r35 a1 a2 a3 a4 a5 a6 (a7 + 1) s3 h
    · replace h := h.2 ((i_eq (x := x4) (y := 0) rfl (show (0 : Int32).toInt = 0 by decide)).mp hcn)
      refine zn_c [.int 7] (xo_push (.int 7)) rfl rfl ?_
      exact zn_retI rfl h
  · replace h := h.2 (fun q => hcn ((i_le (x := 0) (y := t0) (show (0 : Int32).toInt = 0 by decide) rfl).mpr q))
    refine zn_c [.int 9] (xo_push (.int 9)) rfl rfl ?_
    exact zn_retI rfl h
set_option maxRecDepth 20000 in
theorem m_89_52_3 {d d0 : Nat} (hd : d = d0 + 8) {R35 : Int32 → Int32 → Int32 → Int32 → Int32 → Int32 → Int32 → zS → Prop} {a1 : Int32} {a2 : Int32} {a3 : Int32} {a4 : Int32} {a5 : Int32} {a6 : Int32} {a7 : Int32} {s : zS} {Q : Option Value → zS → Prop} (r35 : ∀ a1 a2 a3 a4 a5 a6 a7 s, R35 a1 a2 a3 a4 a5 a6 a7 s → Zn d [] [(3, 98)] ([(75, 0, 3), (75, 1, 21), (75, 2, 25)] : zW) ([(75, 0, 3), (75, 1, 21), (75, 2, 25)] : zW) xL_7 11 (some .int) xE_89 (xE_89.drop 35) [.ref 75, .int a1, .int a2, .int a3, .int a4, .int a5, .int a6, .int a7, .null, .null, .null, .null, .null, .null] [] s Q) (h : v_89_52 (fun j => Zt d (wd 3 j) j) 3 R35 a1 a2 a3 a4 a5 a6 a7 s Q) : Zn d [] [(3, 98)] ([(75, 0, 3), (75, 1, 21), (75, 2, 25)] : zW) ([(75, 0, 3), (75, 1, 21), (75, 2, 25)] : zW) xL_7 11 (some .int) xE_89 (xE_89.drop 52) [.ref 75, .int a1, .int a2, .int a3, .int a4, .int a5, .int a6, .int a7, .null, .null, .null, .null, .null, .null] [] s Q := by
  unfold v_89_52 at h
  refine zn_ld rfl rfl rfl ?_
  refine zn_get (v := .int (s.1 75 3)) rfl (zv_I (a := 75) rfl rfl) ?_
  refine zn_st [.ref 75, .int a1, .int a2, .int a3, .int a4, .int a5, .int a6, .int a7, .int (s.1 75 3), .null, .null, .null, .null, .null] rfl rfl rfl ?_
  refine zn_ld rfl rfl rfl ?_
  refine zn_ld rfl rfl rfl ?_
  refine zn_get (v := .ref 3) rfl (zv_C (a := 75) (n := 0) rfl rfl rfl) ?_
  refine zn_ld rfl rfl rfl ?_
  refine zn_ld rfl rfl rfl ?_
  replace h := h _ (i_add (x := a5) (y := a7) rfl rfl)
  refine zn_c [.int (a5 + a7), .ref 3, .ref 75] xo_iadd rfl rfl ?_
  refine zn_c [.int 3, .int (a5 + a7), .ref 3, .ref 75] (xo_push (.int 3)) rfl rfl ?_
  refine zn_zt [.ref 3, .int (a5 + a7), .int 3] [.ref 75] (c := []) rfl rfl rfl rfl rfl (Zt.imp (zp_42 hd (Or.inl rfl)) (fun vq sq hq => ?_))
  obtain ⟨rfl, hq⟩ := hq
  rw [hq]
  change Zn _ _ _ _ _ _ _ _ _ _ _ [.int (zg s 33 ((a5 + a7) * 5 + 3)), .ref 75] _ _
  refine zn_ld rfl rfl rfl ?_
  refine zn_get (v := .ref 80) rfl (zv_R (a := 75) rfl rfl) ?_
  refine zn_zt [.ref 75, .int (zg s 33 ((a5 + a7) * 5 + 3)), .ref 80] [] rfl rfl rfl rfl rfl (Zt.imp h (fun v3 s4 h => ?_))
  obtain ⟨x5, rfl, h⟩ := h
  change Zn _ _ _ _ _ _ _ _ _ _ _ [.int x5] _ _
  refine zn_st [.ref 75, .int a1, .int a2, .int a3, .int a4, .int a5, .int a6, .int a7, .int (s.1 75 3), .int x5, .null, .null, .null, .null] rfl rfl rfl ?_
  refine zn_ld rfl rfl rfl ?_
  refine zn_brP rfl rfl ⟨fun hcn => ?_, fun hcn => ?_⟩
  · replace h := h.1 ((i_le (x := 0) (y := x5) (show (0 : Int32).toInt = 0 by decide) rfl).mp hcn)
    refine zn_ld rfl rfl rfl ?_
    refine zn_ld rfl rfl rfl ?_
    refine zn_get (v := .ref 3) rfl (zv_C (a := 75) (n := 0) rfl rfl rfl) ?_
    refine zn_ld rfl rfl rfl ?_
    refine zn_ld rfl rfl rfl ?_
    replace h := h _ (i_add (x := a6) (y := a7) rfl rfl)
    refine zn_c [.int (a6 + a7), .ref 3, .ref 75] xo_iadd rfl rfl ?_
    refine zn_c [.int 3, .int (a6 + a7), .ref 3, .ref 75] (xo_push (.int 3)) rfl rfl ?_
    refine zn_zt [.ref 3, .int (a6 + a7), .int 3] [.ref 75] (c := []) rfl rfl rfl rfl rfl (Zt.imp (zp_42 hd (Or.inl rfl)) (fun vq sq hq => ?_))
    obtain ⟨rfl, hq⟩ := hq
    rw [hq]
    change Zn _ _ _ _ _ _ _ _ _ _ _ [.int (zg s4 33 ((a6 + a7) * 5 + 3)), .ref 75] _ _
    refine zn_ld rfl rfl rfl ?_
    refine zn_get (v := .ref 78) rfl (zv_R (a := 75) rfl rfl) ?_
    refine zn_zt [.ref 75, .int (zg s4 33 ((a6 + a7) * 5 + 3)), .ref 78] [] rfl rfl rfl rfl rfl (Zt.imp h (fun v8 s9 h => ?_))
    obtain ⟨x10, rfl, h⟩ := h
    change Zn _ _ _ _ _ _ _ _ _ _ _ [.int x10] _ _
    exact m_89_82_3 hd r35 h
  · replace h := h.2 (fun q => hcn ((i_le (x := 0) (y := x5) (show (0 : Int32).toInt = 0 by decide) rfl).mpr q))
    refine zn_c [.int (-1)] (xo_push (.int (-1))) rfl rfl ?_
    refine zn_go rfl ?_
    exact m_89_82_3 hd r35 h
set_option maxRecDepth 20000 in
theorem m_89_35_3 {d d0 : Nat} (hd : d = d0 + 8) {R35 : Int32 → Int32 → Int32 → Int32 → Int32 → Int32 → Int32 → zS → Prop} {a1 : Int32} {a2 : Int32} {a3 : Int32} {a4 : Int32} {a5 : Int32} {a6 : Int32} {a7 : Int32} {s : zS} {Q : Option Value → zS → Prop} (r35 : ∀ a1 a2 a3 a4 a5 a6 a7 s, R35 a1 a2 a3 a4 a5 a6 a7 s → Zn d [] [(3, 98)] ([(75, 0, 3), (75, 1, 21), (75, 2, 25)] : zW) ([(75, 0, 3), (75, 1, 21), (75, 2, 25)] : zW) xL_7 11 (some .int) xE_89 (xE_89.drop 35) [.ref 75, .int a1, .int a2, .int a3, .int a4, .int a5, .int a6, .int a7, .null, .null, .null, .null, .null, .null] [] s Q) (h : v_89_35 (fun j => Zt d (wd 3 j) j) 3 R35 a1 a2 a3 a4 a5 a6 a7 s Q) : Zn d [] [(3, 98)] ([(75, 0, 3), (75, 1, 21), (75, 2, 25)] : zW) ([(75, 0, 3), (75, 1, 21), (75, 2, 25)] : zW) xL_7 11 (some .int) xE_89 (xE_89.drop 35) [.ref 75, .int a1, .int a2, .int a3, .int a4, .int a5, .int a6, .int a7, .null, .null, .null, .null, .null, .null] [] s Q := by
  unfold v_89_35 at h
  refine zn_ld rfl rfl rfl ?_
  refine zn_ld rfl rfl rfl ?_
  refine zn_ld rfl rfl rfl ?_
  replace h := h _ (i_add (x := a3) (y := a4) rfl rfl)
  refine zn_c [.int (a3 + a4), .int a7] xo_iadd rfl rfl ?_
  refine zn_brP rfl rfl ⟨fun hcn => ?_, fun hcn => ?_⟩
  · replace h := h.1 ((i_lt (x := (a3 + a4)) (y := a7) rfl rfl).mp hcn)
    refine zn_c [.int 0] (xo_push (.int 0)) rfl rfl ?_
    exact zn_retI rfl h
  · replace h := h.2 (fun q => hcn ((i_lt (x := (a3 + a4)) (y := a7) rfl rfl).mpr q))
    refine zn_ld rfl rfl rfl ?_
    refine zn_ld rfl rfl rfl ?_
    refine zn_brN rfl rfl ⟨fun hcn => ?_, fun hcn => ?_⟩
    · replace h := h.1 (fun q => hcn ((i_eq (x := a7) (y := a3) rfl rfl).mpr q))
      exact m_89_52_3 hd r35 h
    · replace h := h.2 ((i_eq (x := a7) (y := a3) rfl rfl).mp hcn)
      refine zn_ld rfl rfl rfl ?_
      refine zn_ld rfl rfl rfl ?_
      refine zn_get (v := .ref 3) rfl (zv_C (a := 75) (n := 0) rfl rfl rfl) ?_
      refine zn_ld rfl rfl rfl ?_
      refine zn_c [.int 4, .int a2, .ref 3, .int a4] (xo_push (.int 4)) rfl rfl ?_
      refine zn_zt [.ref 3, .int a2, .int 4] [.int a4] (c := []) rfl rfl rfl rfl rfl (Zt.imp (zp_41 hd (Or.inl rfl)) (fun vq sq hq => ?_))
      obtain ⟨rfl, hq⟩ := hq
      rw [hq]
      change Zn _ _ _ _ _ _ _ _ _ _ _ [.int (zg s 31 (a2 * 5 + 4)), .int a4] _ _
      refine zn_brP rfl rfl ⟨fun hcn => ?_, fun hcn => ?_⟩
      · replace h := h.1 ((i_eq (x := a4) (y := zg s 31 (a2 * 5 + 4)) rfl rfl).mp hcn)
        exact m_89_52_3 hd r35 h
      · replace h := h.2 (fun q => hcn ((i_eq (x := a4) (y := zg s 31 (a2 * 5 + 4)) rfl rfl).mpr q))
        refine zn_c [.int 7] (xo_push (.int 7)) rfl rfl ?_
        exact zn_retI rfl h
theorem ml_89_35_3 {d d0 : Nat} (hd : d = d0 + 8)  {a1 : Int32} {a2 : Int32} {a3 : Int32} {a4 : Int32} {a5 : Int32} {a6 : Int32} {a7 : Int32} {s : zS} {Q : Option Value → zS → Prop}  (h : vl_89_35 (fun j => Zt d (wd 3 j) j) 3  a1 a2 a3 a4 a5 a6 a7 s Q) : Zn d [] [(3, 98)] ([(75, 0, 3), (75, 1, 21), (75, 2, 25)] : zW) ([(75, 0, 3), (75, 1, 21), (75, 2, 25)] : zW) xL_7 11 (some .int) xE_89 (xE_89.drop 35) [.ref 75, .int a1, .int a2, .int a3, .int a4, .int a5, .int a6, .int a7, .null, .null, .null, .null, .null, .null] [] s Q := by
  obtain ⟨I, μ, h0, h1⟩ := h
  have key : ∀ (n : Nat) (a1 : Int32) (a2 : Int32) (a3 : Int32) (a4 : Int32) (a5 : Int32) (a6 : Int32) (a7 : Int32) (s : zS), μ a1 a2 a3 a4 a5 a6 a7 s = n → I a1 a2 a3 a4 a5 a6 a7 s → Zn d [] [(3, 98)] ([(75, 0, 3), (75, 1, 21), (75, 2, 25)] : zW) ([(75, 0, 3), (75, 1, 21), (75, 2, 25)] : zW) xL_7 11 (some .int) xE_89 (xE_89.drop 35) [.ref 75, .int a1, .int a2, .int a3, .int a4, .int a5, .int a6, .int a7, .null, .null, .null, .null, .null, .null] [] s Q := by
    intro n
    induction n using Nat.strongRecOn with
    | ind n ih =>
      intro a1 a2 a3 a4 a5 a6 a7 s e hI
      exact m_89_35_3 hd (fun a1' a2' a3' a4' a5' a6' a7' s' q => ih _ (by rw [← e]; exact q.2) a1' a2' a3' a4' a5' a6' a7' s' rfl q.1) (h1 a1 a2 a3 a4 a5 a6 a7 s hI)
  exact key _ a1 a2 a3 a4 a5 a6 a7 s rfl h0
set_option maxRecDepth 20000 in
theorem m_89_0_3 {d d0 : Nat} (hd : d = d0 + 8)  {a1 : Int32} {a2 : Int32} {s : zS} {Q : Option Value → zS → Prop}  (h : v_89_0 (fun j => Zt d (wd 3 j) j) 3  a1 a2 s Q) : Zn d [] [(3, 98)] ([(75, 0, 3), (75, 1, 21), (75, 2, 25)] : zW) ([(75, 0, 3), (75, 1, 21), (75, 2, 25)] : zW) xL_7 11 (some .int) xE_89 (xE_89.drop 0) [.ref 75, .int a1, .int a2, .null, .null, .null, .null, .null, .null, .null, .null, .null, .null, .null] [] s Q := by
  unfold v_89_0 at h
  refine zn_ld rfl rfl rfl ?_
  refine zn_get (v := .ref 3) rfl (zv_C (a := 75) (n := 0) rfl rfl rfl) ?_
  refine zn_ld rfl rfl rfl ?_
  refine zn_c [.int 3, .int a1, .ref 3] (xo_push (.int 3)) rfl rfl ?_
  refine zn_zt [.ref 3, .int a1, .int 3] [] (c := []) rfl rfl rfl rfl rfl (Zt.imp (zp_41 hd (Or.inl rfl)) (fun vq sq hq => ?_))
  obtain ⟨rfl, hq⟩ := hq
  rw [hq]
  change Zn _ _ _ _ _ _ _ _ _ _ _ [.int (zg s 31 (a1 * 5 + 3))] _ _
  refine zn_st [.ref 75, .int a1, .int a2, .int (zg s 31 (a1 * 5 + 3)), .null, .null, .null, .null, .null, .null, .null, .null, .null, .null] rfl rfl rfl ?_
  refine zn_ld rfl rfl rfl ?_
  refine zn_get (v := .ref 3) rfl (zv_C (a := 75) (n := 0) rfl rfl rfl) ?_
  refine zn_ld rfl rfl rfl ?_
  refine zn_c [.int 4, .int a1, .ref 3] (xo_push (.int 4)) rfl rfl ?_
  refine zn_zt [.ref 3, .int a1, .int 4] [] (c := []) rfl rfl rfl rfl rfl (Zt.imp (zp_41 hd (Or.inl rfl)) (fun vq sq hq => ?_))
  obtain ⟨rfl, hq⟩ := hq
  rw [hq]
  change Zn _ _ _ _ _ _ _ _ _ _ _ [.int (zg s 31 (a1 * 5 + 4))] _ _
  refine zn_st [.ref 75, .int a1, .int a2, .int (zg s 31 (a1 * 5 + 3)), .int (zg s 31 (a1 * 5 + 4)), .null, .null, .null, .null, .null, .null, .null, .null, .null] rfl rfl rfl ?_
  refine zn_ld rfl rfl rfl ?_
  refine zn_ld rfl rfl rfl ?_
  refine zn_get (v := .ref 3) rfl (zv_C (a := 75) (n := 0) rfl rfl rfl) ?_
  refine zn_ld rfl rfl rfl ?_
  refine zn_c [.int 3, .int a2, .ref 3, .int (zg s 31 (a1 * 5 + 3))] (xo_push (.int 3)) rfl rfl ?_
  refine zn_zt [.ref 3, .int a2, .int 3] [.int (zg s 31 (a1 * 5 + 3))] (c := []) rfl rfl rfl rfl rfl (Zt.imp (zp_41 hd (Or.inl rfl)) (fun vq sq hq => ?_))
  obtain ⟨rfl, hq⟩ := hq
  rw [hq]
  change Zn _ _ _ _ _ _ _ _ _ _ _ [.int (zg s 31 (a2 * 5 + 3)), .int (zg s 31 (a1 * 5 + 3))] _ _
  refine zn_brP rfl rfl ⟨fun hcn => ?_, fun hcn => ?_⟩
  · replace h := h.1 ((i_eq (x := zg s 31 (a1 * 5 + 3)) (y := zg s 31 (a2 * 5 + 3)) rfl rfl).mp hcn)
    refine zn_ld rfl rfl rfl ?_
    refine zn_get (v := .ref 3) rfl (zv_C (a := 75) (n := 0) rfl rfl rfl) ?_
    refine zn_ld rfl rfl rfl ?_
    refine zn_c [.int 2, .int a1, .ref 3] (xo_push (.int 2)) rfl rfl ?_
    refine zn_zt [.ref 3, .int a1, .int 2] [] (c := []) rfl rfl rfl rfl rfl (Zt.imp (zp_41 hd (Or.inl rfl)) (fun vq sq hq => ?_))
    obtain ⟨rfl, hq⟩ := hq
    rw [hq]
    change Zn _ _ _ _ _ _ _ _ _ _ _ [.int (zg s 31 (a1 * 5 + 2))] _ _
    refine zn_st [.ref 75, .int a1, .int a2, .int (zg s 31 (a1 * 5 + 3)), .int (zg s 31 (a1 * 5 + 4)), .int (zg s 31 (a1 * 5 + 2)), .null, .null, .null, .null, .null, .null, .null, .null] rfl rfl rfl ?_
    refine zn_ld rfl rfl rfl ?_
    refine zn_get (v := .ref 3) rfl (zv_C (a := 75) (n := 0) rfl rfl rfl) ?_
    refine zn_ld rfl rfl rfl ?_
    refine zn_c [.int 2, .int a2, .ref 3] (xo_push (.int 2)) rfl rfl ?_
    refine zn_zt [.ref 3, .int a2, .int 2] [] (c := []) rfl rfl rfl rfl rfl (Zt.imp (zp_41 hd (Or.inl rfl)) (fun vq sq hq => ?_))
    obtain ⟨rfl, hq⟩ := hq
    rw [hq]
    change Zn _ _ _ _ _ _ _ _ _ _ _ [.int (zg s 31 (a2 * 5 + 2))] _ _
    refine zn_st [.ref 75, .int a1, .int a2, .int (zg s 31 (a1 * 5 + 3)), .int (zg s 31 (a1 * 5 + 4)), .int (zg s 31 (a1 * 5 + 2)), .int (zg s 31 (a2 * 5 + 2)), .null, .null, .null, .null, .null, .null, .null] rfl rfl rfl ?_
    refine zn_c [.int 0] (xo_push (.int 0)) rfl rfl ?_
    refine zn_st [.ref 75, .int a1, .int a2, .int (zg s 31 (a1 * 5 + 3)), .int (zg s 31 (a1 * 5 + 4)), .int (zg s 31 (a1 * 5 + 2)), .int (zg s 31 (a2 * 5 + 2)), .int 0, .null, .null, .null, .null, .null, .null] rfl rfl rfl ?_
    exact ml_89_35_3 hd  h
  · replace h := h.2 (fun q => hcn ((i_eq (x := zg s 31 (a1 * 5 + 3)) (y := zg s 31 (a2 * 5 + 3)) rfl rfl).mpr q))
    refine zn_c [.int 7] (xo_push (.int 7)) rfl rfl ?_
    exact zn_retI rfl h
theorem zq_89_3 {d : Nat} {a1 : Int32} {a2 : Int32} {s : zS} {Q : Option Value → zS → Prop} (h : v_89_0 (fun j => Zt (d + 8) (wd 3 j) j) 3 a1 a2 s Q) : Zt (d + 9) ([(75, 0, 3), (75, 1, 21), (75, 2, 25)] : zW) 89 [.ref 75, .int a1, .int a2] s Q := zt_of (E := xE_89) (L := xL_7) (ml := 11) (ret := some .int) rfl rfl rfl (m_89_0_3 rfl h)
set_option maxRecDepth 20000 in
theorem m_89_82_39 {d d0 : Nat} (hd : d = d0 + 8) {R35 : Int32 → Int32 → Int32 → Int32 → Int32 → Int32 → Int32 → zS → Prop} {a1 : Int32} {a2 : Int32} {a3 : Int32} {a4 : Int32} {a5 : Int32} {a6 : Int32} {a7 : Int32} {a8 : Int32} {a9 : Int32} {t0 : Int32} {s : zS} {Q : Option Value → zS → Prop} (r35 : ∀ a1 a2 a3 a4 a5 a6 a7 s, R35 a1 a2 a3 a4 a5 a6 a7 s → Zn d [] [(39, 98)] ([(75, 0, 39), (75, 1, 57), (75, 2, 61)] : zW) ([(75, 0, 39), (75, 1, 57), (75, 2, 61)] : zW) xL_7 11 (some .int) xE_89 (xE_89.drop 35) [.ref 75, .int a1, .int a2, .int a3, .int a4, .int a5, .int a6, .int a7, .null, .null, .null, .null, .null, .null] [] s Q) (h : v_89_82 (fun j => Zt d (wd 39 j) j) 39 R35 a1 a2 a3 a4 a5 a6 a7 a8 a9 t0 s Q) : Zn d [] [(39, 98)] ([(75, 0, 39), (75, 1, 57), (75, 2, 61)] : zW) ([(75, 0, 39), (75, 1, 57), (75, 2, 61)] : zW) xL_7 11 (some .int) xE_89 (xE_89.drop 82) [.ref 75, .int a1, .int a2, .int a3, .int a4, .int a5, .int a6, .int a7, .int a8, .int a9, .null, .null, .null, .null] [.int t0] s Q := by
  unfold v_89_82 at h
  refine zn_st [.ref 75, .int a1, .int a2, .int a3, .int a4, .int a5, .int a6, .int a7, .int a8, .int a9, .int t0, .null, .null, .null] rfl rfl rfl ?_
  refine zn_ld rfl rfl rfl ?_
  refine zn_ld rfl rfl rfl ?_
  refine zn_putI (a := 75) rfl rfl rfl rfl ⟨Int32.le_toInt _, Int.le_of_lt_add_one (Int32.toInt_lt _)⟩ rfl rfl rfl ?_
  replace h := h _ rfl
  refine zn_ld rfl rfl rfl ?_
  refine zn_brP rfl rfl ⟨fun hcn => ?_, fun hcn => ?_⟩
  · replace h := h.1 ((i_le (x := 0) (y := t0) (show (0 : Int32).toInt = 0 by decide) rfl).mp hcn)
    refine zn_ld rfl rfl rfl ?_
    refine zn_ld rfl rfl rfl ?_
    refine zn_ld rfl rfl rfl ?_
    refine zn_zt [.ref 75, .int a9, .int t0] [] rfl rfl rfl rfl rfl (Zt.imp h (fun v2 s3 h => ?_))
    obtain ⟨x4, rfl, h⟩ := h
    change Zn _ _ _ _ _ _ _ _ _ _ _ [.int x4] _ _
    refine zn_brN rfl rfl ⟨fun hcn => ?_, fun hcn => ?_⟩
    · replace h := h.1 (fun q => hcn ((i_eq (x := x4) (y := 0) rfl (show (0 : Int32).toInt = 0 by decide)).mpr q))
      replace h := h _ (i_add (x := a7) (y := 1) rfl (show (1 : Int32).toInt = 1 by decide))
      refine zn_inc [.ref 75, .int a1, .int a2, .int a3, .int a4, .int a5, .int a6, .int (a7 + 1), .int a8, .int a9, .int t0, .null, .null, .null] rfl rfl rfl rfl ?_
      refine zn_go rfl ?_
      refine zn_fg 8 ?_
      refine zn_fg 9 ?_
      refine zn_fg 10 ?_
      exact r35 a1 a2 a3 a4 a5 a6 (a7 + 1) s3 h
    · replace h := h.2 ((i_eq (x := x4) (y := 0) rfl (show (0 : Int32).toInt = 0 by decide)).mp hcn)
      refine zn_c [.int 7] (xo_push (.int 7)) rfl rfl ?_
      exact zn_retI rfl h
  · replace h := h.2 (fun q => hcn ((i_le (x := 0) (y := t0) (show (0 : Int32).toInt = 0 by decide) rfl).mpr q))
    refine zn_c [.int 9] (xo_push (.int 9)) rfl rfl ?_
    exact zn_retI rfl h
set_option maxRecDepth 20000 in
theorem m_89_52_39 {d d0 : Nat} (hd : d = d0 + 8) {R35 : Int32 → Int32 → Int32 → Int32 → Int32 → Int32 → Int32 → zS → Prop} {a1 : Int32} {a2 : Int32} {a3 : Int32} {a4 : Int32} {a5 : Int32} {a6 : Int32} {a7 : Int32} {s : zS} {Q : Option Value → zS → Prop} (r35 : ∀ a1 a2 a3 a4 a5 a6 a7 s, R35 a1 a2 a3 a4 a5 a6 a7 s → Zn d [] [(39, 98)] ([(75, 0, 39), (75, 1, 57), (75, 2, 61)] : zW) ([(75, 0, 39), (75, 1, 57), (75, 2, 61)] : zW) xL_7 11 (some .int) xE_89 (xE_89.drop 35) [.ref 75, .int a1, .int a2, .int a3, .int a4, .int a5, .int a6, .int a7, .null, .null, .null, .null, .null, .null] [] s Q) (h : v_89_52 (fun j => Zt d (wd 39 j) j) 39 R35 a1 a2 a3 a4 a5 a6 a7 s Q) : Zn d [] [(39, 98)] ([(75, 0, 39), (75, 1, 57), (75, 2, 61)] : zW) ([(75, 0, 39), (75, 1, 57), (75, 2, 61)] : zW) xL_7 11 (some .int) xE_89 (xE_89.drop 52) [.ref 75, .int a1, .int a2, .int a3, .int a4, .int a5, .int a6, .int a7, .null, .null, .null, .null, .null, .null] [] s Q := by
  unfold v_89_52 at h
  refine zn_ld rfl rfl rfl ?_
  refine zn_get (v := .int (s.1 75 3)) rfl (zv_I (a := 75) rfl rfl) ?_
  refine zn_st [.ref 75, .int a1, .int a2, .int a3, .int a4, .int a5, .int a6, .int a7, .int (s.1 75 3), .null, .null, .null, .null, .null] rfl rfl rfl ?_
  refine zn_ld rfl rfl rfl ?_
  refine zn_ld rfl rfl rfl ?_
  refine zn_get (v := .ref 39) rfl (zv_C (a := 75) (n := 0) rfl rfl rfl) ?_
  refine zn_ld rfl rfl rfl ?_
  refine zn_ld rfl rfl rfl ?_
  replace h := h _ (i_add (x := a5) (y := a7) rfl rfl)
  refine zn_c [.int (a5 + a7), .ref 39, .ref 75] xo_iadd rfl rfl ?_
  refine zn_c [.int 3, .int (a5 + a7), .ref 39, .ref 75] (xo_push (.int 3)) rfl rfl ?_
  refine zn_zt [.ref 39, .int (a5 + a7), .int 3] [.ref 75] (c := []) rfl rfl rfl rfl rfl (Zt.imp (zp_42 hd (Or.inr rfl)) (fun vq sq hq => ?_))
  obtain ⟨rfl, hq⟩ := hq
  rw [hq]
  change Zn _ _ _ _ _ _ _ _ _ _ _ [.int (zg s 69 ((a5 + a7) * 5 + 3)), .ref 75] _ _
  refine zn_ld rfl rfl rfl ?_
  refine zn_get (v := .ref 80) rfl (zv_R (a := 75) rfl rfl) ?_
  refine zn_zt [.ref 75, .int (zg s 69 ((a5 + a7) * 5 + 3)), .ref 80] [] rfl rfl rfl rfl rfl (Zt.imp h (fun v3 s4 h => ?_))
  obtain ⟨x5, rfl, h⟩ := h
  change Zn _ _ _ _ _ _ _ _ _ _ _ [.int x5] _ _
  refine zn_st [.ref 75, .int a1, .int a2, .int a3, .int a4, .int a5, .int a6, .int a7, .int (s.1 75 3), .int x5, .null, .null, .null, .null] rfl rfl rfl ?_
  refine zn_ld rfl rfl rfl ?_
  refine zn_brP rfl rfl ⟨fun hcn => ?_, fun hcn => ?_⟩
  · replace h := h.1 ((i_le (x := 0) (y := x5) (show (0 : Int32).toInt = 0 by decide) rfl).mp hcn)
    refine zn_ld rfl rfl rfl ?_
    refine zn_ld rfl rfl rfl ?_
    refine zn_get (v := .ref 39) rfl (zv_C (a := 75) (n := 0) rfl rfl rfl) ?_
    refine zn_ld rfl rfl rfl ?_
    refine zn_ld rfl rfl rfl ?_
    replace h := h _ (i_add (x := a6) (y := a7) rfl rfl)
    refine zn_c [.int (a6 + a7), .ref 39, .ref 75] xo_iadd rfl rfl ?_
    refine zn_c [.int 3, .int (a6 + a7), .ref 39, .ref 75] (xo_push (.int 3)) rfl rfl ?_
    refine zn_zt [.ref 39, .int (a6 + a7), .int 3] [.ref 75] (c := []) rfl rfl rfl rfl rfl (Zt.imp (zp_42 hd (Or.inr rfl)) (fun vq sq hq => ?_))
    obtain ⟨rfl, hq⟩ := hq
    rw [hq]
    change Zn _ _ _ _ _ _ _ _ _ _ _ [.int (zg s4 69 ((a6 + a7) * 5 + 3)), .ref 75] _ _
    refine zn_ld rfl rfl rfl ?_
    refine zn_get (v := .ref 78) rfl (zv_R (a := 75) rfl rfl) ?_
    refine zn_zt [.ref 75, .int (zg s4 69 ((a6 + a7) * 5 + 3)), .ref 78] [] rfl rfl rfl rfl rfl (Zt.imp h (fun v8 s9 h => ?_))
    obtain ⟨x10, rfl, h⟩ := h
    change Zn _ _ _ _ _ _ _ _ _ _ _ [.int x10] _ _
    exact m_89_82_39 hd r35 h
  · replace h := h.2 (fun q => hcn ((i_le (x := 0) (y := x5) (show (0 : Int32).toInt = 0 by decide) rfl).mpr q))
    refine zn_c [.int (-1)] (xo_push (.int (-1))) rfl rfl ?_
    refine zn_go rfl ?_
    exact m_89_82_39 hd r35 h
set_option maxRecDepth 20000 in
theorem m_89_35_39 {d d0 : Nat} (hd : d = d0 + 8) {R35 : Int32 → Int32 → Int32 → Int32 → Int32 → Int32 → Int32 → zS → Prop} {a1 : Int32} {a2 : Int32} {a3 : Int32} {a4 : Int32} {a5 : Int32} {a6 : Int32} {a7 : Int32} {s : zS} {Q : Option Value → zS → Prop} (r35 : ∀ a1 a2 a3 a4 a5 a6 a7 s, R35 a1 a2 a3 a4 a5 a6 a7 s → Zn d [] [(39, 98)] ([(75, 0, 39), (75, 1, 57), (75, 2, 61)] : zW) ([(75, 0, 39), (75, 1, 57), (75, 2, 61)] : zW) xL_7 11 (some .int) xE_89 (xE_89.drop 35) [.ref 75, .int a1, .int a2, .int a3, .int a4, .int a5, .int a6, .int a7, .null, .null, .null, .null, .null, .null] [] s Q) (h : v_89_35 (fun j => Zt d (wd 39 j) j) 39 R35 a1 a2 a3 a4 a5 a6 a7 s Q) : Zn d [] [(39, 98)] ([(75, 0, 39), (75, 1, 57), (75, 2, 61)] : zW) ([(75, 0, 39), (75, 1, 57), (75, 2, 61)] : zW) xL_7 11 (some .int) xE_89 (xE_89.drop 35) [.ref 75, .int a1, .int a2, .int a3, .int a4, .int a5, .int a6, .int a7, .null, .null, .null, .null, .null, .null] [] s Q := by
  unfold v_89_35 at h
  refine zn_ld rfl rfl rfl ?_
  refine zn_ld rfl rfl rfl ?_
  refine zn_ld rfl rfl rfl ?_
  replace h := h _ (i_add (x := a3) (y := a4) rfl rfl)
  refine zn_c [.int (a3 + a4), .int a7] xo_iadd rfl rfl ?_
  refine zn_brP rfl rfl ⟨fun hcn => ?_, fun hcn => ?_⟩
  · replace h := h.1 ((i_lt (x := (a3 + a4)) (y := a7) rfl rfl).mp hcn)
    refine zn_c [.int 0] (xo_push (.int 0)) rfl rfl ?_
    exact zn_retI rfl h
  · replace h := h.2 (fun q => hcn ((i_lt (x := (a3 + a4)) (y := a7) rfl rfl).mpr q))
    refine zn_ld rfl rfl rfl ?_
    refine zn_ld rfl rfl rfl ?_
    refine zn_brN rfl rfl ⟨fun hcn => ?_, fun hcn => ?_⟩
    · replace h := h.1 (fun q => hcn ((i_eq (x := a7) (y := a3) rfl rfl).mpr q))
      exact m_89_52_39 hd r35 h
    · replace h := h.2 ((i_eq (x := a7) (y := a3) rfl rfl).mp hcn)
      refine zn_ld rfl rfl rfl ?_
      refine zn_ld rfl rfl rfl ?_
      refine zn_get (v := .ref 39) rfl (zv_C (a := 75) (n := 0) rfl rfl rfl) ?_
      refine zn_ld rfl rfl rfl ?_
      refine zn_c [.int 4, .int a2, .ref 39, .int a4] (xo_push (.int 4)) rfl rfl ?_
      refine zn_zt [.ref 39, .int a2, .int 4] [.int a4] (c := []) rfl rfl rfl rfl rfl (Zt.imp (zp_41 hd (Or.inr rfl)) (fun vq sq hq => ?_))
      obtain ⟨rfl, hq⟩ := hq
      rw [hq]
      change Zn _ _ _ _ _ _ _ _ _ _ _ [.int (zg s 67 (a2 * 5 + 4)), .int a4] _ _
      refine zn_brP rfl rfl ⟨fun hcn => ?_, fun hcn => ?_⟩
      · replace h := h.1 ((i_eq (x := a4) (y := zg s 67 (a2 * 5 + 4)) rfl rfl).mp hcn)
        exact m_89_52_39 hd r35 h
      · replace h := h.2 (fun q => hcn ((i_eq (x := a4) (y := zg s 67 (a2 * 5 + 4)) rfl rfl).mpr q))
        refine zn_c [.int 7] (xo_push (.int 7)) rfl rfl ?_
        exact zn_retI rfl h
theorem ml_89_35_39 {d d0 : Nat} (hd : d = d0 + 8)  {a1 : Int32} {a2 : Int32} {a3 : Int32} {a4 : Int32} {a5 : Int32} {a6 : Int32} {a7 : Int32} {s : zS} {Q : Option Value → zS → Prop}  (h : vl_89_35 (fun j => Zt d (wd 39 j) j) 39  a1 a2 a3 a4 a5 a6 a7 s Q) : Zn d [] [(39, 98)] ([(75, 0, 39), (75, 1, 57), (75, 2, 61)] : zW) ([(75, 0, 39), (75, 1, 57), (75, 2, 61)] : zW) xL_7 11 (some .int) xE_89 (xE_89.drop 35) [.ref 75, .int a1, .int a2, .int a3, .int a4, .int a5, .int a6, .int a7, .null, .null, .null, .null, .null, .null] [] s Q := by
  obtain ⟨I, μ, h0, h1⟩ := h
  have key : ∀ (n : Nat) (a1 : Int32) (a2 : Int32) (a3 : Int32) (a4 : Int32) (a5 : Int32) (a6 : Int32) (a7 : Int32) (s : zS), μ a1 a2 a3 a4 a5 a6 a7 s = n → I a1 a2 a3 a4 a5 a6 a7 s → Zn d [] [(39, 98)] ([(75, 0, 39), (75, 1, 57), (75, 2, 61)] : zW) ([(75, 0, 39), (75, 1, 57), (75, 2, 61)] : zW) xL_7 11 (some .int) xE_89 (xE_89.drop 35) [.ref 75, .int a1, .int a2, .int a3, .int a4, .int a5, .int a6, .int a7, .null, .null, .null, .null, .null, .null] [] s Q := by
    intro n
    induction n using Nat.strongRecOn with
    | ind n ih =>
      intro a1 a2 a3 a4 a5 a6 a7 s e hI
      exact m_89_35_39 hd (fun a1' a2' a3' a4' a5' a6' a7' s' q => ih _ (by rw [← e]; exact q.2) a1' a2' a3' a4' a5' a6' a7' s' rfl q.1) (h1 a1 a2 a3 a4 a5 a6 a7 s hI)
  exact key _ a1 a2 a3 a4 a5 a6 a7 s rfl h0
set_option maxRecDepth 20000 in
theorem m_89_0_39 {d d0 : Nat} (hd : d = d0 + 8)  {a1 : Int32} {a2 : Int32} {s : zS} {Q : Option Value → zS → Prop}  (h : v_89_0 (fun j => Zt d (wd 39 j) j) 39  a1 a2 s Q) : Zn d [] [(39, 98)] ([(75, 0, 39), (75, 1, 57), (75, 2, 61)] : zW) ([(75, 0, 39), (75, 1, 57), (75, 2, 61)] : zW) xL_7 11 (some .int) xE_89 (xE_89.drop 0) [.ref 75, .int a1, .int a2, .null, .null, .null, .null, .null, .null, .null, .null, .null, .null, .null] [] s Q := by
  unfold v_89_0 at h
  refine zn_ld rfl rfl rfl ?_
  refine zn_get (v := .ref 39) rfl (zv_C (a := 75) (n := 0) rfl rfl rfl) ?_
  refine zn_ld rfl rfl rfl ?_
  refine zn_c [.int 3, .int a1, .ref 39] (xo_push (.int 3)) rfl rfl ?_
  refine zn_zt [.ref 39, .int a1, .int 3] [] (c := []) rfl rfl rfl rfl rfl (Zt.imp (zp_41 hd (Or.inr rfl)) (fun vq sq hq => ?_))
  obtain ⟨rfl, hq⟩ := hq
  rw [hq]
  change Zn _ _ _ _ _ _ _ _ _ _ _ [.int (zg s 67 (a1 * 5 + 3))] _ _
  refine zn_st [.ref 75, .int a1, .int a2, .int (zg s 67 (a1 * 5 + 3)), .null, .null, .null, .null, .null, .null, .null, .null, .null, .null] rfl rfl rfl ?_
  refine zn_ld rfl rfl rfl ?_
  refine zn_get (v := .ref 39) rfl (zv_C (a := 75) (n := 0) rfl rfl rfl) ?_
  refine zn_ld rfl rfl rfl ?_
  refine zn_c [.int 4, .int a1, .ref 39] (xo_push (.int 4)) rfl rfl ?_
  refine zn_zt [.ref 39, .int a1, .int 4] [] (c := []) rfl rfl rfl rfl rfl (Zt.imp (zp_41 hd (Or.inr rfl)) (fun vq sq hq => ?_))
  obtain ⟨rfl, hq⟩ := hq
  rw [hq]
  change Zn _ _ _ _ _ _ _ _ _ _ _ [.int (zg s 67 (a1 * 5 + 4))] _ _
  refine zn_st [.ref 75, .int a1, .int a2, .int (zg s 67 (a1 * 5 + 3)), .int (zg s 67 (a1 * 5 + 4)), .null, .null, .null, .null, .null, .null, .null, .null, .null] rfl rfl rfl ?_
  refine zn_ld rfl rfl rfl ?_
  refine zn_ld rfl rfl rfl ?_
  refine zn_get (v := .ref 39) rfl (zv_C (a := 75) (n := 0) rfl rfl rfl) ?_
  refine zn_ld rfl rfl rfl ?_
  refine zn_c [.int 3, .int a2, .ref 39, .int (zg s 67 (a1 * 5 + 3))] (xo_push (.int 3)) rfl rfl ?_
  refine zn_zt [.ref 39, .int a2, .int 3] [.int (zg s 67 (a1 * 5 + 3))] (c := []) rfl rfl rfl rfl rfl (Zt.imp (zp_41 hd (Or.inr rfl)) (fun vq sq hq => ?_))
  obtain ⟨rfl, hq⟩ := hq
  rw [hq]
  change Zn _ _ _ _ _ _ _ _ _ _ _ [.int (zg s 67 (a2 * 5 + 3)), .int (zg s 67 (a1 * 5 + 3))] _ _
  refine zn_brP rfl rfl ⟨fun hcn => ?_, fun hcn => ?_⟩
  · replace h := h.1 ((i_eq (x := zg s 67 (a1 * 5 + 3)) (y := zg s 67 (a2 * 5 + 3)) rfl rfl).mp hcn)
    refine zn_ld rfl rfl rfl ?_
    refine zn_get (v := .ref 39) rfl (zv_C (a := 75) (n := 0) rfl rfl rfl) ?_
    refine zn_ld rfl rfl rfl ?_
    refine zn_c [.int 2, .int a1, .ref 39] (xo_push (.int 2)) rfl rfl ?_
    refine zn_zt [.ref 39, .int a1, .int 2] [] (c := []) rfl rfl rfl rfl rfl (Zt.imp (zp_41 hd (Or.inr rfl)) (fun vq sq hq => ?_))
    obtain ⟨rfl, hq⟩ := hq
    rw [hq]
    change Zn _ _ _ _ _ _ _ _ _ _ _ [.int (zg s 67 (a1 * 5 + 2))] _ _
    refine zn_st [.ref 75, .int a1, .int a2, .int (zg s 67 (a1 * 5 + 3)), .int (zg s 67 (a1 * 5 + 4)), .int (zg s 67 (a1 * 5 + 2)), .null, .null, .null, .null, .null, .null, .null, .null] rfl rfl rfl ?_
    refine zn_ld rfl rfl rfl ?_
    refine zn_get (v := .ref 39) rfl (zv_C (a := 75) (n := 0) rfl rfl rfl) ?_
    refine zn_ld rfl rfl rfl ?_
    refine zn_c [.int 2, .int a2, .ref 39] (xo_push (.int 2)) rfl rfl ?_
    refine zn_zt [.ref 39, .int a2, .int 2] [] (c := []) rfl rfl rfl rfl rfl (Zt.imp (zp_41 hd (Or.inr rfl)) (fun vq sq hq => ?_))
    obtain ⟨rfl, hq⟩ := hq
    rw [hq]
    change Zn _ _ _ _ _ _ _ _ _ _ _ [.int (zg s 67 (a2 * 5 + 2))] _ _
    refine zn_st [.ref 75, .int a1, .int a2, .int (zg s 67 (a1 * 5 + 3)), .int (zg s 67 (a1 * 5 + 4)), .int (zg s 67 (a1 * 5 + 2)), .int (zg s 67 (a2 * 5 + 2)), .null, .null, .null, .null, .null, .null, .null] rfl rfl rfl ?_
    refine zn_c [.int 0] (xo_push (.int 0)) rfl rfl ?_
    refine zn_st [.ref 75, .int a1, .int a2, .int (zg s 67 (a1 * 5 + 3)), .int (zg s 67 (a1 * 5 + 4)), .int (zg s 67 (a1 * 5 + 2)), .int (zg s 67 (a2 * 5 + 2)), .int 0, .null, .null, .null, .null, .null, .null] rfl rfl rfl ?_
    exact ml_89_35_39 hd  h
  · replace h := h.2 (fun q => hcn ((i_eq (x := zg s 67 (a1 * 5 + 3)) (y := zg s 67 (a2 * 5 + 3)) rfl rfl).mpr q))
    refine zn_c [.int 7] (xo_push (.int 7)) rfl rfl ?_
    exact zn_retI rfl h
theorem zq_89_39 {d : Nat} {a1 : Int32} {a2 : Int32} {s : zS} {Q : Option Value → zS → Prop} (h : v_89_0 (fun j => Zt (d + 8) (wd 39 j) j) 39 a1 a2 s Q) : Zt (d + 9) ([(75, 0, 39), (75, 1, 57), (75, 2, 61)] : zW) 89 [.ref 75, .int a1, .int a2] s Q := zt_of (E := xE_89) (L := xL_7) (ml := 11) (ret := some .int) rfl rfl rfl (m_89_0_39 rfl h)
theorem zc_89 {d P : Nat} (hP : P = 3 ∨ P = 39) {a1 : Int32} {a2 : Int32} {s : zS} {Q : Option Value → zS → Prop} (h : v_89_0 (fun j => Zt (d + 8) (wd P j) j) P a1 a2 s Q) : Zt (d + 9) (wd P 89) 89 [.ref 75, .int a1, .int a2] s Q := by
  rcases hP with rfl | rfl
  · exact zq_89_3 h
  · exact zq_89_39 h
/-! FeatherBench$Shapes.methodOwner -/
def v_90_0 (T : Nat → List Value → zS → (Option Value → zS → Prop) → Prop) (P : Nat)  (a1 : Int32) (s : zS) (Q : Option Value → zS → Prop) : Prop :=
  ∀ x1 : Int32, (-2147483648 ≤ (zg s (P + 18) a1).toInt - 24 ∧ (zg s (P + 18) a1).toInt - 24 ≤ 2147483647 → x1.toInt = (zg s (P + 18) a1).toInt - 24) → (0 ≤ x1.toInt → (6 ≤ x1.toInt → ∀ x3 : Int32, (-2147483648 ≤ (zg s (P + 28) ((s.1 75 6) * 5 + 2)).toInt + x1.toInt ∧ (zg s (P + 28) ((s.1 75 6) * 5 + 2)).toInt + x1.toInt ≤ 2147483647 → x3.toInt = (zg s (P + 28) ((s.1 75 6) * 5 + 2)).toInt + x1.toInt) → ∀ x4 : Int32, (-2147483648 ≤ x3.toInt - 6 ∧ x3.toInt - 6 ≤ 2147483647 → x4.toInt = x3.toInt - 6) → Q (some (.int (zg s (P + 30) (x4 * 5 + 3)))) s) ∧ (¬ (6 ≤ x1.toInt) → ∀ x7 : Int32, (-2147483648 ≤ (zg s (P + 24) ((s.1 75 4) * 6 + 2)).toInt + x1.toInt ∧ (zg s (P + 24) ((s.1 75 4) * 6 + 2)).toInt + x1.toInt ≤ 2147483647 → x7.toInt = (zg s (P + 24) ((s.1 75 4) * 6 + 2)).toInt + x1.toInt) → Q (some (.int (zg s (P + 30) (x7 * 5 + 3)))) s)) ∧ (¬ (0 ≤ x1.toInt) → Q (some (.int a1)) s)
set_option maxRecDepth 20000 in
theorem m_90_0_3 {d d0 : Nat} (hd : d = d0 + 8)  {a1 : Int32} {s : zS} {Q : Option Value → zS → Prop}  (h : v_90_0 (fun j => Zt d (wd 3 j) j) 3  a1 s Q) : Zn d [] [] ([(75, 0, 3), (75, 1, 21), (75, 2, 25)] : zW) ([(75, 0, 3), (75, 1, 21), (75, 2, 25)] : zW) xL_7 3 (some .int) xE_90 (xE_90.drop 0) [.ref 75, .int a1, .null, .null, .null] [] s Q := by
  unfold v_90_0 at h
  refine zn_ld rfl rfl rfl ?_
  refine zn_get (v := .ref 21) rfl (zv_C (a := 75) (n := 1) rfl rfl rfl) ?_
  refine zn_ld rfl rfl rfl ?_
  refine zn_row a1 [] (a := 21) hd rfl rfl rfl rfl ?_
  change Zn _ _ _ _ _ _ _ _ _ _ _ [.int (zg s 21 a1)] _ _
  refine zn_c [.int 24, .int (zg s 21 a1)] (xo_push (.int 24)) rfl rfl ?_
  replace h := h _ (i_sub (x := zg s 21 a1) (y := 24) rfl (show (24 : Int32).toInt = 24 by decide))
  refine zn_c [.int ((zg s 21 a1) - 24)] xo_isub rfl rfl ?_
  refine zn_st [.ref 75, .int a1, .int ((zg s 21 a1) - 24), .null, .null] rfl rfl rfl ?_
  refine zn_ld rfl rfl rfl ?_
  refine zn_brP rfl rfl ⟨fun hcn => ?_, fun hcn => ?_⟩
  · replace h := h.1 ((i_le (x := 0) (y := ((zg s 21 a1) - 24)) (show (0 : Int32).toInt = 0 by decide) rfl).mp hcn)
    refine zn_ld rfl rfl rfl ?_
    refine zn_c [.int 6, .int ((zg s 21 a1) - 24)] (xo_push (.int 6)) rfl rfl ?_
    refine zn_brP rfl rfl ⟨fun hcn => ?_, fun hcn => ?_⟩
    · replace h := h.1 ((i_le (x := 6) (y := ((zg s 21 a1) - 24)) (show (6 : Int32).toInt = 6 by decide) rfl).mp hcn)
      refine zn_ld rfl rfl rfl ?_
      refine zn_get (v := .ref 3) rfl (zv_C (a := 75) (n := 0) rfl rfl rfl) ?_
      refine zn_ld rfl rfl rfl ?_
      refine zn_get (v := .ref 3) rfl (zv_C (a := 75) (n := 0) rfl rfl rfl) ?_
      refine zn_ld rfl rfl rfl ?_
      refine zn_get (v := .int (s.1 75 6)) rfl (zv_I (a := 75) rfl rfl) ?_
      refine zn_c [.int 2, .int (s.1 75 6), .ref 3, .ref 3] (xo_push (.int 2)) rfl rfl ?_
      refine zn_zt [.ref 3, .int (s.1 75 6), .int 2] [.ref 3] (c := []) rfl rfl rfl rfl rfl (Zt.imp (zp_41 hd (Or.inl rfl)) (fun vq sq hq => ?_))
      obtain ⟨rfl, hq⟩ := hq
      rw [hq]
      change Zn _ _ _ _ _ _ _ _ _ _ _ [.int (zg s 31 ((s.1 75 6) * 5 + 2)), .ref 3] _ _
      refine zn_ld rfl rfl rfl ?_
      replace h := h _ (i_add (x := zg s 31 ((s.1 75 6) * 5 + 2)) (y := ((zg s 21 a1) - 24)) rfl rfl)
      refine zn_c [.int ((zg s 31 ((s.1 75 6) * 5 + 2)) + ((zg s 21 a1) - 24)), .ref 3] xo_iadd rfl rfl ?_
      refine zn_c [.int 6, .int ((zg s 31 ((s.1 75 6) * 5 + 2)) + ((zg s 21 a1) - 24)), .ref 3] (xo_push (.int 6)) rfl rfl ?_
      replace h := h _ (i_sub (x := ((zg s 31 ((s.1 75 6) * 5 + 2)) + ((zg s 21 a1) - 24))) (y := 6) rfl (show (6 : Int32).toInt = 6 by decide))
      refine zn_c [.int (((zg s 31 ((s.1 75 6) * 5 + 2)) + ((zg s 21 a1) - 24)) - 6), .ref 3] xo_isub rfl rfl ?_
      refine zn_c [.int 3, .int (((zg s 31 ((s.1 75 6) * 5 + 2)) + ((zg s 21 a1) - 24)) - 6), .ref 3] (xo_push (.int 3)) rfl rfl ?_
      refine zn_zt [.ref 3, .int (((zg s 31 ((s.1 75 6) * 5 + 2)) + ((zg s 21 a1) - 24)) - 6), .int 3] [] (c := []) rfl rfl rfl rfl rfl (Zt.imp (zp_42 hd (Or.inl rfl)) (fun vq sq hq => ?_))
      obtain ⟨rfl, hq⟩ := hq
      rw [hq]
      change Zn _ _ _ _ _ _ _ _ _ _ _ [.int (zg s 33 ((((zg s 31 ((s.1 75 6) * 5 + 2)) + ((zg s 21 a1) - 24)) - 6) * 5 + 3))] _ _
      exact zn_retI rfl h
    · replace h := h.2 (fun q => hcn ((i_le (x := 6) (y := ((zg s 21 a1) - 24)) (show (6 : Int32).toInt = 6 by decide) rfl).mpr q))
      refine zn_ld rfl rfl rfl ?_
      refine zn_get (v := .ref 3) rfl (zv_C (a := 75) (n := 0) rfl rfl rfl) ?_
      refine zn_ld rfl rfl rfl ?_
      refine zn_get (v := .ref 3) rfl (zv_C (a := 75) (n := 0) rfl rfl rfl) ?_
      refine zn_ld rfl rfl rfl ?_
      refine zn_get (v := .int (s.1 75 4)) rfl (zv_I (a := 75) rfl rfl) ?_
      refine zn_c [.int 2, .int (s.1 75 4), .ref 3, .ref 3] (xo_push (.int 2)) rfl rfl ?_
      refine zn_zt [.ref 3, .int (s.1 75 4), .int 2] [.ref 3] (c := []) rfl rfl rfl rfl rfl (Zt.imp (zp_39 hd (Or.inl rfl)) (fun vq sq hq => ?_))
      obtain ⟨rfl, hq⟩ := hq
      rw [hq]
      change Zn _ _ _ _ _ _ _ _ _ _ _ [.int (zg s 27 ((s.1 75 4) * 6 + 2)), .ref 3] _ _
      refine zn_ld rfl rfl rfl ?_
      replace h := h _ (i_add (x := zg s 27 ((s.1 75 4) * 6 + 2)) (y := ((zg s 21 a1) - 24)) rfl rfl)
      refine zn_c [.int ((zg s 27 ((s.1 75 4) * 6 + 2)) + ((zg s 21 a1) - 24)), .ref 3] xo_iadd rfl rfl ?_
      refine zn_c [.int 3, .int ((zg s 27 ((s.1 75 4) * 6 + 2)) + ((zg s 21 a1) - 24)), .ref 3] (xo_push (.int 3)) rfl rfl ?_
      refine zn_zt [.ref 3, .int ((zg s 27 ((s.1 75 4) * 6 + 2)) + ((zg s 21 a1) - 24)), .int 3] [] (c := []) rfl rfl rfl rfl rfl (Zt.imp (zp_42 hd (Or.inl rfl)) (fun vq sq hq => ?_))
      obtain ⟨rfl, hq⟩ := hq
      rw [hq]
      change Zn _ _ _ _ _ _ _ _ _ _ _ [.int (zg s 33 (((zg s 27 ((s.1 75 4) * 6 + 2)) + ((zg s 21 a1) - 24)) * 5 + 3))] _ _
      exact zn_retI rfl h
  · replace h := h.2 (fun q => hcn ((i_le (x := 0) (y := ((zg s 21 a1) - 24)) (show (0 : Int32).toInt = 0 by decide) rfl).mpr q))
    refine zn_ld rfl rfl rfl ?_
    exact zn_retI rfl h
theorem zq_90_3 {d : Nat} {a1 : Int32} {s : zS} {Q : Option Value → zS → Prop} (h : v_90_0 (fun j => Zt (d + 8) (wd 3 j) j) 3 a1 s Q) : Zt (d + 9) ([(75, 0, 3), (75, 1, 21), (75, 2, 25)] : zW) 90 [.ref 75, .int a1] s Q := zt_of (E := xE_90) (L := xL_7) (ml := 3) (ret := some .int) rfl rfl rfl (m_90_0_3 rfl h)
set_option maxRecDepth 20000 in
theorem m_90_0_39 {d d0 : Nat} (hd : d = d0 + 8)  {a1 : Int32} {s : zS} {Q : Option Value → zS → Prop}  (h : v_90_0 (fun j => Zt d (wd 39 j) j) 39  a1 s Q) : Zn d [] [] ([(75, 0, 39), (75, 1, 57), (75, 2, 61)] : zW) ([(75, 0, 39), (75, 1, 57), (75, 2, 61)] : zW) xL_7 3 (some .int) xE_90 (xE_90.drop 0) [.ref 75, .int a1, .null, .null, .null] [] s Q := by
  unfold v_90_0 at h
  refine zn_ld rfl rfl rfl ?_
  refine zn_get (v := .ref 57) rfl (zv_C (a := 75) (n := 1) rfl rfl rfl) ?_
  refine zn_ld rfl rfl rfl ?_
  refine zn_row a1 [] (a := 57) hd rfl rfl rfl rfl ?_
  change Zn _ _ _ _ _ _ _ _ _ _ _ [.int (zg s 57 a1)] _ _
  refine zn_c [.int 24, .int (zg s 57 a1)] (xo_push (.int 24)) rfl rfl ?_
  replace h := h _ (i_sub (x := zg s 57 a1) (y := 24) rfl (show (24 : Int32).toInt = 24 by decide))
  refine zn_c [.int ((zg s 57 a1) - 24)] xo_isub rfl rfl ?_
  refine zn_st [.ref 75, .int a1, .int ((zg s 57 a1) - 24), .null, .null] rfl rfl rfl ?_
  refine zn_ld rfl rfl rfl ?_
  refine zn_brP rfl rfl ⟨fun hcn => ?_, fun hcn => ?_⟩
  · replace h := h.1 ((i_le (x := 0) (y := ((zg s 57 a1) - 24)) (show (0 : Int32).toInt = 0 by decide) rfl).mp hcn)
    refine zn_ld rfl rfl rfl ?_
    refine zn_c [.int 6, .int ((zg s 57 a1) - 24)] (xo_push (.int 6)) rfl rfl ?_
    refine zn_brP rfl rfl ⟨fun hcn => ?_, fun hcn => ?_⟩
    · replace h := h.1 ((i_le (x := 6) (y := ((zg s 57 a1) - 24)) (show (6 : Int32).toInt = 6 by decide) rfl).mp hcn)
      refine zn_ld rfl rfl rfl ?_
      refine zn_get (v := .ref 39) rfl (zv_C (a := 75) (n := 0) rfl rfl rfl) ?_
      refine zn_ld rfl rfl rfl ?_
      refine zn_get (v := .ref 39) rfl (zv_C (a := 75) (n := 0) rfl rfl rfl) ?_
      refine zn_ld rfl rfl rfl ?_
      refine zn_get (v := .int (s.1 75 6)) rfl (zv_I (a := 75) rfl rfl) ?_
      refine zn_c [.int 2, .int (s.1 75 6), .ref 39, .ref 39] (xo_push (.int 2)) rfl rfl ?_
      refine zn_zt [.ref 39, .int (s.1 75 6), .int 2] [.ref 39] (c := []) rfl rfl rfl rfl rfl (Zt.imp (zp_41 hd (Or.inr rfl)) (fun vq sq hq => ?_))
      obtain ⟨rfl, hq⟩ := hq
      rw [hq]
      change Zn _ _ _ _ _ _ _ _ _ _ _ [.int (zg s 67 ((s.1 75 6) * 5 + 2)), .ref 39] _ _
      refine zn_ld rfl rfl rfl ?_
      replace h := h _ (i_add (x := zg s 67 ((s.1 75 6) * 5 + 2)) (y := ((zg s 57 a1) - 24)) rfl rfl)
      refine zn_c [.int ((zg s 67 ((s.1 75 6) * 5 + 2)) + ((zg s 57 a1) - 24)), .ref 39] xo_iadd rfl rfl ?_
      refine zn_c [.int 6, .int ((zg s 67 ((s.1 75 6) * 5 + 2)) + ((zg s 57 a1) - 24)), .ref 39] (xo_push (.int 6)) rfl rfl ?_
      replace h := h _ (i_sub (x := ((zg s 67 ((s.1 75 6) * 5 + 2)) + ((zg s 57 a1) - 24))) (y := 6) rfl (show (6 : Int32).toInt = 6 by decide))
      refine zn_c [.int (((zg s 67 ((s.1 75 6) * 5 + 2)) + ((zg s 57 a1) - 24)) - 6), .ref 39] xo_isub rfl rfl ?_
      refine zn_c [.int 3, .int (((zg s 67 ((s.1 75 6) * 5 + 2)) + ((zg s 57 a1) - 24)) - 6), .ref 39] (xo_push (.int 3)) rfl rfl ?_
      refine zn_zt [.ref 39, .int (((zg s 67 ((s.1 75 6) * 5 + 2)) + ((zg s 57 a1) - 24)) - 6), .int 3] [] (c := []) rfl rfl rfl rfl rfl (Zt.imp (zp_42 hd (Or.inr rfl)) (fun vq sq hq => ?_))
      obtain ⟨rfl, hq⟩ := hq
      rw [hq]
      change Zn _ _ _ _ _ _ _ _ _ _ _ [.int (zg s 69 ((((zg s 67 ((s.1 75 6) * 5 + 2)) + ((zg s 57 a1) - 24)) - 6) * 5 + 3))] _ _
      exact zn_retI rfl h
    · replace h := h.2 (fun q => hcn ((i_le (x := 6) (y := ((zg s 57 a1) - 24)) (show (6 : Int32).toInt = 6 by decide) rfl).mpr q))
      refine zn_ld rfl rfl rfl ?_
      refine zn_get (v := .ref 39) rfl (zv_C (a := 75) (n := 0) rfl rfl rfl) ?_
      refine zn_ld rfl rfl rfl ?_
      refine zn_get (v := .ref 39) rfl (zv_C (a := 75) (n := 0) rfl rfl rfl) ?_
      refine zn_ld rfl rfl rfl ?_
      refine zn_get (v := .int (s.1 75 4)) rfl (zv_I (a := 75) rfl rfl) ?_
      refine zn_c [.int 2, .int (s.1 75 4), .ref 39, .ref 39] (xo_push (.int 2)) rfl rfl ?_
      refine zn_zt [.ref 39, .int (s.1 75 4), .int 2] [.ref 39] (c := []) rfl rfl rfl rfl rfl (Zt.imp (zp_39 hd (Or.inr rfl)) (fun vq sq hq => ?_))
      obtain ⟨rfl, hq⟩ := hq
      rw [hq]
      change Zn _ _ _ _ _ _ _ _ _ _ _ [.int (zg s 63 ((s.1 75 4) * 6 + 2)), .ref 39] _ _
      refine zn_ld rfl rfl rfl ?_
      replace h := h _ (i_add (x := zg s 63 ((s.1 75 4) * 6 + 2)) (y := ((zg s 57 a1) - 24)) rfl rfl)
      refine zn_c [.int ((zg s 63 ((s.1 75 4) * 6 + 2)) + ((zg s 57 a1) - 24)), .ref 39] xo_iadd rfl rfl ?_
      refine zn_c [.int 3, .int ((zg s 63 ((s.1 75 4) * 6 + 2)) + ((zg s 57 a1) - 24)), .ref 39] (xo_push (.int 3)) rfl rfl ?_
      refine zn_zt [.ref 39, .int ((zg s 63 ((s.1 75 4) * 6 + 2)) + ((zg s 57 a1) - 24)), .int 3] [] (c := []) rfl rfl rfl rfl rfl (Zt.imp (zp_42 hd (Or.inr rfl)) (fun vq sq hq => ?_))
      obtain ⟨rfl, hq⟩ := hq
      rw [hq]
      change Zn _ _ _ _ _ _ _ _ _ _ _ [.int (zg s 69 (((zg s 63 ((s.1 75 4) * 6 + 2)) + ((zg s 57 a1) - 24)) * 5 + 3))] _ _
      exact zn_retI rfl h
  · replace h := h.2 (fun q => hcn ((i_le (x := 0) (y := ((zg s 57 a1) - 24)) (show (0 : Int32).toInt = 0 by decide) rfl).mpr q))
    refine zn_ld rfl rfl rfl ?_
    exact zn_retI rfl h
theorem zq_90_39 {d : Nat} {a1 : Int32} {s : zS} {Q : Option Value → zS → Prop} (h : v_90_0 (fun j => Zt (d + 8) (wd 39 j) j) 39 a1 s Q) : Zt (d + 9) ([(75, 0, 39), (75, 1, 57), (75, 2, 61)] : zW) 90 [.ref 75, .int a1] s Q := zt_of (E := xE_90) (L := xL_7) (ml := 3) (ret := some .int) rfl rfl rfl (m_90_0_39 rfl h)
theorem zc_90 {d P : Nat} (hP : P = 3 ∨ P = 39) {a1 : Int32} {s : zS} {Q : Option Value → zS → Prop} (h : v_90_0 (fun j => Zt (d + 8) (wd P j) j) P a1 s Q) : Zt (d + 9) (wd P 90) 90 [.ref 75, .int a1] s Q := by
  rcases hP with rfl | rfl
  · exact zq_90_3 h
  · exact zq_90_39 h
/-! FeatherBench$Shapes.settle -/
def v_91_19 (T : Nat → List Value → zS → (Option Value → zS → Prop) → Prop) (P : Nat) (R19 : Int32 → Int32 → Int32 → Int32 → zS → Prop) (a1 : Int32) (a2 : Int32) (a3 : Int32) (a4 : Int32) (s : zS) (Q : Option Value → zS → Prop) : Prop :=
  (a3.toInt ≤ a4.toInt → ∀ x1 : Int32, (-2147483648 ≤ a2.toInt + a3.toInt ∧ a2.toInt + a3.toInt ≤ 2147483647 → x1.toInt = a2.toInt + a3.toInt) → ∀ s2, s2 = zf s 75 3 x1 → Q (some (.int a2)) s2) ∧ (¬ (a3.toInt ≤ a4.toInt) → ∀ x3 : Int32, (-2147483648 ≤ a2.toInt + a4.toInt ∧ a2.toInt + a4.toInt ≤ 2147483647 → x3.toInt = a2.toInt + a4.toInt) → ∀ x4 : Int32, (-2147483648 ≤ a1.toInt + a4.toInt ∧ a1.toInt + a4.toInt ≤ 2147483647 → x4.toInt = a1.toInt + a4.toInt) → (x3.toInt < 0 ∨ 18 ≤ x3.toInt) ∧ (∀ s5, s5 = zt s (P + 18) x3 (zg s (P + 18) x4) → ∀ x6 : Int32, (-2147483648 ≤ a4.toInt + 1 ∧ a4.toInt + 1 ≤ 2147483647 → x6.toInt = a4.toInt + 1) → R19 a1 a2 a3 x6 s5))
def vl_91_19 (T : Nat → List Value → zS → (Option Value → zS → Prop) → Prop) (P : Nat)  (a1 : Int32) (a2 : Int32) (a3 : Int32) (a4 : Int32) (s : zS) (Q : Option Value → zS → Prop) : Prop :=
  ∃ (I : Int32 → Int32 → Int32 → Int32 → zS → Prop) (μ : Int32 → Int32 → Int32 → Int32 → zS → Nat), I a1 a2 a3 a4 s ∧ ∀ (a1 : Int32) (a2 : Int32) (a3 : Int32) (a4 : Int32) (s : zS), I a1 a2 a3 a4 s → v_91_19 T P (fun a1' a2' a3' a4' s' => I a1' a2' a3' a4' s' ∧ μ a1' a2' a3' a4' s' < μ a1 a2 a3 a4 s) a1 a2 a3 a4 s Q
def v_91_6 (T : Nat → List Value → zS → (Option Value → zS → Prop) → Prop) (P : Nat)  (a1 : Int32) (a2 : Int32) (s : zS) (Q : Option Value → zS → Prop) : Prop :=
  ∀ s1, s1 = zf s 75 3 a2 → Q (some (.int a1)) s1
def v_91_0 (T : Nat → List Value → zS → (Option Value → zS → Prop) → Prop) (P : Nat)  (a1 : Int32) (a2 : Int32) (s : zS) (Q : Option Value → zS → Prop) : Prop :=
  (a1.toInt < a2.toInt → v_91_6 T P  a1 a2 s Q) ∧ (¬ (a1.toInt < a2.toInt) → (a1.toInt < 18738 → T 83 [.ref 75, .int a1] s (fun v1 s2 => ∃ x3, v1 = some (.int x3) ∧ (∀ x4 : Int32, (-2147483648 ≤ x3.toInt - a1.toInt ∧ x3.toInt - a1.toInt ≤ 2147483647 → x4.toInt = x3.toInt - a1.toInt) → vl_91_19 T P  a1 a2 x4 0 s2 Q))) ∧ (¬ (a1.toInt < 18738) → v_91_6 T P  a1 a2 s Q))
set_option maxRecDepth 20000 in
theorem m_91_19_3 {d d0 : Nat} (hd : d = d0 + 8) {R19 : Int32 → Int32 → Int32 → Int32 → zS → Prop} {a1 : Int32} {a2 : Int32} {a3 : Int32} {a4 : Int32} {s : zS} {Q : Option Value → zS → Prop} (r19 : ∀ a1 a2 a3 a4 s, R19 a1 a2 a3 a4 s → Zn d [] [(3, 98)] ([(75, 0, 3), (75, 1, 21), (75, 2, 25)] : zW) ([(75, 0, 3), (75, 1, 21), (75, 2, 25)] : zW) xL_7 5 (some .int) xE_91 (xE_91.drop 19) [.ref 75, .int a1, .int a2, .int a3, .int a4, .null, .null, .null] [] s Q) (h : v_91_19 (fun j => Zt d (wd 3 j) j) 3 R19 a1 a2 a3 a4 s Q) : Zn d [] [(3, 98)] ([(75, 0, 3), (75, 1, 21), (75, 2, 25)] : zW) ([(75, 0, 3), (75, 1, 21), (75, 2, 25)] : zW) xL_7 5 (some .int) xE_91 (xE_91.drop 19) [.ref 75, .int a1, .int a2, .int a3, .int a4, .null, .null, .null] [] s Q := by
  unfold v_91_19 at h
  refine zn_ld rfl rfl rfl ?_
  refine zn_ld rfl rfl rfl ?_
  refine zn_brP rfl rfl ⟨fun hcn => ?_, fun hcn => ?_⟩
  · replace h := h.1 ((i_le (x := a3) (y := a4) rfl rfl).mp hcn)
    refine zn_ld rfl rfl rfl ?_
    refine zn_ld rfl rfl rfl ?_
    refine zn_ld rfl rfl rfl ?_
    replace h := h _ (i_add (x := a2) (y := a3) rfl rfl)
    refine zn_c [.int (a2 + a3), .ref 75] xo_iadd rfl rfl ?_
    refine zn_putI (a := 75) rfl rfl rfl rfl ⟨Int32.le_toInt _, Int.le_of_lt_add_one (Int32.toInt_lt _)⟩ rfl rfl rfl ?_
    replace h := h _ rfl
    refine zn_ld rfl rfl rfl ?_
    exact zn_retI rfl h
  · replace h := h.2 (fun q => hcn ((i_le (x := a3) (y := a4) rfl rfl).mpr q))
    refine zn_ld rfl rfl rfl ?_
    refine zn_get (v := .ref 21) rfl (zv_C (a := 75) (n := 1) rfl rfl rfl) ?_
    refine zn_ld rfl rfl rfl ?_
    refine zn_ld rfl rfl rfl ?_
    replace h := h _ (i_add (x := a2) (y := a4) rfl rfl)
    refine zn_c [.int (a2 + a4), .ref 21] xo_iadd rfl rfl ?_
    refine zn_ld rfl rfl rfl ?_
    refine zn_get (v := .ref 21) rfl (zv_C (a := 75) (n := 1) rfl rfl rfl) ?_
    refine zn_ld rfl rfl rfl ?_
    refine zn_ld rfl rfl rfl ?_
    replace h := h _ (i_add (x := a1) (y := a4) rfl rfl)
    refine zn_c [.int (a1 + a4), .ref 21, .int (a2 + a4), .ref 21] xo_iadd rfl rfl ?_
    refine zn_row (a1 + a4) [.int (a2 + a4), .ref 21] (a := 21) hd rfl rfl rfl rfl ?_
    change Zn _ _ _ _ _ _ _ _ _ _ _ [.int (zg s 21 (a1 + a4)), .int (a2 + a4), .ref 21] _ _
    obtain ⟨hx18, h⟩ := h
    refine zn_set (a2 + a4) (zg s 21 (a1 + a4)) [] (a := 21) hd rfl rfl rfl rfl ⟨Int32.le_toInt _, Int.le_of_lt_add_one (Int32.toInt_lt _)⟩ rfl rfl ?_ (hx := Or.inr hx18)
    replace h := h _ rfl
    replace h := h _ (i_add (x := a4) (y := 1) rfl (show (1 : Int32).toInt = 1 by decide))
    refine zn_inc [.ref 75, .int a1, .int a2, .int a3, .int (a4 + 1), .null, .null, .null] rfl rfl rfl rfl ?_
    refine zn_go rfl ?_
    exact r19 a1 a2 a3 (a4 + 1) (zt s 21 (a2 + a4) (zg s 21 (a1 + a4))) h
theorem ml_91_19_3 {d d0 : Nat} (hd : d = d0 + 8)  {a1 : Int32} {a2 : Int32} {a3 : Int32} {a4 : Int32} {s : zS} {Q : Option Value → zS → Prop}  (h : vl_91_19 (fun j => Zt d (wd 3 j) j) 3  a1 a2 a3 a4 s Q) : Zn d [] [(3, 98)] ([(75, 0, 3), (75, 1, 21), (75, 2, 25)] : zW) ([(75, 0, 3), (75, 1, 21), (75, 2, 25)] : zW) xL_7 5 (some .int) xE_91 (xE_91.drop 19) [.ref 75, .int a1, .int a2, .int a3, .int a4, .null, .null, .null] [] s Q := by
  obtain ⟨I, μ, h0, h1⟩ := h
  have key : ∀ (n : Nat) (a1 : Int32) (a2 : Int32) (a3 : Int32) (a4 : Int32) (s : zS), μ a1 a2 a3 a4 s = n → I a1 a2 a3 a4 s → Zn d [] [(3, 98)] ([(75, 0, 3), (75, 1, 21), (75, 2, 25)] : zW) ([(75, 0, 3), (75, 1, 21), (75, 2, 25)] : zW) xL_7 5 (some .int) xE_91 (xE_91.drop 19) [.ref 75, .int a1, .int a2, .int a3, .int a4, .null, .null, .null] [] s Q := by
    intro n
    induction n using Nat.strongRecOn with
    | ind n ih =>
      intro a1 a2 a3 a4 s e hI
      exact m_91_19_3 hd (fun a1' a2' a3' a4' s' q => ih _ (by rw [← e]; exact q.2) a1' a2' a3' a4' s' rfl q.1) (h1 a1 a2 a3 a4 s hI)
  exact key _ a1 a2 a3 a4 s rfl h0
set_option maxRecDepth 20000 in
theorem m_91_6_3 {d d0 : Nat} (hd : d = d0 + 8)  {a1 : Int32} {a2 : Int32} {s : zS} {Q : Option Value → zS → Prop}  (h : v_91_6 (fun j => Zt d (wd 3 j) j) 3  a1 a2 s Q) : Zn d [] [(3, 98)] ([(75, 0, 3), (75, 1, 21), (75, 2, 25)] : zW) ([(75, 0, 3), (75, 1, 21), (75, 2, 25)] : zW) xL_7 5 (some .int) xE_91 (xE_91.drop 6) [.ref 75, .int a1, .int a2, .null, .null, .null, .null, .null] [] s Q := by
  unfold v_91_6 at h
  refine zn_ld rfl rfl rfl ?_
  refine zn_ld rfl rfl rfl ?_
  refine zn_putI (a := 75) rfl rfl rfl rfl ⟨Int32.le_toInt _, Int.le_of_lt_add_one (Int32.toInt_lt _)⟩ rfl rfl rfl ?_
  replace h := h _ rfl
  refine zn_ld rfl rfl rfl ?_
  exact zn_retI rfl h
set_option maxRecDepth 20000 in
theorem m_91_0_3 {d d0 : Nat} (hd : d = d0 + 8)  {a1 : Int32} {a2 : Int32} {s : zS} {Q : Option Value → zS → Prop}  (h : v_91_0 (fun j => Zt d (wd 3 j) j) 3  a1 a2 s Q) : Zn d [] [(3, 98)] ([(75, 0, 3), (75, 1, 21), (75, 2, 25)] : zW) ([(75, 0, 3), (75, 1, 21), (75, 2, 25)] : zW) xL_7 5 (some .int) xE_91 (xE_91.drop 0) [.ref 75, .int a1, .int a2, .null, .null, .null, .null, .null] [] s Q := by
  unfold v_91_0 at h
  refine zn_ld rfl rfl rfl ?_
  refine zn_ld rfl rfl rfl ?_
  refine zn_brP rfl rfl ⟨fun hcn => ?_, fun hcn => ?_⟩
  · replace h := h.1 ((i_lt (x := a1) (y := a2) rfl rfl).mp hcn)
    exact m_91_6_3 hd  h
  · replace h := h.2 (fun q => hcn ((i_lt (x := a1) (y := a2) rfl rfl).mpr q))
    refine zn_ld rfl rfl rfl ?_
    refine zn_c [.int 18738, .int a1] (xo_push (.int 18738)) rfl rfl ?_
    refine zn_brP rfl rfl ⟨fun hcn => ?_, fun hcn => ?_⟩
    · replace h := h.1 ((i_lt (x := a1) (y := 18738) rfl (show (18738 : Int32).toInt = 18738 by decide)).mp hcn)
      refine zn_ld rfl rfl rfl ?_
      refine zn_ld rfl rfl rfl ?_
      refine zn_zt [.ref 75, .int a1] [] rfl rfl rfl rfl rfl (Zt.imp h (fun v1 s2 h => ?_))
      obtain ⟨x3, rfl, h⟩ := h
      change Zn _ _ _ _ _ _ _ _ _ _ _ [.int x3] _ _
      refine zn_ld rfl rfl rfl ?_
      replace h := h _ (i_sub (x := x3) (y := a1) rfl rfl)
      refine zn_c [.int (x3 - a1)] xo_isub rfl rfl ?_
      refine zn_st [.ref 75, .int a1, .int a2, .int (x3 - a1), .null, .null, .null, .null] rfl rfl rfl ?_
      refine zn_c [.int 0] (xo_push (.int 0)) rfl rfl ?_
      refine zn_st [.ref 75, .int a1, .int a2, .int (x3 - a1), .int 0, .null, .null, .null] rfl rfl rfl ?_
      exact ml_91_19_3 hd  h
    · replace h := h.2 (fun q => hcn ((i_lt (x := a1) (y := 18738) rfl (show (18738 : Int32).toInt = 18738 by decide)).mpr q))
      exact m_91_6_3 hd  h
theorem zq_91_3 {d : Nat} {a1 : Int32} {a2 : Int32} {s : zS} {Q : Option Value → zS → Prop} (h : v_91_0 (fun j => Zt (d + 8) (wd 3 j) j) 3 a1 a2 s Q) : Zt (d + 9) ([(75, 0, 3), (75, 1, 21), (75, 2, 25)] : zW) 91 [.ref 75, .int a1, .int a2] s Q := zt_of (E := xE_91) (L := xL_7) (ml := 5) (ret := some .int) rfl rfl rfl (m_91_0_3 rfl h)
set_option maxRecDepth 20000 in
theorem m_91_19_39 {d d0 : Nat} (hd : d = d0 + 8) {R19 : Int32 → Int32 → Int32 → Int32 → zS → Prop} {a1 : Int32} {a2 : Int32} {a3 : Int32} {a4 : Int32} {s : zS} {Q : Option Value → zS → Prop} (r19 : ∀ a1 a2 a3 a4 s, R19 a1 a2 a3 a4 s → Zn d [] [(39, 98)] ([(75, 0, 39), (75, 1, 57), (75, 2, 61)] : zW) ([(75, 0, 39), (75, 1, 57), (75, 2, 61)] : zW) xL_7 5 (some .int) xE_91 (xE_91.drop 19) [.ref 75, .int a1, .int a2, .int a3, .int a4, .null, .null, .null] [] s Q) (h : v_91_19 (fun j => Zt d (wd 39 j) j) 39 R19 a1 a2 a3 a4 s Q) : Zn d [] [(39, 98)] ([(75, 0, 39), (75, 1, 57), (75, 2, 61)] : zW) ([(75, 0, 39), (75, 1, 57), (75, 2, 61)] : zW) xL_7 5 (some .int) xE_91 (xE_91.drop 19) [.ref 75, .int a1, .int a2, .int a3, .int a4, .null, .null, .null] [] s Q := by
  unfold v_91_19 at h
  refine zn_ld rfl rfl rfl ?_
  refine zn_ld rfl rfl rfl ?_
  refine zn_brP rfl rfl ⟨fun hcn => ?_, fun hcn => ?_⟩
  · replace h := h.1 ((i_le (x := a3) (y := a4) rfl rfl).mp hcn)
    refine zn_ld rfl rfl rfl ?_
    refine zn_ld rfl rfl rfl ?_
    refine zn_ld rfl rfl rfl ?_
    replace h := h _ (i_add (x := a2) (y := a3) rfl rfl)
    refine zn_c [.int (a2 + a3), .ref 75] xo_iadd rfl rfl ?_
    refine zn_putI (a := 75) rfl rfl rfl rfl ⟨Int32.le_toInt _, Int.le_of_lt_add_one (Int32.toInt_lt _)⟩ rfl rfl rfl ?_
    replace h := h _ rfl
    refine zn_ld rfl rfl rfl ?_
    exact zn_retI rfl h
  · replace h := h.2 (fun q => hcn ((i_le (x := a3) (y := a4) rfl rfl).mpr q))
    refine zn_ld rfl rfl rfl ?_
    refine zn_get (v := .ref 57) rfl (zv_C (a := 75) (n := 1) rfl rfl rfl) ?_
    refine zn_ld rfl rfl rfl ?_
    refine zn_ld rfl rfl rfl ?_
    replace h := h _ (i_add (x := a2) (y := a4) rfl rfl)
    refine zn_c [.int (a2 + a4), .ref 57] xo_iadd rfl rfl ?_
    refine zn_ld rfl rfl rfl ?_
    refine zn_get (v := .ref 57) rfl (zv_C (a := 75) (n := 1) rfl rfl rfl) ?_
    refine zn_ld rfl rfl rfl ?_
    refine zn_ld rfl rfl rfl ?_
    replace h := h _ (i_add (x := a1) (y := a4) rfl rfl)
    refine zn_c [.int (a1 + a4), .ref 57, .int (a2 + a4), .ref 57] xo_iadd rfl rfl ?_
    refine zn_row (a1 + a4) [.int (a2 + a4), .ref 57] (a := 57) hd rfl rfl rfl rfl ?_
    change Zn _ _ _ _ _ _ _ _ _ _ _ [.int (zg s 57 (a1 + a4)), .int (a2 + a4), .ref 57] _ _
    obtain ⟨hx18, h⟩ := h
    refine zn_set (a2 + a4) (zg s 57 (a1 + a4)) [] (a := 57) hd rfl rfl rfl rfl ⟨Int32.le_toInt _, Int.le_of_lt_add_one (Int32.toInt_lt _)⟩ rfl rfl ?_ (hx := Or.inr hx18)
    replace h := h _ rfl
    replace h := h _ (i_add (x := a4) (y := 1) rfl (show (1 : Int32).toInt = 1 by decide))
    refine zn_inc [.ref 75, .int a1, .int a2, .int a3, .int (a4 + 1), .null, .null, .null] rfl rfl rfl rfl ?_
    refine zn_go rfl ?_
    exact r19 a1 a2 a3 (a4 + 1) (zt s 57 (a2 + a4) (zg s 57 (a1 + a4))) h
theorem ml_91_19_39 {d d0 : Nat} (hd : d = d0 + 8)  {a1 : Int32} {a2 : Int32} {a3 : Int32} {a4 : Int32} {s : zS} {Q : Option Value → zS → Prop}  (h : vl_91_19 (fun j => Zt d (wd 39 j) j) 39  a1 a2 a3 a4 s Q) : Zn d [] [(39, 98)] ([(75, 0, 39), (75, 1, 57), (75, 2, 61)] : zW) ([(75, 0, 39), (75, 1, 57), (75, 2, 61)] : zW) xL_7 5 (some .int) xE_91 (xE_91.drop 19) [.ref 75, .int a1, .int a2, .int a3, .int a4, .null, .null, .null] [] s Q := by
  obtain ⟨I, μ, h0, h1⟩ := h
  have key : ∀ (n : Nat) (a1 : Int32) (a2 : Int32) (a3 : Int32) (a4 : Int32) (s : zS), μ a1 a2 a3 a4 s = n → I a1 a2 a3 a4 s → Zn d [] [(39, 98)] ([(75, 0, 39), (75, 1, 57), (75, 2, 61)] : zW) ([(75, 0, 39), (75, 1, 57), (75, 2, 61)] : zW) xL_7 5 (some .int) xE_91 (xE_91.drop 19) [.ref 75, .int a1, .int a2, .int a3, .int a4, .null, .null, .null] [] s Q := by
    intro n
    induction n using Nat.strongRecOn with
    | ind n ih =>
      intro a1 a2 a3 a4 s e hI
      exact m_91_19_39 hd (fun a1' a2' a3' a4' s' q => ih _ (by rw [← e]; exact q.2) a1' a2' a3' a4' s' rfl q.1) (h1 a1 a2 a3 a4 s hI)
  exact key _ a1 a2 a3 a4 s rfl h0
set_option maxRecDepth 20000 in
theorem m_91_6_39 {d d0 : Nat} (hd : d = d0 + 8)  {a1 : Int32} {a2 : Int32} {s : zS} {Q : Option Value → zS → Prop}  (h : v_91_6 (fun j => Zt d (wd 39 j) j) 39  a1 a2 s Q) : Zn d [] [(39, 98)] ([(75, 0, 39), (75, 1, 57), (75, 2, 61)] : zW) ([(75, 0, 39), (75, 1, 57), (75, 2, 61)] : zW) xL_7 5 (some .int) xE_91 (xE_91.drop 6) [.ref 75, .int a1, .int a2, .null, .null, .null, .null, .null] [] s Q := by
  unfold v_91_6 at h
  refine zn_ld rfl rfl rfl ?_
  refine zn_ld rfl rfl rfl ?_
  refine zn_putI (a := 75) rfl rfl rfl rfl ⟨Int32.le_toInt _, Int.le_of_lt_add_one (Int32.toInt_lt _)⟩ rfl rfl rfl ?_
  replace h := h _ rfl
  refine zn_ld rfl rfl rfl ?_
  exact zn_retI rfl h
set_option maxRecDepth 20000 in
theorem m_91_0_39 {d d0 : Nat} (hd : d = d0 + 8)  {a1 : Int32} {a2 : Int32} {s : zS} {Q : Option Value → zS → Prop}  (h : v_91_0 (fun j => Zt d (wd 39 j) j) 39  a1 a2 s Q) : Zn d [] [(39, 98)] ([(75, 0, 39), (75, 1, 57), (75, 2, 61)] : zW) ([(75, 0, 39), (75, 1, 57), (75, 2, 61)] : zW) xL_7 5 (some .int) xE_91 (xE_91.drop 0) [.ref 75, .int a1, .int a2, .null, .null, .null, .null, .null] [] s Q := by
  unfold v_91_0 at h
  refine zn_ld rfl rfl rfl ?_
  refine zn_ld rfl rfl rfl ?_
  refine zn_brP rfl rfl ⟨fun hcn => ?_, fun hcn => ?_⟩
  · replace h := h.1 ((i_lt (x := a1) (y := a2) rfl rfl).mp hcn)
    exact m_91_6_39 hd  h
  · replace h := h.2 (fun q => hcn ((i_lt (x := a1) (y := a2) rfl rfl).mpr q))
    refine zn_ld rfl rfl rfl ?_
    refine zn_c [.int 18738, .int a1] (xo_push (.int 18738)) rfl rfl ?_
    refine zn_brP rfl rfl ⟨fun hcn => ?_, fun hcn => ?_⟩
    · replace h := h.1 ((i_lt (x := a1) (y := 18738) rfl (show (18738 : Int32).toInt = 18738 by decide)).mp hcn)
      refine zn_ld rfl rfl rfl ?_
      refine zn_ld rfl rfl rfl ?_
      refine zn_zt [.ref 75, .int a1] [] rfl rfl rfl rfl rfl (Zt.imp h (fun v1 s2 h => ?_))
      obtain ⟨x3, rfl, h⟩ := h
      change Zn _ _ _ _ _ _ _ _ _ _ _ [.int x3] _ _
      refine zn_ld rfl rfl rfl ?_
      replace h := h _ (i_sub (x := x3) (y := a1) rfl rfl)
      refine zn_c [.int (x3 - a1)] xo_isub rfl rfl ?_
      refine zn_st [.ref 75, .int a1, .int a2, .int (x3 - a1), .null, .null, .null, .null] rfl rfl rfl ?_
      refine zn_c [.int 0] (xo_push (.int 0)) rfl rfl ?_
      refine zn_st [.ref 75, .int a1, .int a2, .int (x3 - a1), .int 0, .null, .null, .null] rfl rfl rfl ?_
      exact ml_91_19_39 hd  h
    · replace h := h.2 (fun q => hcn ((i_lt (x := a1) (y := 18738) rfl (show (18738 : Int32).toInt = 18738 by decide)).mpr q))
      exact m_91_6_39 hd  h
theorem zq_91_39 {d : Nat} {a1 : Int32} {a2 : Int32} {s : zS} {Q : Option Value → zS → Prop} (h : v_91_0 (fun j => Zt (d + 8) (wd 39 j) j) 39 a1 a2 s Q) : Zt (d + 9) ([(75, 0, 39), (75, 1, 57), (75, 2, 61)] : zW) 91 [.ref 75, .int a1, .int a2] s Q := zt_of (E := xE_91) (L := xL_7) (ml := 5) (ret := some .int) rfl rfl rfl (m_91_0_39 rfl h)
theorem zc_91 {d P : Nat} (hP : P = 3 ∨ P = 39) {a1 : Int32} {a2 : Int32} {s : zS} {Q : Option Value → zS → Prop} (h : v_91_0 (fun j => Zt (d + 8) (wd P j) j) P a1 a2 s Q) : Zt (d + 9) (wd P 91) 91 [.ref 75, .int a1, .int a2] s Q := by
  rcases hP with rfl | rfl
  · exact zq_91_3 h
  · exact zq_91_39 h
/-! FeatherBench$Shapes.keep -/
def v_92_17 (T : Nat → List Value → zS → (Option Value → zS → Prop) → Prop) (P : Nat) (R17 : Int32 → Int32 → Int32 → Int32 → zS → Prop) (a1 : Int32) (a2 : Int32) (a3 : Int32) (a4 : Int32) (s : zS) (Q : Option Value → zS → Prop) : Prop :=
  (a3.toInt ≤ a4.toInt → ∀ x1 : Int32, (-2147483648 ≤ a2.toInt + a3.toInt ∧ a2.toInt + a3.toInt ≤ 2147483647 → x1.toInt = a2.toInt + a3.toInt) → (18 ≤ x1.toInt ∧ x1.toInt ≤ 2000000000) ∧ (∀ s2, s2 = zf s P 10 x1 → Q (some (.int a2)) s2)) ∧ (¬ (a3.toInt ≤ a4.toInt) → ∀ x3 : Int32, (-2147483648 ≤ a2.toInt + a4.toInt ∧ a2.toInt + a4.toInt ≤ 2147483647 → x3.toInt = a2.toInt + a4.toInt) → ∀ x4 : Int32, (-2147483648 ≤ a1.toInt + a4.toInt ∧ a1.toInt + a4.toInt ≤ 2147483647 → x4.toInt = a1.toInt + a4.toInt) → (x3.toInt < 0 ∨ 18 ≤ x3.toInt) ∧ (∀ s5, s5 = zt s (P + 18) x3 (zg s (P + 18) x4) → ∀ x6 : Int32, (-2147483648 ≤ a4.toInt + 1 ∧ a4.toInt + 1 ≤ 2147483647 → x6.toInt = a4.toInt + 1) → R17 a1 a2 a3 x6 s5))
def vl_92_17 (T : Nat → List Value → zS → (Option Value → zS → Prop) → Prop) (P : Nat)  (a1 : Int32) (a2 : Int32) (a3 : Int32) (a4 : Int32) (s : zS) (Q : Option Value → zS → Prop) : Prop :=
  ∃ (I : Int32 → Int32 → Int32 → Int32 → zS → Prop) (μ : Int32 → Int32 → Int32 → Int32 → zS → Nat), I a1 a2 a3 a4 s ∧ ∀ (a1 : Int32) (a2 : Int32) (a3 : Int32) (a4 : Int32) (s : zS), I a1 a2 a3 a4 s → v_92_17 T P (fun a1' a2' a3' a4' s' => I a1' a2' a3' a4' s' ∧ μ a1' a2' a3' a4' s' < μ a1 a2 a3 a4 s) a1 a2 a3 a4 s Q
def v_92_0 (T : Nat → List Value → zS → (Option Value → zS → Prop) → Prop) (P : Nat)  (a1 : Int32) (s : zS) (Q : Option Value → zS → Prop) : Prop :=
  (a1.toInt < 18738 → T 83 [.ref 75, .int a1] s (fun v1 s2 => ∃ x3, v1 = some (.int x3) ∧ (∀ x4 : Int32, (-2147483648 ≤ x3.toInt - a1.toInt ∧ x3.toInt - a1.toInt ≤ 2147483647 → x4.toInt = x3.toInt - a1.toInt) → vl_92_17 T P  a1 (s.1 P 10) x4 0 s2 Q))) ∧ (¬ (a1.toInt < 18738) → Q (some (.int a1)) s)
set_option maxRecDepth 20000 in
theorem m_92_17_3 {d d0 : Nat} (hd : d = d0 + 8) {R17 : Int32 → Int32 → Int32 → Int32 → zS → Prop} {a1 : Int32} {a2 : Int32} {a3 : Int32} {a4 : Int32} {s : zS} {Q : Option Value → zS → Prop} (r17 : ∀ a1 a2 a3 a4 s, R17 a1 a2 a3 a4 s → Zn d [] [(3, 98)] ([(75, 0, 3), (75, 1, 21), (75, 2, 25)] : zW) ([(75, 0, 3), (75, 1, 21), (75, 2, 25)] : zW) xL_7 5 (some .int) xE_92 (xE_92.drop 17) [.ref 75, .int a1, .int a2, .int a3, .int a4, .null, .null] [] s Q) (h : v_92_17 (fun j => Zt d (wd 3 j) j) 3 R17 a1 a2 a3 a4 s Q) : Zn d [] [(3, 98)] ([(75, 0, 3), (75, 1, 21), (75, 2, 25)] : zW) ([(75, 0, 3), (75, 1, 21), (75, 2, 25)] : zW) xL_7 5 (some .int) xE_92 (xE_92.drop 17) [.ref 75, .int a1, .int a2, .int a3, .int a4, .null, .null] [] s Q := by
  unfold v_92_17 at h
  refine zn_ld rfl rfl rfl ?_
  refine zn_ld rfl rfl rfl ?_
  refine zn_brP rfl rfl ⟨fun hcn => ?_, fun hcn => ?_⟩
  · replace h := h.1 ((i_le (x := a3) (y := a4) rfl rfl).mp hcn)
    refine zn_ld rfl rfl rfl ?_
    refine zn_get (v := .ref 3) rfl (zv_C (a := 75) (n := 0) rfl rfl rfl) ?_
    refine zn_ld rfl rfl rfl ?_
    refine zn_ld rfl rfl rfl ?_
    replace h := h _ (i_add (x := a2) (y := a3) rfl rfl)
    refine zn_c [.int (a2 + a3), .ref 3] xo_iadd rfl rfl ?_
    refine zn_putI (a := 3) rfl rfl rfl rfl ⟨Int.le_trans (by decide) h.1.1, h.1.2⟩ rfl rfl rfl ?_ (hkl := Or.inr (Or.inl ⟨⟨by decide, rfl⟩, h.1.1⟩))
    replace h := h.2
    replace h := h _ rfl
    refine zn_ld rfl rfl rfl ?_
    exact zn_retI rfl h
  · replace h := h.2 (fun q => hcn ((i_le (x := a3) (y := a4) rfl rfl).mpr q))
    refine zn_ld rfl rfl rfl ?_
    refine zn_get (v := .ref 21) rfl (zv_C (a := 75) (n := 1) rfl rfl rfl) ?_
    refine zn_ld rfl rfl rfl ?_
    refine zn_ld rfl rfl rfl ?_
    replace h := h _ (i_add (x := a2) (y := a4) rfl rfl)
    refine zn_c [.int (a2 + a4), .ref 21] xo_iadd rfl rfl ?_
    refine zn_ld rfl rfl rfl ?_
    refine zn_get (v := .ref 21) rfl (zv_C (a := 75) (n := 1) rfl rfl rfl) ?_
    refine zn_ld rfl rfl rfl ?_
    refine zn_ld rfl rfl rfl ?_
    replace h := h _ (i_add (x := a1) (y := a4) rfl rfl)
    refine zn_c [.int (a1 + a4), .ref 21, .int (a2 + a4), .ref 21] xo_iadd rfl rfl ?_
    refine zn_row (a1 + a4) [.int (a2 + a4), .ref 21] (a := 21) hd rfl rfl rfl rfl ?_
    change Zn _ _ _ _ _ _ _ _ _ _ _ [.int (zg s 21 (a1 + a4)), .int (a2 + a4), .ref 21] _ _
    obtain ⟨hx18, h⟩ := h
    refine zn_set (a2 + a4) (zg s 21 (a1 + a4)) [] (a := 21) hd rfl rfl rfl rfl ⟨Int32.le_toInt _, Int.le_of_lt_add_one (Int32.toInt_lt _)⟩ rfl rfl ?_ (hx := Or.inr hx18)
    replace h := h _ rfl
    replace h := h _ (i_add (x := a4) (y := 1) rfl (show (1 : Int32).toInt = 1 by decide))
    refine zn_inc [.ref 75, .int a1, .int a2, .int a3, .int (a4 + 1), .null, .null] rfl rfl rfl rfl ?_
    refine zn_go rfl ?_
    exact r17 a1 a2 a3 (a4 + 1) (zt s 21 (a2 + a4) (zg s 21 (a1 + a4))) h
theorem ml_92_17_3 {d d0 : Nat} (hd : d = d0 + 8)  {a1 : Int32} {a2 : Int32} {a3 : Int32} {a4 : Int32} {s : zS} {Q : Option Value → zS → Prop}  (h : vl_92_17 (fun j => Zt d (wd 3 j) j) 3  a1 a2 a3 a4 s Q) : Zn d [] [(3, 98)] ([(75, 0, 3), (75, 1, 21), (75, 2, 25)] : zW) ([(75, 0, 3), (75, 1, 21), (75, 2, 25)] : zW) xL_7 5 (some .int) xE_92 (xE_92.drop 17) [.ref 75, .int a1, .int a2, .int a3, .int a4, .null, .null] [] s Q := by
  obtain ⟨I, μ, h0, h1⟩ := h
  have key : ∀ (n : Nat) (a1 : Int32) (a2 : Int32) (a3 : Int32) (a4 : Int32) (s : zS), μ a1 a2 a3 a4 s = n → I a1 a2 a3 a4 s → Zn d [] [(3, 98)] ([(75, 0, 3), (75, 1, 21), (75, 2, 25)] : zW) ([(75, 0, 3), (75, 1, 21), (75, 2, 25)] : zW) xL_7 5 (some .int) xE_92 (xE_92.drop 17) [.ref 75, .int a1, .int a2, .int a3, .int a4, .null, .null] [] s Q := by
    intro n
    induction n using Nat.strongRecOn with
    | ind n ih =>
      intro a1 a2 a3 a4 s e hI
      exact m_92_17_3 hd (fun a1' a2' a3' a4' s' q => ih _ (by rw [← e]; exact q.2) a1' a2' a3' a4' s' rfl q.1) (h1 a1 a2 a3 a4 s hI)
  exact key _ a1 a2 a3 a4 s rfl h0
set_option maxRecDepth 20000 in
theorem m_92_0_3 {d d0 : Nat} (hd : d = d0 + 8)  {a1 : Int32} {s : zS} {Q : Option Value → zS → Prop}  (h : v_92_0 (fun j => Zt d (wd 3 j) j) 3  a1 s Q) : Zn d [] [(3, 98)] ([(75, 0, 3), (75, 1, 21), (75, 2, 25)] : zW) ([(75, 0, 3), (75, 1, 21), (75, 2, 25)] : zW) xL_7 5 (some .int) xE_92 (xE_92.drop 0) [.ref 75, .int a1, .null, .null, .null, .null, .null] [] s Q := by
  unfold v_92_0 at h
  refine zn_ld rfl rfl rfl ?_
  refine zn_c [.int 18738, .int a1] (xo_push (.int 18738)) rfl rfl ?_
  refine zn_brP rfl rfl ⟨fun hcn => ?_, fun hcn => ?_⟩
  · replace h := h.1 ((i_lt (x := a1) (y := 18738) rfl (show (18738 : Int32).toInt = 18738 by decide)).mp hcn)
    refine zn_ld rfl rfl rfl ?_
    refine zn_get (v := .ref 3) rfl (zv_C (a := 75) (n := 0) rfl rfl rfl) ?_
    refine zn_get (v := .int (s.1 3 10)) rfl (zv_I (a := 3) rfl rfl) ?_
    refine zn_st [.ref 75, .int a1, .int (s.1 3 10), .null, .null, .null, .null] rfl rfl rfl ?_
    refine zn_ld rfl rfl rfl ?_
    refine zn_ld rfl rfl rfl ?_
    refine zn_zt [.ref 75, .int a1] [] rfl rfl rfl rfl rfl (Zt.imp h (fun v1 s2 h => ?_))
    obtain ⟨x3, rfl, h⟩ := h
    change Zn _ _ _ _ _ _ _ _ _ _ _ [.int x3] _ _
    refine zn_ld rfl rfl rfl ?_
    replace h := h _ (i_sub (x := x3) (y := a1) rfl rfl)
    refine zn_c [.int (x3 - a1)] xo_isub rfl rfl ?_
    refine zn_st [.ref 75, .int a1, .int (s.1 3 10), .int (x3 - a1), .null, .null, .null] rfl rfl rfl ?_
    refine zn_c [.int 0] (xo_push (.int 0)) rfl rfl ?_
    refine zn_st [.ref 75, .int a1, .int (s.1 3 10), .int (x3 - a1), .int 0, .null, .null] rfl rfl rfl ?_
    exact ml_92_17_3 hd  h
  · replace h := h.2 (fun q => hcn ((i_lt (x := a1) (y := 18738) rfl (show (18738 : Int32).toInt = 18738 by decide)).mpr q))
    refine zn_ld rfl rfl rfl ?_
    exact zn_retI rfl h
theorem zq_92_3 {d : Nat} {a1 : Int32} {s : zS} {Q : Option Value → zS → Prop} (h : v_92_0 (fun j => Zt (d + 8) (wd 3 j) j) 3 a1 s Q) : Zt (d + 9) ([(75, 0, 3), (75, 1, 21), (75, 2, 25)] : zW) 92 [.ref 75, .int a1] s Q := zt_of (E := xE_92) (L := xL_7) (ml := 5) (ret := some .int) rfl rfl rfl (m_92_0_3 rfl h)
set_option maxRecDepth 20000 in
theorem m_92_17_39 {d d0 : Nat} (hd : d = d0 + 8) {R17 : Int32 → Int32 → Int32 → Int32 → zS → Prop} {a1 : Int32} {a2 : Int32} {a3 : Int32} {a4 : Int32} {s : zS} {Q : Option Value → zS → Prop} (r17 : ∀ a1 a2 a3 a4 s, R17 a1 a2 a3 a4 s → Zn d [] [(39, 98)] ([(75, 0, 39), (75, 1, 57), (75, 2, 61)] : zW) ([(75, 0, 39), (75, 1, 57), (75, 2, 61)] : zW) xL_7 5 (some .int) xE_92 (xE_92.drop 17) [.ref 75, .int a1, .int a2, .int a3, .int a4, .null, .null] [] s Q) (h : v_92_17 (fun j => Zt d (wd 39 j) j) 39 R17 a1 a2 a3 a4 s Q) : Zn d [] [(39, 98)] ([(75, 0, 39), (75, 1, 57), (75, 2, 61)] : zW) ([(75, 0, 39), (75, 1, 57), (75, 2, 61)] : zW) xL_7 5 (some .int) xE_92 (xE_92.drop 17) [.ref 75, .int a1, .int a2, .int a3, .int a4, .null, .null] [] s Q := by
  unfold v_92_17 at h
  refine zn_ld rfl rfl rfl ?_
  refine zn_ld rfl rfl rfl ?_
  refine zn_brP rfl rfl ⟨fun hcn => ?_, fun hcn => ?_⟩
  · replace h := h.1 ((i_le (x := a3) (y := a4) rfl rfl).mp hcn)
    refine zn_ld rfl rfl rfl ?_
    refine zn_get (v := .ref 39) rfl (zv_C (a := 75) (n := 0) rfl rfl rfl) ?_
    refine zn_ld rfl rfl rfl ?_
    refine zn_ld rfl rfl rfl ?_
    replace h := h _ (i_add (x := a2) (y := a3) rfl rfl)
    refine zn_c [.int (a2 + a3), .ref 39] xo_iadd rfl rfl ?_
    refine zn_putI (a := 39) rfl rfl rfl rfl ⟨Int.le_trans (by decide) h.1.1, h.1.2⟩ rfl rfl rfl ?_ (hkl := Or.inr (Or.inl ⟨⟨by decide, rfl⟩, h.1.1⟩))
    replace h := h.2
    replace h := h _ rfl
    refine zn_ld rfl rfl rfl ?_
    exact zn_retI rfl h
  · replace h := h.2 (fun q => hcn ((i_le (x := a3) (y := a4) rfl rfl).mpr q))
    refine zn_ld rfl rfl rfl ?_
    refine zn_get (v := .ref 57) rfl (zv_C (a := 75) (n := 1) rfl rfl rfl) ?_
    refine zn_ld rfl rfl rfl ?_
    refine zn_ld rfl rfl rfl ?_
    replace h := h _ (i_add (x := a2) (y := a4) rfl rfl)
    refine zn_c [.int (a2 + a4), .ref 57] xo_iadd rfl rfl ?_
    refine zn_ld rfl rfl rfl ?_
    refine zn_get (v := .ref 57) rfl (zv_C (a := 75) (n := 1) rfl rfl rfl) ?_
    refine zn_ld rfl rfl rfl ?_
    refine zn_ld rfl rfl rfl ?_
    replace h := h _ (i_add (x := a1) (y := a4) rfl rfl)
    refine zn_c [.int (a1 + a4), .ref 57, .int (a2 + a4), .ref 57] xo_iadd rfl rfl ?_
    refine zn_row (a1 + a4) [.int (a2 + a4), .ref 57] (a := 57) hd rfl rfl rfl rfl ?_
    change Zn _ _ _ _ _ _ _ _ _ _ _ [.int (zg s 57 (a1 + a4)), .int (a2 + a4), .ref 57] _ _
    obtain ⟨hx18, h⟩ := h
    refine zn_set (a2 + a4) (zg s 57 (a1 + a4)) [] (a := 57) hd rfl rfl rfl rfl ⟨Int32.le_toInt _, Int.le_of_lt_add_one (Int32.toInt_lt _)⟩ rfl rfl ?_ (hx := Or.inr hx18)
    replace h := h _ rfl
    replace h := h _ (i_add (x := a4) (y := 1) rfl (show (1 : Int32).toInt = 1 by decide))
    refine zn_inc [.ref 75, .int a1, .int a2, .int a3, .int (a4 + 1), .null, .null] rfl rfl rfl rfl ?_
    refine zn_go rfl ?_
    exact r17 a1 a2 a3 (a4 + 1) (zt s 57 (a2 + a4) (zg s 57 (a1 + a4))) h
theorem ml_92_17_39 {d d0 : Nat} (hd : d = d0 + 8)  {a1 : Int32} {a2 : Int32} {a3 : Int32} {a4 : Int32} {s : zS} {Q : Option Value → zS → Prop}  (h : vl_92_17 (fun j => Zt d (wd 39 j) j) 39  a1 a2 a3 a4 s Q) : Zn d [] [(39, 98)] ([(75, 0, 39), (75, 1, 57), (75, 2, 61)] : zW) ([(75, 0, 39), (75, 1, 57), (75, 2, 61)] : zW) xL_7 5 (some .int) xE_92 (xE_92.drop 17) [.ref 75, .int a1, .int a2, .int a3, .int a4, .null, .null] [] s Q := by
  obtain ⟨I, μ, h0, h1⟩ := h
  have key : ∀ (n : Nat) (a1 : Int32) (a2 : Int32) (a3 : Int32) (a4 : Int32) (s : zS), μ a1 a2 a3 a4 s = n → I a1 a2 a3 a4 s → Zn d [] [(39, 98)] ([(75, 0, 39), (75, 1, 57), (75, 2, 61)] : zW) ([(75, 0, 39), (75, 1, 57), (75, 2, 61)] : zW) xL_7 5 (some .int) xE_92 (xE_92.drop 17) [.ref 75, .int a1, .int a2, .int a3, .int a4, .null, .null] [] s Q := by
    intro n
    induction n using Nat.strongRecOn with
    | ind n ih =>
      intro a1 a2 a3 a4 s e hI
      exact m_92_17_39 hd (fun a1' a2' a3' a4' s' q => ih _ (by rw [← e]; exact q.2) a1' a2' a3' a4' s' rfl q.1) (h1 a1 a2 a3 a4 s hI)
  exact key _ a1 a2 a3 a4 s rfl h0
set_option maxRecDepth 20000 in
theorem m_92_0_39 {d d0 : Nat} (hd : d = d0 + 8)  {a1 : Int32} {s : zS} {Q : Option Value → zS → Prop}  (h : v_92_0 (fun j => Zt d (wd 39 j) j) 39  a1 s Q) : Zn d [] [(39, 98)] ([(75, 0, 39), (75, 1, 57), (75, 2, 61)] : zW) ([(75, 0, 39), (75, 1, 57), (75, 2, 61)] : zW) xL_7 5 (some .int) xE_92 (xE_92.drop 0) [.ref 75, .int a1, .null, .null, .null, .null, .null] [] s Q := by
  unfold v_92_0 at h
  refine zn_ld rfl rfl rfl ?_
  refine zn_c [.int 18738, .int a1] (xo_push (.int 18738)) rfl rfl ?_
  refine zn_brP rfl rfl ⟨fun hcn => ?_, fun hcn => ?_⟩
  · replace h := h.1 ((i_lt (x := a1) (y := 18738) rfl (show (18738 : Int32).toInt = 18738 by decide)).mp hcn)
    refine zn_ld rfl rfl rfl ?_
    refine zn_get (v := .ref 39) rfl (zv_C (a := 75) (n := 0) rfl rfl rfl) ?_
    refine zn_get (v := .int (s.1 39 10)) rfl (zv_I (a := 39) rfl rfl) ?_
    refine zn_st [.ref 75, .int a1, .int (s.1 39 10), .null, .null, .null, .null] rfl rfl rfl ?_
    refine zn_ld rfl rfl rfl ?_
    refine zn_ld rfl rfl rfl ?_
    refine zn_zt [.ref 75, .int a1] [] rfl rfl rfl rfl rfl (Zt.imp h (fun v1 s2 h => ?_))
    obtain ⟨x3, rfl, h⟩ := h
    change Zn _ _ _ _ _ _ _ _ _ _ _ [.int x3] _ _
    refine zn_ld rfl rfl rfl ?_
    replace h := h _ (i_sub (x := x3) (y := a1) rfl rfl)
    refine zn_c [.int (x3 - a1)] xo_isub rfl rfl ?_
    refine zn_st [.ref 75, .int a1, .int (s.1 39 10), .int (x3 - a1), .null, .null, .null] rfl rfl rfl ?_
    refine zn_c [.int 0] (xo_push (.int 0)) rfl rfl ?_
    refine zn_st [.ref 75, .int a1, .int (s.1 39 10), .int (x3 - a1), .int 0, .null, .null] rfl rfl rfl ?_
    exact ml_92_17_39 hd  h
  · replace h := h.2 (fun q => hcn ((i_lt (x := a1) (y := 18738) rfl (show (18738 : Int32).toInt = 18738 by decide)).mpr q))
    refine zn_ld rfl rfl rfl ?_
    exact zn_retI rfl h
theorem zq_92_39 {d : Nat} {a1 : Int32} {s : zS} {Q : Option Value → zS → Prop} (h : v_92_0 (fun j => Zt (d + 8) (wd 39 j) j) 39 a1 s Q) : Zt (d + 9) ([(75, 0, 39), (75, 1, 57), (75, 2, 61)] : zW) 92 [.ref 75, .int a1] s Q := zt_of (E := xE_92) (L := xL_7) (ml := 5) (ret := some .int) rfl rfl rfl (m_92_0_39 rfl h)
theorem zc_92 {d P : Nat} (hP : P = 3 ∨ P = 39) {a1 : Int32} {s : zS} {Q : Option Value → zS → Prop} (h : v_92_0 (fun j => Zt (d + 8) (wd P j) j) P a1 s Q) : Zt (d + 9) (wd P 92) 92 [.ref 75, .int a1] s Q := by
  rcases hP with rfl | rfl
  · exact zq_92_3 h
  · exact zq_92_39 h
