/-! ===== the class: Machine, over its whole state (wip/p3/zdec.py) ===== -/
/-! FeatherBench$Machine.push -/
def v_21_0 (T : Nat → List Value → zS → (Option Value → zS → Prop) → Prop) (P : Nat)  (a1 : Int32) (s : zS) (Q : Option Value → zS → Prop) : Prop :=
  (-1000 ≤ a1.toInt ∧ a1.toInt ≤ 1000000000) ∧ (∀ s1, s1 = zt s 106 (s.1 105 7) a1 → ∀ x2 : Int32, (-2147483648 ≤ (s1.1 105 7).toInt + 1 ∧ (s1.1 105 7).toInt + 1 ≤ 2147483647 → x2.toInt = (s1.1 105 7).toInt + 1) → ∀ s3, s3 = zf s1 105 7 x2 → Q none s3)
set_option maxRecDepth 20000 in
theorem m_21_0_3 {d d0 : Nat} (hd : d = d0 + 8)  {a1 : Int32} {s : zS} {Q : Option Value → zS → Prop}  (h : v_21_0 (fun j => Zt d (wd2 3 j) j) 3  a1 s Q) : Zn d [] [] ([(105, 5, 3), (75, 0, 3), (75, 1, 21), (75, 2, 25)] : zW) ([(105, 5, 3), (75, 0, 3), (75, 1, 21), (75, 2, 25)] : zW) xL_2 2 (none) xE_21 (xE_21.drop 0) [.ref 105, .int a1, .null, .null] [] s Q := by
  unfold v_21_0 at h
  refine zn_ld rfl rfl rfl ?_
  refine zn_get (v := .ref 106) rfl (zv_R (a := 105) rfl rfl) ?_
  refine zn_ld rfl rfl rfl ?_
  refine zn_get (v := .int (s.1 105 7)) rfl (zv_I (a := 105) rfl rfl) ?_
  refine zn_ld rfl rfl rfl ?_
  obtain ⟨hyS, h⟩ := h
  refine zn_set (s.1 105 7) a1 [] (a := 106) hd rfl rfl rfl rfl ⟨Int32.le_toInt _, Int.le_of_lt_add_one (Int32.toInt_lt _)⟩ rfl rfl ?_ (hy := fun _ => hyS)
  replace h := h _ rfl
  refine zn_ld rfl rfl rfl ?_
  refine zn_c [.ref 105, .ref 105] xo_dup rfl rfl ?_
  refine zn_get (v := .int ((zt s 106 (s.1 105 7) a1).1 105 7)) rfl (zv_I (a := 105) rfl rfl) ?_
  refine zn_c [.int 1, .int ((zt s 106 (s.1 105 7) a1).1 105 7), .ref 105] (xo_push (.int 1)) rfl rfl ?_
  replace h := h _ (i_add (x := (zt s 106 (s.1 105 7) a1).1 105 7) (y := 1) rfl (show (1 : Int32).toInt = 1 by decide))
  refine zn_c [.int (((zt s 106 (s.1 105 7) a1).1 105 7) + 1), .ref 105] xo_iadd rfl rfl ?_
  refine zn_putI (a := 105) rfl rfl rfl rfl ⟨Int32.le_toInt _, Int.le_of_lt_add_one (Int32.toInt_lt _)⟩ rfl rfl rfl ?_
  replace h := h _ rfl
  exact zn_ret0 rfl h
theorem zq_21_3 {d : Nat} {a1 : Int32} {s : zS} {Q : Option Value → zS → Prop} (h : v_21_0 (fun j => Zt (d + 8) (wd2 3 j) j) 3 a1 s Q) : Zt (d + 9) ([(105, 5, 3), (75, 0, 3), (75, 1, 21), (75, 2, 25)] : zW) 21 [.ref 105, .int a1] s Q := zt_of (E := xE_21) (L := xL_2) (ml := 2) (ret := none) rfl rfl rfl (m_21_0_3 rfl h)
set_option maxRecDepth 20000 in
theorem m_21_0_39 {d d0 : Nat} (hd : d = d0 + 8)  {a1 : Int32} {s : zS} {Q : Option Value → zS → Prop}  (h : v_21_0 (fun j => Zt d (wd2 39 j) j) 39  a1 s Q) : Zn d [] [] ([(105, 5, 39), (75, 0, 39), (75, 1, 57), (75, 2, 61)] : zW) ([(105, 5, 39), (75, 0, 39), (75, 1, 57), (75, 2, 61)] : zW) xL_2 2 (none) xE_21 (xE_21.drop 0) [.ref 105, .int a1, .null, .null] [] s Q := by
  unfold v_21_0 at h
  refine zn_ld rfl rfl rfl ?_
  refine zn_get (v := .ref 106) rfl (zv_R (a := 105) rfl rfl) ?_
  refine zn_ld rfl rfl rfl ?_
  refine zn_get (v := .int (s.1 105 7)) rfl (zv_I (a := 105) rfl rfl) ?_
  refine zn_ld rfl rfl rfl ?_
  obtain ⟨hyS, h⟩ := h
  refine zn_set (s.1 105 7) a1 [] (a := 106) hd rfl rfl rfl rfl ⟨Int32.le_toInt _, Int.le_of_lt_add_one (Int32.toInt_lt _)⟩ rfl rfl ?_ (hy := fun _ => hyS)
  replace h := h _ rfl
  refine zn_ld rfl rfl rfl ?_
  refine zn_c [.ref 105, .ref 105] xo_dup rfl rfl ?_
  refine zn_get (v := .int ((zt s 106 (s.1 105 7) a1).1 105 7)) rfl (zv_I (a := 105) rfl rfl) ?_
  refine zn_c [.int 1, .int ((zt s 106 (s.1 105 7) a1).1 105 7), .ref 105] (xo_push (.int 1)) rfl rfl ?_
  replace h := h _ (i_add (x := (zt s 106 (s.1 105 7) a1).1 105 7) (y := 1) rfl (show (1 : Int32).toInt = 1 by decide))
  refine zn_c [.int (((zt s 106 (s.1 105 7) a1).1 105 7) + 1), .ref 105] xo_iadd rfl rfl ?_
  refine zn_putI (a := 105) rfl rfl rfl rfl ⟨Int32.le_toInt _, Int.le_of_lt_add_one (Int32.toInt_lt _)⟩ rfl rfl rfl ?_
  replace h := h _ rfl
  exact zn_ret0 rfl h
theorem zq_21_39 {d : Nat} {a1 : Int32} {s : zS} {Q : Option Value → zS → Prop} (h : v_21_0 (fun j => Zt (d + 8) (wd2 39 j) j) 39 a1 s Q) : Zt (d + 9) ([(105, 5, 39), (75, 0, 39), (75, 1, 57), (75, 2, 61)] : zW) 21 [.ref 105, .int a1] s Q := zt_of (E := xE_21) (L := xL_2) (ml := 2) (ret := none) rfl rfl rfl (m_21_0_39 rfl h)
theorem zc_21 {d P : Nat} (hP : P = 3 ∨ P = 39) {a1 : Int32} {s : zS} {Q : Option Value → zS → Prop} (h : v_21_0 (fun j => Zt (d + 8) (wd2 P j) j) P a1 s Q) : Zt (d + 9) (wd2 P 21) 21 [.ref 105, .int a1] s Q := by
  rcases hP with rfl | rfl
  · exact zq_21_3 h
  · exact zq_21_39 h
/-! FeatherBench$Machine.pop -/
def v_22_0 (T : Nat → List Value → zS → (Option Value → zS → Prop) → Prop) (P : Nat)   (s : zS) (Q : Option Value → zS → Prop) : Prop :=
  ∀ x1 : Int32, (-2147483648 ≤ (s.1 105 7).toInt - 1 ∧ (s.1 105 7).toInt - 1 ≤ 2147483647 → x1.toInt = (s.1 105 7).toInt - 1) → ∀ s2, s2 = zf s 105 7 x1 → Q (some (.int (zg s2 106 (s2.1 105 7)))) s2
set_option maxRecDepth 20000 in
theorem m_22_0_3 {d d0 : Nat} (hd : d = d0 + 8)   {s : zS} {Q : Option Value → zS → Prop}  (h : v_22_0 (fun j => Zt d (wd2 3 j) j) 3   s Q) : Zn d [] [] ([(105, 5, 3), (75, 0, 3), (75, 1, 21), (75, 2, 25)] : zW) ([(105, 5, 3), (75, 0, 3), (75, 1, 21), (75, 2, 25)] : zW) xL_2 1 (some .int) xE_22 (xE_22.drop 0) [.ref 105, .null] [] s Q := by
  unfold v_22_0 at h
  refine zn_ld rfl rfl rfl ?_
  refine zn_c [.ref 105, .ref 105] xo_dup rfl rfl ?_
  refine zn_get (v := .int (s.1 105 7)) rfl (zv_I (a := 105) rfl rfl) ?_
  refine zn_c [.int 1, .int (s.1 105 7), .ref 105] (xo_push (.int 1)) rfl rfl ?_
  replace h := h _ (i_sub (x := s.1 105 7) (y := 1) rfl (show (1 : Int32).toInt = 1 by decide))
  refine zn_c [.int ((s.1 105 7) - 1), .ref 105] xo_isub rfl rfl ?_
  refine zn_putI (a := 105) rfl rfl rfl rfl ⟨Int32.le_toInt _, Int.le_of_lt_add_one (Int32.toInt_lt _)⟩ rfl rfl rfl ?_
  replace h := h _ rfl
  refine zn_ld rfl rfl rfl ?_
  refine zn_get (v := .ref 106) rfl (zv_R (a := 105) rfl rfl) ?_
  refine zn_ld rfl rfl rfl ?_
  refine zn_get (v := .int ((zf s 105 7 ((s.1 105 7) - 1)).1 105 7)) rfl (zv_I (a := 105) rfl rfl) ?_
  refine zn_row ((zf s 105 7 ((s.1 105 7) - 1)).1 105 7) [] (a := 106) hd rfl rfl rfl rfl ?_
  change Zn _ _ _ _ _ _ _ _ _ _ _ [.int (zg (zf s 105 7 ((s.1 105 7) - 1)) 106 ((zf s 105 7 ((s.1 105 7) - 1)).1 105 7))] _ _
  exact zn_retI rfl h
theorem zq_22_3 {d : Nat}  {s : zS} {Q : Option Value → zS → Prop} (h : v_22_0 (fun j => Zt (d + 8) (wd2 3 j) j) 3  s Q) : Zt (d + 9) ([(105, 5, 3), (75, 0, 3), (75, 1, 21), (75, 2, 25)] : zW) 22 [.ref 105] s Q := zt_of (E := xE_22) (L := xL_2) (ml := 1) (ret := some .int) rfl rfl rfl (m_22_0_3 rfl h)
set_option maxRecDepth 20000 in
theorem m_22_0_39 {d d0 : Nat} (hd : d = d0 + 8)   {s : zS} {Q : Option Value → zS → Prop}  (h : v_22_0 (fun j => Zt d (wd2 39 j) j) 39   s Q) : Zn d [] [] ([(105, 5, 39), (75, 0, 39), (75, 1, 57), (75, 2, 61)] : zW) ([(105, 5, 39), (75, 0, 39), (75, 1, 57), (75, 2, 61)] : zW) xL_2 1 (some .int) xE_22 (xE_22.drop 0) [.ref 105, .null] [] s Q := by
  unfold v_22_0 at h
  refine zn_ld rfl rfl rfl ?_
  refine zn_c [.ref 105, .ref 105] xo_dup rfl rfl ?_
  refine zn_get (v := .int (s.1 105 7)) rfl (zv_I (a := 105) rfl rfl) ?_
  refine zn_c [.int 1, .int (s.1 105 7), .ref 105] (xo_push (.int 1)) rfl rfl ?_
  replace h := h _ (i_sub (x := s.1 105 7) (y := 1) rfl (show (1 : Int32).toInt = 1 by decide))
  refine zn_c [.int ((s.1 105 7) - 1), .ref 105] xo_isub rfl rfl ?_
  refine zn_putI (a := 105) rfl rfl rfl rfl ⟨Int32.le_toInt _, Int.le_of_lt_add_one (Int32.toInt_lt _)⟩ rfl rfl rfl ?_
  replace h := h _ rfl
  refine zn_ld rfl rfl rfl ?_
  refine zn_get (v := .ref 106) rfl (zv_R (a := 105) rfl rfl) ?_
  refine zn_ld rfl rfl rfl ?_
  refine zn_get (v := .int ((zf s 105 7 ((s.1 105 7) - 1)).1 105 7)) rfl (zv_I (a := 105) rfl rfl) ?_
  refine zn_row ((zf s 105 7 ((s.1 105 7) - 1)).1 105 7) [] (a := 106) hd rfl rfl rfl rfl ?_
  change Zn _ _ _ _ _ _ _ _ _ _ _ [.int (zg (zf s 105 7 ((s.1 105 7) - 1)) 106 ((zf s 105 7 ((s.1 105 7) - 1)).1 105 7))] _ _
  exact zn_retI rfl h
theorem zq_22_39 {d : Nat}  {s : zS} {Q : Option Value → zS → Prop} (h : v_22_0 (fun j => Zt (d + 8) (wd2 39 j) j) 39  s Q) : Zt (d + 9) ([(105, 5, 39), (75, 0, 39), (75, 1, 57), (75, 2, 61)] : zW) 22 [.ref 105] s Q := zt_of (E := xE_22) (L := xL_2) (ml := 1) (ret := some .int) rfl rfl rfl (m_22_0_39 rfl h)
theorem zc_22 {d P : Nat} (hP : P = 3 ∨ P = 39)  {s : zS} {Q : Option Value → zS → Prop} (h : v_22_0 (fun j => Zt (d + 8) (wd2 P j) j) P  s Q) : Zt (d + 9) (wd2 P 22) 22 [.ref 105] s Q := by
  rcases hP with rfl | rfl
  · exact zq_22_3 h
  · exact zq_22_39 h
/-! FeatherBench$Machine.take -/
def v_23_46 (T : Nat → List Value → zS → (Option Value → zS → Prop) → Prop) (P : Nat)  (a1 : Int32) (a2 : Int32) (s : zS) (Q : Option Value → zS → Prop) : Prop :=
  (a2.toInt = 0 ∨ a2.toInt = 1) ∧ Q (some (.int a2)) s
def v_23_32 (T : Nat → List Value → zS → (Option Value → zS → Prop) → Prop) (P : Nat)  (a1 : Int32) (a2 : Int32) (s : zS) (Q : Option Value → zS → Prop) : Prop :=
  (a2.toInt = 0 → v_23_46 T P  a1 a2 s Q) ∧ (¬ (a2.toInt = 0) → ∀ x1 : Int32, (-2147483648 ≤ (s.1 105 10).toInt + a1.toInt ∧ (s.1 105 10).toInt + a1.toInt ≤ 2147483647 → x1.toInt = (s.1 105 10).toInt + a1.toInt) → ∀ s2, s2 = zf s 105 10 x1 → ∀ x3 : Int32, (-2147483648 ≤ (s2.1 105 9).toInt - a1.toInt ∧ (s2.1 105 9).toInt - a1.toInt ≤ 2147483647 → x3.toInt = (s2.1 105 9).toInt - a1.toInt) → ∀ s4, s4 = zf s2 105 9 x3 → v_23_46 T P  a1 a2 s4 Q)
def v_23_11 (T : Nat → List Value → zS → (Option Value → zS → Prop) → Prop) (P : Nat)  (a1 : Int32) (t0 : Int32) (s : zS) (Q : Option Value → zS → Prop) : Prop :=
  (¬ ((s.1 105 13).toInt = 5) → v_23_32 T P  a1 t0 s Q) ∧ ((s.1 105 13).toInt = 5 → (¬ (t0.toInt = 0) → v_23_32 T P  a1 t0 s Q) ∧ (t0.toInt = 0 → ∀ s1, s1 = zf s 105 13 2 → ∀ x2 : Int32, (-2147483648 ≤ (s1.1 105 10).toInt + (s1.1 105 9).toInt ∧ (s1.1 105 10).toInt + (s1.1 105 9).toInt ≤ 2147483647 → x2.toInt = (s1.1 105 10).toInt + (s1.1 105 9).toInt) → ∀ s3, s3 = zf s1 105 10 x2 → ∀ s4, s4 = zf s3 105 9 0 → v_23_46 T P  a1 t0 s4 Q))
def v_23_10 (T : Nat → List Value → zS → (Option Value → zS → Prop) → Prop) (P : Nat)  (a1 : Int32) (s : zS) (Q : Option Value → zS → Prop) : Prop :=
  v_23_11 T P  a1 0 s Q
def v_23_0 (T : Nat → List Value → zS → (Option Value → zS → Prop) → Prop) (P : Nat)  (a1 : Int32) (s : zS) (Q : Option Value → zS → Prop) : Prop :=
  (¬ ((s.1 105 13).toInt = 5) → v_23_10 T P  a1 s Q) ∧ ((s.1 105 13).toInt = 5 → ((s.1 105 9).toInt < a1.toInt → v_23_10 T P  a1 s Q) ∧ (¬ ((s.1 105 9).toInt < a1.toInt) → v_23_11 T P  a1 1 s Q))
set_option maxRecDepth 20000 in
theorem m_23_46_3 {d d0 : Nat} (hd : d = d0 + 8)  {a1 : Int32} {a2 : Int32} {s : zS} {Q : Option Value → zS → Prop}  (h : v_23_46 (fun j => Zt d (wd2 3 j) j) 3  a1 a2 s Q) : Zn d [] [] ([(105, 5, 3), (75, 0, 3), (75, 1, 21), (75, 2, 25)] : zW) ([(105, 5, 3), (75, 0, 3), (75, 1, 21), (75, 2, 25)] : zW) xL_2 3 (some .boolean) xE_23 (xE_23.drop 46) [.ref 105, .int a1, .int a2, .null, .null] [] s Q := by
  unfold v_23_46 at h
  refine zn_ld rfl rfl rfl ?_
  exact zn_retZ rfl (i_z (x := a2) rfl h.1) h.2
set_option maxRecDepth 20000 in
theorem m_23_32_3 {d d0 : Nat} (hd : d = d0 + 8)  {a1 : Int32} {a2 : Int32} {s : zS} {Q : Option Value → zS → Prop}  (h : v_23_32 (fun j => Zt d (wd2 3 j) j) 3  a1 a2 s Q) : Zn d [] [] ([(105, 5, 3), (75, 0, 3), (75, 1, 21), (75, 2, 25)] : zW) ([(105, 5, 3), (75, 0, 3), (75, 1, 21), (75, 2, 25)] : zW) xL_2 3 (some .boolean) xE_23 (xE_23.drop 32) [.ref 105, .int a1, .int a2, .null, .null] [] s Q := by
  unfold v_23_32 at h
  refine zn_ld rfl rfl rfl ?_
  refine zn_brP rfl rfl ⟨fun hcn => ?_, fun hcn => ?_⟩
  · replace h := h.1 ((i_eq (x := a2) (y := 0) rfl (show (0 : Int32).toInt = 0 by decide)).mp hcn)
    exact m_23_46_3 hd  h
  · replace h := h.2 (fun q => hcn ((i_eq (x := a2) (y := 0) rfl (show (0 : Int32).toInt = 0 by decide)).mpr q))
    refine zn_ld rfl rfl rfl ?_
    refine zn_c [.ref 105, .ref 105] xo_dup rfl rfl ?_
    refine zn_get (v := .int (s.1 105 10)) rfl (zv_I (a := 105) rfl rfl) ?_
    refine zn_ld rfl rfl rfl ?_
    replace h := h _ (i_add (x := s.1 105 10) (y := a1) rfl rfl)
    refine zn_c [.int ((s.1 105 10) + a1), .ref 105] xo_iadd rfl rfl ?_
    refine zn_putI (a := 105) rfl rfl rfl rfl ⟨Int32.le_toInt _, Int.le_of_lt_add_one (Int32.toInt_lt _)⟩ rfl rfl rfl ?_
    replace h := h _ rfl
    refine zn_ld rfl rfl rfl ?_
    refine zn_c [.ref 105, .ref 105] xo_dup rfl rfl ?_
    refine zn_get (v := .int ((zf s 105 10 ((s.1 105 10) + a1)).1 105 9)) rfl (zv_I (a := 105) rfl rfl) ?_
    refine zn_ld rfl rfl rfl ?_
    replace h := h _ (i_sub (x := (zf s 105 10 ((s.1 105 10) + a1)).1 105 9) (y := a1) rfl rfl)
    refine zn_c [.int (((zf s 105 10 ((s.1 105 10) + a1)).1 105 9) - a1), .ref 105] xo_isub rfl rfl ?_
    refine zn_putI (a := 105) rfl rfl rfl rfl ⟨Int32.le_toInt _, Int.le_of_lt_add_one (Int32.toInt_lt _)⟩ rfl rfl rfl ?_
    replace h := h _ rfl
    exact m_23_46_3 hd  h
set_option maxRecDepth 20000 in
theorem m_23_11_3 {d d0 : Nat} (hd : d = d0 + 8)  {a1 : Int32} {t0 : Int32} {s : zS} {Q : Option Value → zS → Prop}  (h : v_23_11 (fun j => Zt d (wd2 3 j) j) 3  a1 t0 s Q) : Zn d [] [] ([(105, 5, 3), (75, 0, 3), (75, 1, 21), (75, 2, 25)] : zW) ([(105, 5, 3), (75, 0, 3), (75, 1, 21), (75, 2, 25)] : zW) xL_2 3 (some .boolean) xE_23 (xE_23.drop 11) [.ref 105, .int a1, .null, .null, .null] [.int t0] s Q := by
  unfold v_23_11 at h
  refine zn_st [.ref 105, .int a1, .int t0, .null, .null] rfl rfl rfl ?_
  refine zn_ld rfl rfl rfl ?_
  refine zn_get (v := .int (s.1 105 13)) rfl (zv_I (a := 105) rfl rfl) ?_
  refine zn_c [.int 5, .int (s.1 105 13)] (xo_push (.int 5)) rfl rfl ?_
  refine zn_brN rfl rfl ⟨fun hcn => ?_, fun hcn => ?_⟩
  · replace h := h.1 (fun q => hcn ((i_eq (x := s.1 105 13) (y := 5) rfl (show (5 : Int32).toInt = 5 by decide)).mpr q))
    exact m_23_32_3 hd  h
  · replace h := h.2 ((i_eq (x := s.1 105 13) (y := 5) rfl (show (5 : Int32).toInt = 5 by decide)).mp hcn)
    refine zn_ld rfl rfl rfl ?_
    refine zn_brN rfl rfl ⟨fun hcn => ?_, fun hcn => ?_⟩
    · replace h := h.1 (fun q => hcn ((i_eq (x := t0) (y := 0) rfl (show (0 : Int32).toInt = 0 by decide)).mpr q))
      exact m_23_32_3 hd  h
    · replace h := h.2 ((i_eq (x := t0) (y := 0) rfl (show (0 : Int32).toInt = 0 by decide)).mp hcn)
      refine zn_ld rfl rfl rfl ?_
      refine zn_c [.int 2, .ref 105] (xo_push (.int 2)) rfl rfl ?_
      refine zn_putI (a := 105) rfl rfl rfl rfl ⟨Int32.le_toInt _, Int.le_of_lt_add_one (Int32.toInt_lt _)⟩ rfl rfl rfl ?_
      replace h := h _ rfl
      refine zn_ld rfl rfl rfl ?_
      refine zn_c [.ref 105, .ref 105] xo_dup rfl rfl ?_
      refine zn_get (v := .int ((zf s 105 13 2).1 105 10)) rfl (zv_I (a := 105) rfl rfl) ?_
      refine zn_ld rfl rfl rfl ?_
      refine zn_get (v := .int ((zf s 105 13 2).1 105 9)) rfl (zv_I (a := 105) rfl rfl) ?_
      replace h := h _ (i_add (x := (zf s 105 13 2).1 105 10) (y := (zf s 105 13 2).1 105 9) rfl rfl)
      refine zn_c [.int (((zf s 105 13 2).1 105 10) + ((zf s 105 13 2).1 105 9)), .ref 105] xo_iadd rfl rfl ?_
      refine zn_putI (a := 105) rfl rfl rfl rfl ⟨Int32.le_toInt _, Int.le_of_lt_add_one (Int32.toInt_lt _)⟩ rfl rfl rfl ?_
      replace h := h _ rfl
      refine zn_ld rfl rfl rfl ?_
      refine zn_c [.int 0, .ref 105] (xo_push (.int 0)) rfl rfl ?_
      refine zn_putI (a := 105) rfl rfl rfl rfl ⟨Int32.le_toInt _, Int.le_of_lt_add_one (Int32.toInt_lt _)⟩ rfl rfl rfl ?_
      replace h := h _ rfl
      refine zn_go rfl ?_
      exact m_23_46_3 hd  h
set_option maxRecDepth 20000 in
theorem m_23_10_3 {d d0 : Nat} (hd : d = d0 + 8)  {a1 : Int32} {s : zS} {Q : Option Value → zS → Prop}  (h : v_23_10 (fun j => Zt d (wd2 3 j) j) 3  a1 s Q) : Zn d [] [] ([(105, 5, 3), (75, 0, 3), (75, 1, 21), (75, 2, 25)] : zW) ([(105, 5, 3), (75, 0, 3), (75, 1, 21), (75, 2, 25)] : zW) xL_2 3 (some .boolean) xE_23 (xE_23.drop 10) [.ref 105, .int a1, .null, .null, .null] [] s Q := by
  unfold v_23_10 at h
  refine zn_c [.int 0] (xo_push (.int 0)) rfl rfl ?_
  exact m_23_11_3 hd  h
set_option maxRecDepth 20000 in
theorem m_23_0_3 {d d0 : Nat} (hd : d = d0 + 8)  {a1 : Int32} {s : zS} {Q : Option Value → zS → Prop}  (h : v_23_0 (fun j => Zt d (wd2 3 j) j) 3  a1 s Q) : Zn d [] [] ([(105, 5, 3), (75, 0, 3), (75, 1, 21), (75, 2, 25)] : zW) ([(105, 5, 3), (75, 0, 3), (75, 1, 21), (75, 2, 25)] : zW) xL_2 3 (some .boolean) xE_23 (xE_23.drop 0) [.ref 105, .int a1, .null, .null, .null] [] s Q := by
  unfold v_23_0 at h
  refine zn_ld rfl rfl rfl ?_
  refine zn_get (v := .int (s.1 105 13)) rfl (zv_I (a := 105) rfl rfl) ?_
  refine zn_c [.int 5, .int (s.1 105 13)] (xo_push (.int 5)) rfl rfl ?_
  refine zn_brN rfl rfl ⟨fun hcn => ?_, fun hcn => ?_⟩
  · replace h := h.1 (fun q => hcn ((i_eq (x := s.1 105 13) (y := 5) rfl (show (5 : Int32).toInt = 5 by decide)).mpr q))
    exact m_23_10_3 hd  h
  · replace h := h.2 ((i_eq (x := s.1 105 13) (y := 5) rfl (show (5 : Int32).toInt = 5 by decide)).mp hcn)
    refine zn_ld rfl rfl rfl ?_
    refine zn_ld rfl rfl rfl ?_
    refine zn_get (v := .int (s.1 105 9)) rfl (zv_I (a := 105) rfl rfl) ?_
    refine zn_brP rfl rfl ⟨fun hcn => ?_, fun hcn => ?_⟩
    · replace h := h.1 ((i_lt (x := s.1 105 9) (y := a1) rfl rfl).mp hcn)
      exact m_23_10_3 hd  h
    · replace h := h.2 (fun q => hcn ((i_lt (x := s.1 105 9) (y := a1) rfl rfl).mpr q))
      refine zn_c [.int 1] (xo_push (.int 1)) rfl rfl ?_
      refine zn_go rfl ?_
      exact m_23_11_3 hd  h
theorem zq_23_3 {d : Nat} {a1 : Int32} {s : zS} {Q : Option Value → zS → Prop} (h : v_23_0 (fun j => Zt (d + 8) (wd2 3 j) j) 3 a1 s Q) : Zt (d + 9) ([(105, 5, 3), (75, 0, 3), (75, 1, 21), (75, 2, 25)] : zW) 23 [.ref 105, .int a1] s Q := zt_of (E := xE_23) (L := xL_2) (ml := 3) (ret := some .boolean) rfl rfl rfl (m_23_0_3 rfl h)
set_option maxRecDepth 20000 in
theorem m_23_46_39 {d d0 : Nat} (hd : d = d0 + 8)  {a1 : Int32} {a2 : Int32} {s : zS} {Q : Option Value → zS → Prop}  (h : v_23_46 (fun j => Zt d (wd2 39 j) j) 39  a1 a2 s Q) : Zn d [] [] ([(105, 5, 39), (75, 0, 39), (75, 1, 57), (75, 2, 61)] : zW) ([(105, 5, 39), (75, 0, 39), (75, 1, 57), (75, 2, 61)] : zW) xL_2 3 (some .boolean) xE_23 (xE_23.drop 46) [.ref 105, .int a1, .int a2, .null, .null] [] s Q := by
  unfold v_23_46 at h
  refine zn_ld rfl rfl rfl ?_
  exact zn_retZ rfl (i_z (x := a2) rfl h.1) h.2
set_option maxRecDepth 20000 in
theorem m_23_32_39 {d d0 : Nat} (hd : d = d0 + 8)  {a1 : Int32} {a2 : Int32} {s : zS} {Q : Option Value → zS → Prop}  (h : v_23_32 (fun j => Zt d (wd2 39 j) j) 39  a1 a2 s Q) : Zn d [] [] ([(105, 5, 39), (75, 0, 39), (75, 1, 57), (75, 2, 61)] : zW) ([(105, 5, 39), (75, 0, 39), (75, 1, 57), (75, 2, 61)] : zW) xL_2 3 (some .boolean) xE_23 (xE_23.drop 32) [.ref 105, .int a1, .int a2, .null, .null] [] s Q := by
  unfold v_23_32 at h
  refine zn_ld rfl rfl rfl ?_
  refine zn_brP rfl rfl ⟨fun hcn => ?_, fun hcn => ?_⟩
  · replace h := h.1 ((i_eq (x := a2) (y := 0) rfl (show (0 : Int32).toInt = 0 by decide)).mp hcn)
    exact m_23_46_39 hd  h
  · replace h := h.2 (fun q => hcn ((i_eq (x := a2) (y := 0) rfl (show (0 : Int32).toInt = 0 by decide)).mpr q))
    refine zn_ld rfl rfl rfl ?_
    refine zn_c [.ref 105, .ref 105] xo_dup rfl rfl ?_
    refine zn_get (v := .int (s.1 105 10)) rfl (zv_I (a := 105) rfl rfl) ?_
    refine zn_ld rfl rfl rfl ?_
    replace h := h _ (i_add (x := s.1 105 10) (y := a1) rfl rfl)
    refine zn_c [.int ((s.1 105 10) + a1), .ref 105] xo_iadd rfl rfl ?_
    refine zn_putI (a := 105) rfl rfl rfl rfl ⟨Int32.le_toInt _, Int.le_of_lt_add_one (Int32.toInt_lt _)⟩ rfl rfl rfl ?_
    replace h := h _ rfl
    refine zn_ld rfl rfl rfl ?_
    refine zn_c [.ref 105, .ref 105] xo_dup rfl rfl ?_
    refine zn_get (v := .int ((zf s 105 10 ((s.1 105 10) + a1)).1 105 9)) rfl (zv_I (a := 105) rfl rfl) ?_
    refine zn_ld rfl rfl rfl ?_
    replace h := h _ (i_sub (x := (zf s 105 10 ((s.1 105 10) + a1)).1 105 9) (y := a1) rfl rfl)
    refine zn_c [.int (((zf s 105 10 ((s.1 105 10) + a1)).1 105 9) - a1), .ref 105] xo_isub rfl rfl ?_
    refine zn_putI (a := 105) rfl rfl rfl rfl ⟨Int32.le_toInt _, Int.le_of_lt_add_one (Int32.toInt_lt _)⟩ rfl rfl rfl ?_
    replace h := h _ rfl
    exact m_23_46_39 hd  h
set_option maxRecDepth 20000 in
theorem m_23_11_39 {d d0 : Nat} (hd : d = d0 + 8)  {a1 : Int32} {t0 : Int32} {s : zS} {Q : Option Value → zS → Prop}  (h : v_23_11 (fun j => Zt d (wd2 39 j) j) 39  a1 t0 s Q) : Zn d [] [] ([(105, 5, 39), (75, 0, 39), (75, 1, 57), (75, 2, 61)] : zW) ([(105, 5, 39), (75, 0, 39), (75, 1, 57), (75, 2, 61)] : zW) xL_2 3 (some .boolean) xE_23 (xE_23.drop 11) [.ref 105, .int a1, .null, .null, .null] [.int t0] s Q := by
  unfold v_23_11 at h
  refine zn_st [.ref 105, .int a1, .int t0, .null, .null] rfl rfl rfl ?_
  refine zn_ld rfl rfl rfl ?_
  refine zn_get (v := .int (s.1 105 13)) rfl (zv_I (a := 105) rfl rfl) ?_
  refine zn_c [.int 5, .int (s.1 105 13)] (xo_push (.int 5)) rfl rfl ?_
  refine zn_brN rfl rfl ⟨fun hcn => ?_, fun hcn => ?_⟩
  · replace h := h.1 (fun q => hcn ((i_eq (x := s.1 105 13) (y := 5) rfl (show (5 : Int32).toInt = 5 by decide)).mpr q))
    exact m_23_32_39 hd  h
  · replace h := h.2 ((i_eq (x := s.1 105 13) (y := 5) rfl (show (5 : Int32).toInt = 5 by decide)).mp hcn)
    refine zn_ld rfl rfl rfl ?_
    refine zn_brN rfl rfl ⟨fun hcn => ?_, fun hcn => ?_⟩
    · replace h := h.1 (fun q => hcn ((i_eq (x := t0) (y := 0) rfl (show (0 : Int32).toInt = 0 by decide)).mpr q))
      exact m_23_32_39 hd  h
    · replace h := h.2 ((i_eq (x := t0) (y := 0) rfl (show (0 : Int32).toInt = 0 by decide)).mp hcn)
      refine zn_ld rfl rfl rfl ?_
      refine zn_c [.int 2, .ref 105] (xo_push (.int 2)) rfl rfl ?_
      refine zn_putI (a := 105) rfl rfl rfl rfl ⟨Int32.le_toInt _, Int.le_of_lt_add_one (Int32.toInt_lt _)⟩ rfl rfl rfl ?_
      replace h := h _ rfl
      refine zn_ld rfl rfl rfl ?_
      refine zn_c [.ref 105, .ref 105] xo_dup rfl rfl ?_
      refine zn_get (v := .int ((zf s 105 13 2).1 105 10)) rfl (zv_I (a := 105) rfl rfl) ?_
      refine zn_ld rfl rfl rfl ?_
      refine zn_get (v := .int ((zf s 105 13 2).1 105 9)) rfl (zv_I (a := 105) rfl rfl) ?_
      replace h := h _ (i_add (x := (zf s 105 13 2).1 105 10) (y := (zf s 105 13 2).1 105 9) rfl rfl)
      refine zn_c [.int (((zf s 105 13 2).1 105 10) + ((zf s 105 13 2).1 105 9)), .ref 105] xo_iadd rfl rfl ?_
      refine zn_putI (a := 105) rfl rfl rfl rfl ⟨Int32.le_toInt _, Int.le_of_lt_add_one (Int32.toInt_lt _)⟩ rfl rfl rfl ?_
      replace h := h _ rfl
      refine zn_ld rfl rfl rfl ?_
      refine zn_c [.int 0, .ref 105] (xo_push (.int 0)) rfl rfl ?_
      refine zn_putI (a := 105) rfl rfl rfl rfl ⟨Int32.le_toInt _, Int.le_of_lt_add_one (Int32.toInt_lt _)⟩ rfl rfl rfl ?_
      replace h := h _ rfl
      refine zn_go rfl ?_
      exact m_23_46_39 hd  h
set_option maxRecDepth 20000 in
theorem m_23_10_39 {d d0 : Nat} (hd : d = d0 + 8)  {a1 : Int32} {s : zS} {Q : Option Value → zS → Prop}  (h : v_23_10 (fun j => Zt d (wd2 39 j) j) 39  a1 s Q) : Zn d [] [] ([(105, 5, 39), (75, 0, 39), (75, 1, 57), (75, 2, 61)] : zW) ([(105, 5, 39), (75, 0, 39), (75, 1, 57), (75, 2, 61)] : zW) xL_2 3 (some .boolean) xE_23 (xE_23.drop 10) [.ref 105, .int a1, .null, .null, .null] [] s Q := by
  unfold v_23_10 at h
  refine zn_c [.int 0] (xo_push (.int 0)) rfl rfl ?_
  exact m_23_11_39 hd  h
set_option maxRecDepth 20000 in
theorem m_23_0_39 {d d0 : Nat} (hd : d = d0 + 8)  {a1 : Int32} {s : zS} {Q : Option Value → zS → Prop}  (h : v_23_0 (fun j => Zt d (wd2 39 j) j) 39  a1 s Q) : Zn d [] [] ([(105, 5, 39), (75, 0, 39), (75, 1, 57), (75, 2, 61)] : zW) ([(105, 5, 39), (75, 0, 39), (75, 1, 57), (75, 2, 61)] : zW) xL_2 3 (some .boolean) xE_23 (xE_23.drop 0) [.ref 105, .int a1, .null, .null, .null] [] s Q := by
  unfold v_23_0 at h
  refine zn_ld rfl rfl rfl ?_
  refine zn_get (v := .int (s.1 105 13)) rfl (zv_I (a := 105) rfl rfl) ?_
  refine zn_c [.int 5, .int (s.1 105 13)] (xo_push (.int 5)) rfl rfl ?_
  refine zn_brN rfl rfl ⟨fun hcn => ?_, fun hcn => ?_⟩
  · replace h := h.1 (fun q => hcn ((i_eq (x := s.1 105 13) (y := 5) rfl (show (5 : Int32).toInt = 5 by decide)).mpr q))
    exact m_23_10_39 hd  h
  · replace h := h.2 ((i_eq (x := s.1 105 13) (y := 5) rfl (show (5 : Int32).toInt = 5 by decide)).mp hcn)
    refine zn_ld rfl rfl rfl ?_
    refine zn_ld rfl rfl rfl ?_
    refine zn_get (v := .int (s.1 105 9)) rfl (zv_I (a := 105) rfl rfl) ?_
    refine zn_brP rfl rfl ⟨fun hcn => ?_, fun hcn => ?_⟩
    · replace h := h.1 ((i_lt (x := s.1 105 9) (y := a1) rfl rfl).mp hcn)
      exact m_23_10_39 hd  h
    · replace h := h.2 (fun q => hcn ((i_lt (x := s.1 105 9) (y := a1) rfl rfl).mpr q))
      refine zn_c [.int 1] (xo_push (.int 1)) rfl rfl ?_
      refine zn_go rfl ?_
      exact m_23_11_39 hd  h
theorem zq_23_39 {d : Nat} {a1 : Int32} {s : zS} {Q : Option Value → zS → Prop} (h : v_23_0 (fun j => Zt (d + 8) (wd2 39 j) j) 39 a1 s Q) : Zt (d + 9) ([(105, 5, 39), (75, 0, 39), (75, 1, 57), (75, 2, 61)] : zW) 23 [.ref 105, .int a1] s Q := zt_of (E := xE_23) (L := xL_2) (ml := 3) (ret := some .boolean) rfl rfl rfl (m_23_0_39 rfl h)
theorem zc_23 {d P : Nat} (hP : P = 3 ∨ P = 39) {a1 : Int32} {s : zS} {Q : Option Value → zS → Prop} (h : v_23_0 (fun j => Zt (d + 8) (wd2 P j) j) P a1 s Q) : Zt (d + 9) (wd2 P 23) 23 [.ref 105, .int a1] s Q := by
  rcases hP with rfl | rfl
  · exact zq_23_3 h
  · exact zq_23_39 h
/-! FeatherBench$Machine.putType -/
def v_25_28 (T : Nat → List Value → zS → (Option Value → zS → Prop) → Prop) (P : Nat)  (a1 : Int32) (a2 : Int32) (s : zS) (Q : Option Value → zS → Prop) : Prop :=
  Q (some (.int a2)) s
def v_25_0 (T : Nat → List Value → zS → (Option Value → zS → Prop) → Prop) (P : Nat)  (a1 : Int32) (s : zS) (Q : Option Value → zS → Prop) : Prop :=
  T 24 [.ref 105, .int (s.1 105 8)] s (fun v1 s2 => ∃ e : Nat, skE e = true ∧ v1 = some (.ref e) ∧ (T 87 [.ref 75, .int a1, .ref e] s2 (fun v3 s4 => ∃ x5, v3 = some (.int x5) ∧ ((0 ≤ x5.toInt → (x5.toInt = a1.toInt → v_25_28 T P  a1 x5 s4 Q) ∧ (¬ (x5.toInt = a1.toInt) → T 83 [.ref 75, .int x5] s4 (fun v6 s7 => ∃ x8, v6 = some (.int x8) ∧ (∀ x9 : Int32, (-2147483648 ≤ x8.toInt - x5.toInt ∧ x8.toInt - x5.toInt ≤ 2147483647 → x9.toInt = x8.toInt - x5.toInt) → T 23 [.ref 105, .int x9] s7 (fun v10 s11 => ∃ x12, v10 = some (.int x12) ∧ (v_25_28 T P  a1 x5 s11 Q)))))) ∧ (¬ (0 ≤ x5.toInt) → ∀ s13, s13 = zf s4 105 13 4 → Q (some (.int a1)) s13)))))
set_option maxRecDepth 20000 in
theorem m_25_28_3 {d d0 : Nat} (hd : d = d0 + 8)  {a1 : Int32} {a2 : Int32} {s : zS} {Q : Option Value → zS → Prop}  (h : v_25_28 (fun j => Zt d (wd2 3 j) j) 3  a1 a2 s Q) : Zn d [] [(3, 98)] ([(105, 5, 3), (75, 0, 3), (75, 1, 21), (75, 2, 25)] : zW) ([(105, 5, 3), (75, 0, 3), (75, 1, 21), (75, 2, 25)] : zW) xL_2 3 (some .int) xE_25 (xE_25.drop 28) [.ref 105, .int a1, .int a2, .null, .null] [] s Q := by
  unfold v_25_28 at h
  refine zn_ld rfl rfl rfl ?_
  exact zn_retI rfl h
set_option maxRecDepth 20000 in
theorem m_25_0_3 {d d0 : Nat} (hd : d = d0 + 8)  {a1 : Int32} {s : zS} {Q : Option Value → zS → Prop}  (h : v_25_0 (fun j => Zt d (wd2 3 j) j) 3  a1 s Q) : Zn d [] [(3, 98)] ([(105, 5, 3), (75, 0, 3), (75, 1, 21), (75, 2, 25)] : zW) ([(105, 5, 3), (75, 0, 3), (75, 1, 21), (75, 2, 25)] : zW) xL_2 3 (some .int) xE_25 (xE_25.drop 0) [.ref 105, .int a1, .null, .null, .null] [] s Q := by
  unfold v_25_0 at h
  refine zn_ld rfl rfl rfl ?_
  refine zn_get (v := .ref 75) rfl (zv_R (a := 105) rfl rfl) ?_
  refine zn_ld rfl rfl rfl ?_
  refine zn_ld rfl rfl rfl ?_
  refine zn_ld rfl rfl rfl ?_
  refine zn_get (v := .int (s.1 105 8)) rfl (zv_I (a := 105) rfl rfl) ?_
  refine zn_zt [.ref 105, .int (s.1 105 8)] [.int a1, .ref 75] rfl rfl rfl rfl rfl (Zt.imp h (fun v1 s2 h => ?_))
  obtain ⟨e, he, rfl, h⟩ := h
  change Zn _ _ _ _ _ _ _ _ _ _ _ [.ref e, .int a1, .ref 75] _ _
  refine zn_zt [.ref 75, .int a1, .ref e] [] rfl rfl rfl rfl rfl (Zt.imp h (fun v3 s4 h => ?_))
  obtain ⟨x5, rfl, h⟩ := h
  change Zn _ _ _ _ _ _ _ _ _ _ _ [.int x5] _ _
  refine zn_st [.ref 105, .int a1, .int x5, .null, .null] rfl rfl rfl ?_
  refine zn_ld rfl rfl rfl ?_
  refine zn_brP rfl rfl ⟨fun hcn => ?_, fun hcn => ?_⟩
  · replace h := h.1 ((i_le (x := 0) (y := x5) (show (0 : Int32).toInt = 0 by decide) rfl).mp hcn)
    refine zn_ld rfl rfl rfl ?_
    refine zn_ld rfl rfl rfl ?_
    refine zn_brP rfl rfl ⟨fun hcn => ?_, fun hcn => ?_⟩
    · replace h := h.1 ((i_eq (x := x5) (y := a1) rfl rfl).mp hcn)
      exact m_25_28_3 hd  h
    · replace h := h.2 (fun q => hcn ((i_eq (x := x5) (y := a1) rfl rfl).mpr q))
      refine zn_ld rfl rfl rfl ?_
      refine zn_ld rfl rfl rfl ?_
      refine zn_get (v := .ref 75) rfl (zv_R (a := 105) rfl rfl) ?_
      refine zn_ld rfl rfl rfl ?_
      refine zn_zt [.ref 75, .int x5] [.ref 105] rfl rfl rfl rfl rfl (Zt.imp h (fun v6 s7 h => ?_))
      obtain ⟨x8, rfl, h⟩ := h
      change Zn _ _ _ _ _ _ _ _ _ _ _ [.int x8, .ref 105] _ _
      refine zn_ld rfl rfl rfl ?_
      replace h := h _ (i_sub (x := x8) (y := x5) rfl rfl)
      refine zn_c [.int (x8 - x5), .ref 105] xo_isub rfl rfl ?_
      refine zn_zt [.ref 105, .int (x8 - x5)] [] rfl rfl rfl rfl rfl (Zt.imp h (fun v10 s11 h => ?_))
      obtain ⟨x12, rfl, h⟩ := h
      change Zn _ _ _ _ _ _ _ _ _ _ _ [.int x12] _ _
      refine zn_c [] xo_pop rfl rfl ?_
      exact m_25_28_3 hd  h
  · replace h := h.2 (fun q => hcn ((i_le (x := 0) (y := x5) (show (0 : Int32).toInt = 0 by decide) rfl).mpr q))
    refine zn_ld rfl rfl rfl ?_
    refine zn_c [.int 4, .ref 105] (xo_push (.int 4)) rfl rfl ?_
    refine zn_putI (a := 105) rfl rfl rfl rfl ⟨Int32.le_toInt _, Int.le_of_lt_add_one (Int32.toInt_lt _)⟩ rfl rfl rfl ?_
    replace h := h _ rfl
    refine zn_ld rfl rfl rfl ?_
    exact zn_retI rfl h
theorem zq_25_3 {d : Nat} {a1 : Int32} {s : zS} {Q : Option Value → zS → Prop} (h : v_25_0 (fun j => Zt (d + 8) (wd2 3 j) j) 3 a1 s Q) : Zt (d + 9) ([(105, 5, 3), (75, 0, 3), (75, 1, 21), (75, 2, 25)] : zW) 25 [.ref 105, .int a1] s Q := zt_of (E := xE_25) (L := xL_2) (ml := 3) (ret := some .int) rfl rfl rfl (m_25_0_3 rfl h)
set_option maxRecDepth 20000 in
theorem m_25_28_39 {d d0 : Nat} (hd : d = d0 + 8)  {a1 : Int32} {a2 : Int32} {s : zS} {Q : Option Value → zS → Prop}  (h : v_25_28 (fun j => Zt d (wd2 39 j) j) 39  a1 a2 s Q) : Zn d [] [(39, 98)] ([(105, 5, 39), (75, 0, 39), (75, 1, 57), (75, 2, 61)] : zW) ([(105, 5, 39), (75, 0, 39), (75, 1, 57), (75, 2, 61)] : zW) xL_2 3 (some .int) xE_25 (xE_25.drop 28) [.ref 105, .int a1, .int a2, .null, .null] [] s Q := by
  unfold v_25_28 at h
  refine zn_ld rfl rfl rfl ?_
  exact zn_retI rfl h
set_option maxRecDepth 20000 in
theorem m_25_0_39 {d d0 : Nat} (hd : d = d0 + 8)  {a1 : Int32} {s : zS} {Q : Option Value → zS → Prop}  (h : v_25_0 (fun j => Zt d (wd2 39 j) j) 39  a1 s Q) : Zn d [] [(39, 98)] ([(105, 5, 39), (75, 0, 39), (75, 1, 57), (75, 2, 61)] : zW) ([(105, 5, 39), (75, 0, 39), (75, 1, 57), (75, 2, 61)] : zW) xL_2 3 (some .int) xE_25 (xE_25.drop 0) [.ref 105, .int a1, .null, .null, .null] [] s Q := by
  unfold v_25_0 at h
  refine zn_ld rfl rfl rfl ?_
  refine zn_get (v := .ref 75) rfl (zv_R (a := 105) rfl rfl) ?_
  refine zn_ld rfl rfl rfl ?_
  refine zn_ld rfl rfl rfl ?_
  refine zn_ld rfl rfl rfl ?_
  refine zn_get (v := .int (s.1 105 8)) rfl (zv_I (a := 105) rfl rfl) ?_
  refine zn_zt [.ref 105, .int (s.1 105 8)] [.int a1, .ref 75] rfl rfl rfl rfl rfl (Zt.imp h (fun v1 s2 h => ?_))
  obtain ⟨e, he, rfl, h⟩ := h
  change Zn _ _ _ _ _ _ _ _ _ _ _ [.ref e, .int a1, .ref 75] _ _
  refine zn_zt [.ref 75, .int a1, .ref e] [] rfl rfl rfl rfl rfl (Zt.imp h (fun v3 s4 h => ?_))
  obtain ⟨x5, rfl, h⟩ := h
  change Zn _ _ _ _ _ _ _ _ _ _ _ [.int x5] _ _
  refine zn_st [.ref 105, .int a1, .int x5, .null, .null] rfl rfl rfl ?_
  refine zn_ld rfl rfl rfl ?_
  refine zn_brP rfl rfl ⟨fun hcn => ?_, fun hcn => ?_⟩
  · replace h := h.1 ((i_le (x := 0) (y := x5) (show (0 : Int32).toInt = 0 by decide) rfl).mp hcn)
    refine zn_ld rfl rfl rfl ?_
    refine zn_ld rfl rfl rfl ?_
    refine zn_brP rfl rfl ⟨fun hcn => ?_, fun hcn => ?_⟩
    · replace h := h.1 ((i_eq (x := x5) (y := a1) rfl rfl).mp hcn)
      exact m_25_28_39 hd  h
    · replace h := h.2 (fun q => hcn ((i_eq (x := x5) (y := a1) rfl rfl).mpr q))
      refine zn_ld rfl rfl rfl ?_
      refine zn_ld rfl rfl rfl ?_
      refine zn_get (v := .ref 75) rfl (zv_R (a := 105) rfl rfl) ?_
      refine zn_ld rfl rfl rfl ?_
      refine zn_zt [.ref 75, .int x5] [.ref 105] rfl rfl rfl rfl rfl (Zt.imp h (fun v6 s7 h => ?_))
      obtain ⟨x8, rfl, h⟩ := h
      change Zn _ _ _ _ _ _ _ _ _ _ _ [.int x8, .ref 105] _ _
      refine zn_ld rfl rfl rfl ?_
      replace h := h _ (i_sub (x := x8) (y := x5) rfl rfl)
      refine zn_c [.int (x8 - x5), .ref 105] xo_isub rfl rfl ?_
      refine zn_zt [.ref 105, .int (x8 - x5)] [] rfl rfl rfl rfl rfl (Zt.imp h (fun v10 s11 h => ?_))
      obtain ⟨x12, rfl, h⟩ := h
      change Zn _ _ _ _ _ _ _ _ _ _ _ [.int x12] _ _
      refine zn_c [] xo_pop rfl rfl ?_
      exact m_25_28_39 hd  h
  · replace h := h.2 (fun q => hcn ((i_le (x := 0) (y := x5) (show (0 : Int32).toInt = 0 by decide) rfl).mpr q))
    refine zn_ld rfl rfl rfl ?_
    refine zn_c [.int 4, .ref 105] (xo_push (.int 4)) rfl rfl ?_
    refine zn_putI (a := 105) rfl rfl rfl rfl ⟨Int32.le_toInt _, Int.le_of_lt_add_one (Int32.toInt_lt _)⟩ rfl rfl rfl ?_
    replace h := h _ rfl
    refine zn_ld rfl rfl rfl ?_
    exact zn_retI rfl h
theorem zq_25_39 {d : Nat} {a1 : Int32} {s : zS} {Q : Option Value → zS → Prop} (h : v_25_0 (fun j => Zt (d + 8) (wd2 39 j) j) 39 a1 s Q) : Zt (d + 9) ([(105, 5, 39), (75, 0, 39), (75, 1, 57), (75, 2, 61)] : zW) 25 [.ref 105, .int a1] s Q := zt_of (E := xE_25) (L := xL_2) (ml := 3) (ret := some .int) rfl rfl rfl (m_25_0_39 rfl h)
theorem zc_25 {d P : Nat} (hP : P = 3 ∨ P = 39) {a1 : Int32} {s : zS} {Q : Option Value → zS → Prop} (h : v_25_0 (fun j => Zt (d + 8) (wd2 P j) j) P a1 s Q) : Zt (d + 9) (wd2 P 25) 25 [.ref 105, .int a1] s Q := by
  rcases hP with rfl | rfl
  · exact zq_25_3 h
  · exact zq_25_39 h
/-! FeatherBench$Machine.makeValue -/
def v_26_19 (T : Nat → List Value → zS → (Option Value → zS → Prop) → Prop) (P : Nat) (R19 : Int32 → Int32 → Int32 → zS → Prop) (a1 : Int32) (a2 : Int32) (a3 : Int32) (s : zS) (Q : Option Value → zS → Prop) : Prop :=
  (a1.toInt < a3.toInt → T 21 [.ref 105, .int a2] s (fun v1 s2 => v1 = none ∧ (Q none s2))) ∧ (¬ (a1.toInt < a3.toInt) → ∀ x3 : Int32, (-2147483648 ≤ (s.1 105 7).toInt + a3.toInt ∧ (s.1 105 7).toInt + a3.toInt ≤ 2147483647 → x3.toInt = (s.1 105 7).toInt + a3.toInt) → (-1000 ≤ (zg s 106 x3).toInt ∧ (zg s 106 x3).toInt ≤ 1000000000) ∧ (∀ s4, s4 = za s 111 (zg s 106 x3) → ∀ x5 : Int32, (-2147483648 ≤ a3.toInt + 1 ∧ a3.toInt + 1 ≤ 2147483647 → x5.toInt = a3.toInt + 1) → R19 a1 a2 x5 s4))
def vl_26_19 (T : Nat → List Value → zS → (Option Value → zS → Prop) → Prop) (P : Nat)  (a1 : Int32) (a2 : Int32) (a3 : Int32) (s : zS) (Q : Option Value → zS → Prop) : Prop :=
  ∃ (I : Int32 → Int32 → Int32 → zS → Prop) (μ : Int32 → Int32 → Int32 → zS → Nat), I a1 a2 a3 s ∧ ∀ (a1 : Int32) (a2 : Int32) (a3 : Int32) (s : zS), I a1 a2 a3 s → v_26_19 T P (fun a1' a2' a3' s' => I a1' a2' a3' s' ∧ μ a1' a2' a3' s' < μ a1 a2 a3 s) a1 a2 a3 s Q
def v_26_0 (T : Nat → List Value → zS → (Option Value → zS → Prop) → Prop) (P : Nat)  (a1 : Int32) (s : zS) (Q : Option Value → zS → Prop) : Prop :=
  T 23 [.ref 105, .int 1] s (fun v1 s2 => ∃ x3, v1 = some (.int x3) ∧ ((¬ (x3.toInt = 0) → ∀ x4 : Int32, (-2147483648 ≤ a1.toInt + 1 ∧ a1.toInt + 1 ≤ 2147483647 → x4.toInt = a1.toInt + 1) → ∀ x5 : Int32, (-2147483648 ≤ (s2.1 105 7).toInt - x4.toInt ∧ (s2.1 105 7).toInt - x4.toInt ≤ 2147483647 → x5.toInt = (s2.1 105 7).toInt - x4.toInt) → ∀ s6, s6 = zf s2 105 7 x5 → vl_26_19 T P  a1 (s2.1 111 2) 0 s6 Q) ∧ (x3.toInt = 0 → Q none s2)))
set_option maxRecDepth 20000 in
theorem m_26_19_3 {d d0 : Nat} (hd : d = d0 + 8) {R19 : Int32 → Int32 → Int32 → zS → Prop} {a1 : Int32} {a2 : Int32} {a3 : Int32} {s : zS} {Q : Option Value → zS → Prop} (r19 : ∀ a1 a2 a3 s, R19 a1 a2 a3 s → Zn d [] [(0, 111)] ([(105, 5, 3), (75, 0, 3), (75, 1, 21), (75, 2, 25)] : zW) ([(105, 5, 3), (75, 0, 3), (75, 1, 21), (75, 2, 25)] : zW) xL_2 4 (none) xE_26 (xE_26.drop 19) [.ref 105, .int a1, .int a2, .int a3, .null, .null] [] s Q) (h : v_26_19 (fun j => Zt d (wd2 3 j) j) 3 R19 a1 a2 a3 s Q) : Zn d [] [(0, 111)] ([(105, 5, 3), (75, 0, 3), (75, 1, 21), (75, 2, 25)] : zW) ([(105, 5, 3), (75, 0, 3), (75, 1, 21), (75, 2, 25)] : zW) xL_2 4 (none) xE_26 (xE_26.drop 19) [.ref 105, .int a1, .int a2, .int a3, .null, .null] [] s Q := by
  unfold v_26_19 at h
  refine zn_ld rfl rfl rfl ?_
  refine zn_ld rfl rfl rfl ?_
  refine zn_brP rfl rfl ⟨fun hcn => ?_, fun hcn => ?_⟩
  · replace h := h.1 ((i_lt (x := a1) (y := a3) rfl rfl).mp hcn)
    refine zn_ld rfl rfl rfl ?_
    refine zn_ld rfl rfl rfl ?_
    refine zn_zt [.ref 105, .int a2] [] rfl rfl rfl rfl rfl (Zt.imp h (fun v1 s2 h => ?_))
    obtain ⟨rfl, h⟩ := h
    change Zn _ _ _ _ _ _ _ _ _ _ _ [] _ _
    exact zn_ret0 rfl h
  · replace h := h.2 (fun q => hcn ((i_lt (x := a1) (y := a3) rfl rfl).mpr q))
    refine zn_ld rfl rfl rfl ?_
    refine zn_get (v := .ref 111) rfl (zv_R (a := 105) rfl rfl) ?_
    refine zn_ld rfl rfl rfl ?_
    refine zn_get (v := .ref 106) rfl (zv_R (a := 105) rfl rfl) ?_
    refine zn_ld rfl rfl rfl ?_
    refine zn_get (v := .int (s.1 105 7)) rfl (zv_I (a := 105) rfl rfl) ?_
    refine zn_ld rfl rfl rfl ?_
    replace h := h _ (i_add (x := s.1 105 7) (y := a3) rfl rfl)
    refine zn_c [.int ((s.1 105 7) + a3), .ref 106, .ref 111] xo_iadd rfl rfl ?_
    refine zn_row ((s.1 105 7) + a3) [.ref 111] (a := 106) hd rfl rfl rfl rfl ?_
    change Zn _ _ _ _ _ _ _ _ _ _ _ [.int (zg s 106 ((s.1 105 7) + a3)), .ref 111] _ _
    obtain ⟨hyS, h⟩ := h
    refine zn_add (zg s 106 ((s.1 105 7) + a3)) [] (a := 111) hd rfl rfl rfl rfl ⟨Int32.le_toInt _, Int.le_of_lt_add_one (Int32.toInt_lt _)⟩ (fun q => absurd q (by decide)) rfl ?_ (hy := fun _ => hyS)
    replace h := h _ rfl
    replace h := h _ (i_add (x := a3) (y := 1) rfl (show (1 : Int32).toInt = 1 by decide))
    refine zn_inc [.ref 105, .int a1, .int a2, .int (a3 + 1), .null, .null] rfl rfl rfl rfl ?_
    refine zn_go rfl ?_
    exact r19 a1 a2 (a3 + 1) (za s 111 (zg s 106 ((s.1 105 7) + a3))) h
theorem ml_26_19_3 {d d0 : Nat} (hd : d = d0 + 8)  {a1 : Int32} {a2 : Int32} {a3 : Int32} {s : zS} {Q : Option Value → zS → Prop}  (h : vl_26_19 (fun j => Zt d (wd2 3 j) j) 3  a1 a2 a3 s Q) : Zn d [] [(0, 111)] ([(105, 5, 3), (75, 0, 3), (75, 1, 21), (75, 2, 25)] : zW) ([(105, 5, 3), (75, 0, 3), (75, 1, 21), (75, 2, 25)] : zW) xL_2 4 (none) xE_26 (xE_26.drop 19) [.ref 105, .int a1, .int a2, .int a3, .null, .null] [] s Q := by
  obtain ⟨I, μ, h0, h1⟩ := h
  have key : ∀ (n : Nat) (a1 : Int32) (a2 : Int32) (a3 : Int32) (s : zS), μ a1 a2 a3 s = n → I a1 a2 a3 s → Zn d [] [(0, 111)] ([(105, 5, 3), (75, 0, 3), (75, 1, 21), (75, 2, 25)] : zW) ([(105, 5, 3), (75, 0, 3), (75, 1, 21), (75, 2, 25)] : zW) xL_2 4 (none) xE_26 (xE_26.drop 19) [.ref 105, .int a1, .int a2, .int a3, .null, .null] [] s Q := by
    intro n
    induction n using Nat.strongRecOn with
    | ind n ih =>
      intro a1 a2 a3 s e hI
      exact m_26_19_3 hd (fun a1' a2' a3' s' q => ih _ (by rw [← e]; exact q.2) a1' a2' a3' s' rfl q.1) (h1 a1 a2 a3 s hI)
  exact key _ a1 a2 a3 s rfl h0
set_option maxRecDepth 20000 in
theorem m_26_0_3 {d d0 : Nat} (hd : d = d0 + 8)  {a1 : Int32} {s : zS} {Q : Option Value → zS → Prop}  (h : v_26_0 (fun j => Zt d (wd2 3 j) j) 3  a1 s Q) : Zn d [] [(0, 111)] ([(105, 5, 3), (75, 0, 3), (75, 1, 21), (75, 2, 25)] : zW) ([(105, 5, 3), (75, 0, 3), (75, 1, 21), (75, 2, 25)] : zW) xL_2 4 (none) xE_26 (xE_26.drop 0) [.ref 105, .int a1, .null, .null, .null, .null] [] s Q := by
  unfold v_26_0 at h
  refine zn_ld rfl rfl rfl ?_
  refine zn_c [.int 1, .ref 105] (xo_push (.int 1)) rfl rfl ?_
  refine zn_zt [.ref 105, .int 1] [] rfl rfl rfl rfl rfl (Zt.imp h (fun v1 s2 h => ?_))
  obtain ⟨x3, rfl, h⟩ := h
  change Zn _ _ _ _ _ _ _ _ _ _ _ [.int x3] _ _
  refine zn_brN rfl rfl ⟨fun hcn => ?_, fun hcn => ?_⟩
  · replace h := h.1 (fun q => hcn ((i_eq (x := x3) (y := 0) rfl (show (0 : Int32).toInt = 0 by decide)).mpr q))
    refine zn_ld rfl rfl rfl ?_
    refine zn_get (v := .ref 111) rfl (zv_R (a := 105) rfl rfl) ?_
    refine zn_get (v := .int (s2.1 111 2)) rfl (zv_I (a := 111) rfl rfl) ?_
    refine zn_st [.ref 105, .int a1, .int (s2.1 111 2), .null, .null, .null] rfl rfl rfl ?_
    refine zn_ld rfl rfl rfl ?_
    refine zn_c [.ref 105, .ref 105] xo_dup rfl rfl ?_
    refine zn_get (v := .int (s2.1 105 7)) rfl (zv_I (a := 105) rfl rfl) ?_
    refine zn_ld rfl rfl rfl ?_
    refine zn_c [.int 1, .int a1, .int (s2.1 105 7), .ref 105] (xo_push (.int 1)) rfl rfl ?_
    replace h := h _ (i_add (x := a1) (y := 1) rfl (show (1 : Int32).toInt = 1 by decide))
    refine zn_c [.int (a1 + 1), .int (s2.1 105 7), .ref 105] xo_iadd rfl rfl ?_
    replace h := h _ (i_sub (x := s2.1 105 7) (y := (a1 + 1)) rfl rfl)
    refine zn_c [.int ((s2.1 105 7) - (a1 + 1)), .ref 105] xo_isub rfl rfl ?_
    refine zn_putI (a := 105) rfl rfl rfl rfl ⟨Int32.le_toInt _, Int.le_of_lt_add_one (Int32.toInt_lt _)⟩ rfl rfl rfl ?_
    replace h := h _ rfl
    refine zn_c [.int 0] (xo_push (.int 0)) rfl rfl ?_
    refine zn_st [.ref 105, .int a1, .int (s2.1 111 2), .int 0, .null, .null] rfl rfl rfl ?_
    exact ml_26_19_3 hd  h
  · replace h := h.2 ((i_eq (x := x3) (y := 0) rfl (show (0 : Int32).toInt = 0 by decide)).mp hcn)
    exact zn_ret0 rfl h
theorem zq_26_3 {d : Nat} {a1 : Int32} {s : zS} {Q : Option Value → zS → Prop} (h : v_26_0 (fun j => Zt (d + 8) (wd2 3 j) j) 3 a1 s Q) : Zt (d + 9) ([(105, 5, 3), (75, 0, 3), (75, 1, 21), (75, 2, 25)] : zW) 26 [.ref 105, .int a1] s Q := zt_of (E := xE_26) (L := xL_2) (ml := 4) (ret := none) rfl rfl rfl (m_26_0_3 rfl h)
set_option maxRecDepth 20000 in
theorem m_26_19_39 {d d0 : Nat} (hd : d = d0 + 8) {R19 : Int32 → Int32 → Int32 → zS → Prop} {a1 : Int32} {a2 : Int32} {a3 : Int32} {s : zS} {Q : Option Value → zS → Prop} (r19 : ∀ a1 a2 a3 s, R19 a1 a2 a3 s → Zn d [] [(0, 111)] ([(105, 5, 39), (75, 0, 39), (75, 1, 57), (75, 2, 61)] : zW) ([(105, 5, 39), (75, 0, 39), (75, 1, 57), (75, 2, 61)] : zW) xL_2 4 (none) xE_26 (xE_26.drop 19) [.ref 105, .int a1, .int a2, .int a3, .null, .null] [] s Q) (h : v_26_19 (fun j => Zt d (wd2 39 j) j) 39 R19 a1 a2 a3 s Q) : Zn d [] [(0, 111)] ([(105, 5, 39), (75, 0, 39), (75, 1, 57), (75, 2, 61)] : zW) ([(105, 5, 39), (75, 0, 39), (75, 1, 57), (75, 2, 61)] : zW) xL_2 4 (none) xE_26 (xE_26.drop 19) [.ref 105, .int a1, .int a2, .int a3, .null, .null] [] s Q := by
  unfold v_26_19 at h
  refine zn_ld rfl rfl rfl ?_
  refine zn_ld rfl rfl rfl ?_
  refine zn_brP rfl rfl ⟨fun hcn => ?_, fun hcn => ?_⟩
  · replace h := h.1 ((i_lt (x := a1) (y := a3) rfl rfl).mp hcn)
    refine zn_ld rfl rfl rfl ?_
    refine zn_ld rfl rfl rfl ?_
    refine zn_zt [.ref 105, .int a2] [] rfl rfl rfl rfl rfl (Zt.imp h (fun v1 s2 h => ?_))
    obtain ⟨rfl, h⟩ := h
    change Zn _ _ _ _ _ _ _ _ _ _ _ [] _ _
    exact zn_ret0 rfl h
  · replace h := h.2 (fun q => hcn ((i_lt (x := a1) (y := a3) rfl rfl).mpr q))
    refine zn_ld rfl rfl rfl ?_
    refine zn_get (v := .ref 111) rfl (zv_R (a := 105) rfl rfl) ?_
    refine zn_ld rfl rfl rfl ?_
    refine zn_get (v := .ref 106) rfl (zv_R (a := 105) rfl rfl) ?_
    refine zn_ld rfl rfl rfl ?_
    refine zn_get (v := .int (s.1 105 7)) rfl (zv_I (a := 105) rfl rfl) ?_
    refine zn_ld rfl rfl rfl ?_
    replace h := h _ (i_add (x := s.1 105 7) (y := a3) rfl rfl)
    refine zn_c [.int ((s.1 105 7) + a3), .ref 106, .ref 111] xo_iadd rfl rfl ?_
    refine zn_row ((s.1 105 7) + a3) [.ref 111] (a := 106) hd rfl rfl rfl rfl ?_
    change Zn _ _ _ _ _ _ _ _ _ _ _ [.int (zg s 106 ((s.1 105 7) + a3)), .ref 111] _ _
    obtain ⟨hyS, h⟩ := h
    refine zn_add (zg s 106 ((s.1 105 7) + a3)) [] (a := 111) hd rfl rfl rfl rfl ⟨Int32.le_toInt _, Int.le_of_lt_add_one (Int32.toInt_lt _)⟩ (fun q => absurd q (by decide)) rfl ?_ (hy := fun _ => hyS)
    replace h := h _ rfl
    replace h := h _ (i_add (x := a3) (y := 1) rfl (show (1 : Int32).toInt = 1 by decide))
    refine zn_inc [.ref 105, .int a1, .int a2, .int (a3 + 1), .null, .null] rfl rfl rfl rfl ?_
    refine zn_go rfl ?_
    exact r19 a1 a2 (a3 + 1) (za s 111 (zg s 106 ((s.1 105 7) + a3))) h
theorem ml_26_19_39 {d d0 : Nat} (hd : d = d0 + 8)  {a1 : Int32} {a2 : Int32} {a3 : Int32} {s : zS} {Q : Option Value → zS → Prop}  (h : vl_26_19 (fun j => Zt d (wd2 39 j) j) 39  a1 a2 a3 s Q) : Zn d [] [(0, 111)] ([(105, 5, 39), (75, 0, 39), (75, 1, 57), (75, 2, 61)] : zW) ([(105, 5, 39), (75, 0, 39), (75, 1, 57), (75, 2, 61)] : zW) xL_2 4 (none) xE_26 (xE_26.drop 19) [.ref 105, .int a1, .int a2, .int a3, .null, .null] [] s Q := by
  obtain ⟨I, μ, h0, h1⟩ := h
  have key : ∀ (n : Nat) (a1 : Int32) (a2 : Int32) (a3 : Int32) (s : zS), μ a1 a2 a3 s = n → I a1 a2 a3 s → Zn d [] [(0, 111)] ([(105, 5, 39), (75, 0, 39), (75, 1, 57), (75, 2, 61)] : zW) ([(105, 5, 39), (75, 0, 39), (75, 1, 57), (75, 2, 61)] : zW) xL_2 4 (none) xE_26 (xE_26.drop 19) [.ref 105, .int a1, .int a2, .int a3, .null, .null] [] s Q := by
    intro n
    induction n using Nat.strongRecOn with
    | ind n ih =>
      intro a1 a2 a3 s e hI
      exact m_26_19_39 hd (fun a1' a2' a3' s' q => ih _ (by rw [← e]; exact q.2) a1' a2' a3' s' rfl q.1) (h1 a1 a2 a3 s hI)
  exact key _ a1 a2 a3 s rfl h0
set_option maxRecDepth 20000 in
theorem m_26_0_39 {d d0 : Nat} (hd : d = d0 + 8)  {a1 : Int32} {s : zS} {Q : Option Value → zS → Prop}  (h : v_26_0 (fun j => Zt d (wd2 39 j) j) 39  a1 s Q) : Zn d [] [(0, 111)] ([(105, 5, 39), (75, 0, 39), (75, 1, 57), (75, 2, 61)] : zW) ([(105, 5, 39), (75, 0, 39), (75, 1, 57), (75, 2, 61)] : zW) xL_2 4 (none) xE_26 (xE_26.drop 0) [.ref 105, .int a1, .null, .null, .null, .null] [] s Q := by
  unfold v_26_0 at h
  refine zn_ld rfl rfl rfl ?_
  refine zn_c [.int 1, .ref 105] (xo_push (.int 1)) rfl rfl ?_
  refine zn_zt [.ref 105, .int 1] [] rfl rfl rfl rfl rfl (Zt.imp h (fun v1 s2 h => ?_))
  obtain ⟨x3, rfl, h⟩ := h
  change Zn _ _ _ _ _ _ _ _ _ _ _ [.int x3] _ _
  refine zn_brN rfl rfl ⟨fun hcn => ?_, fun hcn => ?_⟩
  · replace h := h.1 (fun q => hcn ((i_eq (x := x3) (y := 0) rfl (show (0 : Int32).toInt = 0 by decide)).mpr q))
    refine zn_ld rfl rfl rfl ?_
    refine zn_get (v := .ref 111) rfl (zv_R (a := 105) rfl rfl) ?_
    refine zn_get (v := .int (s2.1 111 2)) rfl (zv_I (a := 111) rfl rfl) ?_
    refine zn_st [.ref 105, .int a1, .int (s2.1 111 2), .null, .null, .null] rfl rfl rfl ?_
    refine zn_ld rfl rfl rfl ?_
    refine zn_c [.ref 105, .ref 105] xo_dup rfl rfl ?_
    refine zn_get (v := .int (s2.1 105 7)) rfl (zv_I (a := 105) rfl rfl) ?_
    refine zn_ld rfl rfl rfl ?_
    refine zn_c [.int 1, .int a1, .int (s2.1 105 7), .ref 105] (xo_push (.int 1)) rfl rfl ?_
    replace h := h _ (i_add (x := a1) (y := 1) rfl (show (1 : Int32).toInt = 1 by decide))
    refine zn_c [.int (a1 + 1), .int (s2.1 105 7), .ref 105] xo_iadd rfl rfl ?_
    replace h := h _ (i_sub (x := s2.1 105 7) (y := (a1 + 1)) rfl rfl)
    refine zn_c [.int ((s2.1 105 7) - (a1 + 1)), .ref 105] xo_isub rfl rfl ?_
    refine zn_putI (a := 105) rfl rfl rfl rfl ⟨Int32.le_toInt _, Int.le_of_lt_add_one (Int32.toInt_lt _)⟩ rfl rfl rfl ?_
    replace h := h _ rfl
    refine zn_c [.int 0] (xo_push (.int 0)) rfl rfl ?_
    refine zn_st [.ref 105, .int a1, .int (s2.1 111 2), .int 0, .null, .null] rfl rfl rfl ?_
    exact ml_26_19_39 hd  h
  · replace h := h.2 ((i_eq (x := x3) (y := 0) rfl (show (0 : Int32).toInt = 0 by decide)).mp hcn)
    exact zn_ret0 rfl h
theorem zq_26_39 {d : Nat} {a1 : Int32} {s : zS} {Q : Option Value → zS → Prop} (h : v_26_0 (fun j => Zt (d + 8) (wd2 39 j) j) 39 a1 s Q) : Zt (d + 9) ([(105, 5, 39), (75, 0, 39), (75, 1, 57), (75, 2, 61)] : zW) 26 [.ref 105, .int a1] s Q := zt_of (E := xE_26) (L := xL_2) (ml := 4) (ret := none) rfl rfl rfl (m_26_0_39 rfl h)
theorem zc_26 {d P : Nat} (hP : P = 3 ∨ P = 39) {a1 : Int32} {s : zS} {Q : Option Value → zS → Prop} (h : v_26_0 (fun j => Zt (d + 8) (wd2 P j) j) P a1 s Q) : Zt (d + 9) (wd2 P 26) 26 [.ref 105, .int a1] s Q := by
  rcases hP with rfl | rfl
  · exact zq_26_3 h
  · exact zq_26_39 h
/-! FeatherBench$Machine.call -/
def v_27_77 (T : Nat → List Value → zS → (Option Value → zS → Prop) → Prop) (P : Nat) (e : Nat)  (a1 : Int32) (a2 : Int32) (a3 : Int32) (a4 : Int32) (a6 : Int32) (a7 : Int32) (a8 : Int32) (s : zS) (Q : Option Value → zS → Prop) : Prop :=
  T 23 [.ref 105, .int 1] s (fun v1 s2 => ∃ x3, v1 = some (.int x3) ∧ ((¬ (x3.toInt = 0) → ((s2.1 105 8).toInt < 40 → T 53 [.ref P, .int (zg s2 (P + 18) a4), .int a2] s2 (fun v4 s5 => ∃ x6, v4 = some (.int x6) ∧ (∀ x7 : Int32, (-2147483648 ≤ (s5.1 105 11).toInt + 1 ∧ (s5.1 105 11).toInt + 1 ≤ 2147483647 → x7.toInt = (s5.1 105 11).toInt + 1) → ∀ s8, s8 = zf s5 105 11 x7 → ∀ x9 : Int32, (-2147483648 ≤ (s8.1 105 8).toInt + 1 ∧ (s8.1 105 8).toInt + 1 ≤ 2147483647 → x9.toInt = (s8.1 105 8).toInt + 1) → ∀ s10, s10 = zf s8 105 8 x9 → ∀ x11 : Int32, (-2147483648 ≤ 2 * (s10.1 105 8).toInt ∧ 2 * (s10.1 105 8).toInt ≤ 2147483647 → x11.toInt = 2 * (s10.1 105 8).toInt) → ∀ s12, s12 = zt s10 108 x11 (s10.1 105 6) → ∀ x13 : Int32, (-2147483648 ≤ 2 * (s12.1 105 8).toInt ∧ 2 * (s12.1 105 8).toInt ≤ 2147483647 → x13.toInt = 2 * (s12.1 105 8).toInt) → ∀ x14 : Int32, (-2147483648 ≤ x13.toInt + 1 ∧ x13.toInt + 1 ≤ 2147483647 → x14.toInt = x13.toInt + 1) → ∀ s15, s15 = zt s12 108 x14 a3 → ∀ s17, s17 = zf s15 105 6 (zg s15 (P + 26) (x6 * 10 + 8)) → Q none s17))) ∧ (¬ ((s2.1 105 8).toInt < 40) → ∀ s18, s18 = zf s2 105 13 3 → Q none s18)) ∧ (x3.toInt = 0 → Q none s2)))
def v_27_53 (T : Nat → List Value → zS → (Option Value → zS → Prop) → Prop) (P : Nat) (e : Nat) (R53 : Int32 → Int32 → Int32 → Int32 → Int32 → Int32 → Int32 → zS → Prop) (a1 : Int32) (a2 : Int32) (a3 : Int32) (a4 : Int32) (a6 : Int32) (a7 : Int32) (a8 : Int32) (s : zS) (Q : Option Value → zS → Prop) : Prop :=
  (a7.toInt ≤ a8.toInt → v_27_77 T P e  a1 a2 a3 a4 a6 a7 a8 s Q) ∧ (¬ (a7.toInt ≤ a8.toInt) → (¬ ((s.1 105 13).toInt = 5) → v_27_77 T P e  a1 a2 a3 a4 a6 a7 a8 s Q) ∧ ((s.1 105 13).toInt = 5 → ∀ x1 : Int32, (-2147483648 ≤ 6 + a8.toInt ∧ 6 + a8.toInt ≤ 2147483647 → x1.toInt = 6 + a8.toInt) → T 25 [.ref 105, .int a6] s (fun v2 s3 => ∃ x4, v2 = some (.int x4) ∧ (T 85 [.ref 75, .ref e, .int x1, .int x4] s3 (fun v5 s6 => v5 = none ∧ (T 83 [.ref 75, .int a6] s6 (fun v7 s8 => ∃ x9, v7 = some (.int x9) ∧ (∀ x10 : Int32, (-2147483648 ≤ a8.toInt + 1 ∧ a8.toInt + 1 ≤ 2147483647 → x10.toInt = a8.toInt + 1) → R53 a1 a2 a3 a4 x9 a7 x10 s8))))))))
def vl_27_53 (T : Nat → List Value → zS → (Option Value → zS → Prop) → Prop) (P : Nat) (e : Nat)  (a1 : Int32) (a2 : Int32) (a3 : Int32) (a4 : Int32) (a6 : Int32) (a7 : Int32) (a8 : Int32) (s : zS) (Q : Option Value → zS → Prop) : Prop :=
  ∃ (I : Int32 → Int32 → Int32 → Int32 → Int32 → Int32 → Int32 → zS → Prop) (μ : Int32 → Int32 → Int32 → Int32 → Int32 → Int32 → Int32 → zS → Nat), I a1 a2 a3 a4 a6 a7 a8 s ∧ ∀ (a1 : Int32) (a2 : Int32) (a3 : Int32) (a4 : Int32) (a6 : Int32) (a7 : Int32) (a8 : Int32) (s : zS), I a1 a2 a3 a4 a6 a7 a8 s → v_27_53 T P e (fun a1' a2' a3' a4' a6' a7' a8' s' => I a1' a2' a3' a4' a6' a7' a8' s' ∧ μ a1' a2' a3' a4' a6' a7' a8' s' < μ a1 a2 a3 a4 a6 a7 a8 s) a1 a2 a3 a4 a6 a7 a8 s Q
def v_27_0 (T : Nat → List Value → zS → (Option Value → zS → Prop) → Prop) (P : Nat)  (a1 : Int32) (a2 : Int32) (s : zS) (Q : Option Value → zS → Prop) : Prop :=
  ∀ x1 : Int32, (-2147483648 ≤ (s.1 105 7).toInt - 1 ∧ (s.1 105 7).toInt - 1 ≤ 2147483647 → x1.toInt = (s.1 105 7).toInt - 1) → ∀ x2 : Int32, (-2147483648 ≤ a1.toInt + 2 ∧ a1.toInt + 2 ≤ 2147483647 → x2.toInt = a1.toInt + 2) → ∀ x3 : Int32, (-2147483648 ≤ x1.toInt - (zg s (P + 34) x2).toInt ∧ x1.toInt - (zg s (P + 34) x2).toInt ≤ 2147483647 → x3.toInt = x1.toInt - (zg s (P + 34) x2).toInt) → ∀ x4 : Int32, (-2147483648 ≤ (s.1 105 8).toInt + 1 ∧ (s.1 105 8).toInt + 1 ≤ 2147483647 → x4.toInt = (s.1 105 8).toInt + 1) → T 24 [.ref 105, .int x4] s (fun v5 s6 => ∃ e : Nat, skE e = true ∧ v5 = some (.ref e) ∧ (T 86 [.ref 75, .ref e, .int (zg s 111 (zg s 106 x3)), .int 0, .int 0] s6 (fun v7 s8 => v7 = none ∧ (∀ x9 : Int32, (-2147483648 ≤ a1.toInt + 3 ∧ a1.toInt + 3 ≤ 2147483647 → x9.toInt = a1.toInt + 3) → ∀ x10 : Int32, (-2147483648 ≤ a1.toInt + 4 ∧ a1.toInt + 4 ≤ 2147483647 → x10.toInt = a1.toInt + 4) → vl_27_53 T P e  a1 a2 x3 (zg s 111 (zg s 106 x3)) (zg s8 (P + 34) x9) (zg s8 (P + 34) x10) 0 s8 Q))))
set_option maxRecDepth 20000 in
theorem m_27_77_3 {d d0 : Nat} (hd : d = d0 + 8) {e : Nat} (he : skE e = true)  {a1 : Int32} {a2 : Int32} {a3 : Int32} {a4 : Int32} {a6 : Int32} {a7 : Int32} {a8 : Int32} {s : zS} {Q : Option Value → zS → Prop}  (h : v_27_77 (fun j => Zt d (wd2 3 j) j) 3 e  a1 a2 a3 a4 a6 a7 a8 s Q) : Zn d [] [(3, 98)] ([(105, 5, 3), (75, 0, 3), (75, 1, 21), (75, 2, 25)] : zW) ([(105, 5, 3), (75, 0, 3), (75, 1, 21), (75, 2, 25)] : zW) xL_2 9 (none) xE_27 (xE_27.drop 77) [.ref 105, .int a1, .int a2, .int a3, .int a4, .ref e, .int a6, .int a7, .int a8, .null, .null, .null] [] s Q := by
  unfold v_27_77 at h
  refine zn_ld rfl rfl rfl ?_
  refine zn_c [.int 1, .ref 105] (xo_push (.int 1)) rfl rfl ?_
  refine zn_zt [.ref 105, .int 1] [] rfl rfl rfl rfl rfl (Zt.imp h (fun v1 s2 h => ?_))
  obtain ⟨x3, rfl, h⟩ := h
  change Zn _ _ _ _ _ _ _ _ _ _ _ [.int x3] _ _
  refine zn_brN rfl rfl ⟨fun hcn => ?_, fun hcn => ?_⟩
  · replace h := h.1 (fun q => hcn ((i_eq (x := x3) (y := 0) rfl (show (0 : Int32).toInt = 0 by decide)).mpr q))
    refine zn_ld rfl rfl rfl ?_
    refine zn_get (v := .int (s2.1 105 8)) rfl (zv_I (a := 105) rfl rfl) ?_
    refine zn_c [.int 40, .int (s2.1 105 8)] (xo_push (.int 40)) rfl rfl ?_
    refine zn_brP rfl rfl ⟨fun hcn => ?_, fun hcn => ?_⟩
    · replace h := h.1 ((i_lt (x := s2.1 105 8) (y := 40) rfl (show (40 : Int32).toInt = 40 by decide)).mp hcn)
      refine zn_ld rfl rfl rfl ?_
      refine zn_get (v := .ref 3) rfl (zv_C (a := 105) (n := 0) rfl rfl rfl) ?_
      refine zn_ld rfl rfl rfl ?_
      refine zn_get (v := .ref 3) rfl (zv_C (a := 105) (n := 0) rfl rfl rfl) ?_
      refine zn_get (v := .ref 21) rfl (zv_R (a := 3) rfl rfl) ?_
      refine zn_ld rfl rfl rfl ?_
      refine zn_row a4 [.ref 3] (a := 21) hd rfl rfl rfl rfl ?_
      change Zn _ _ _ _ _ _ _ _ _ _ _ [.int (zg s2 21 a4), .ref 3] _ _
      refine zn_ld rfl rfl rfl ?_
      refine zn_zt [.ref 3, .int (zg s2 21 a4), .int a2] [] rfl rfl rfl rfl rfl (Zt.imp h (fun v4 s5 h => ?_))
      obtain ⟨x6, rfl, h⟩ := h
      change Zn _ _ _ _ _ _ _ _ _ _ _ [.int x6] _ _
      refine zn_st [.ref 105, .int a1, .int a2, .int a3, .int a4, .ref e, .int a6, .int a7, .int x6, .null, .null, .null] rfl rfl rfl ?_
      refine zn_ld rfl rfl rfl ?_
      refine zn_c [.ref 105, .ref 105] xo_dup rfl rfl ?_
      refine zn_get (v := .int (s5.1 105 11)) rfl (zv_I (a := 105) rfl rfl) ?_
      refine zn_c [.int 1, .int (s5.1 105 11), .ref 105] (xo_push (.int 1)) rfl rfl ?_
      replace h := h _ (i_add (x := s5.1 105 11) (y := 1) rfl (show (1 : Int32).toInt = 1 by decide))
      refine zn_c [.int ((s5.1 105 11) + 1), .ref 105] xo_iadd rfl rfl ?_
      refine zn_putI (a := 105) rfl rfl rfl rfl ⟨Int32.le_toInt _, Int.le_of_lt_add_one (Int32.toInt_lt _)⟩ rfl rfl rfl ?_
      replace h := h _ rfl
      refine zn_ld rfl rfl rfl ?_
      refine zn_c [.ref 105, .ref 105] xo_dup rfl rfl ?_
      refine zn_get (v := .int ((zf s5 105 11 ((s5.1 105 11) + 1)).1 105 8)) rfl (zv_I (a := 105) rfl rfl) ?_
      refine zn_c [.int 1, .int ((zf s5 105 11 ((s5.1 105 11) + 1)).1 105 8), .ref 105] (xo_push (.int 1)) rfl rfl ?_
      replace h := h _ (i_add (x := (zf s5 105 11 ((s5.1 105 11) + 1)).1 105 8) (y := 1) rfl (show (1 : Int32).toInt = 1 by decide))
      refine zn_c [.int (((zf s5 105 11 ((s5.1 105 11) + 1)).1 105 8) + 1), .ref 105] xo_iadd rfl rfl ?_
      refine zn_putI (a := 105) rfl rfl rfl rfl ⟨Int32.le_toInt _, Int.le_of_lt_add_one (Int32.toInt_lt _)⟩ rfl rfl rfl ?_
      replace h := h _ rfl
      refine zn_ld rfl rfl rfl ?_
      refine zn_get (v := .ref 108) rfl (zv_R (a := 105) rfl rfl) ?_
      refine zn_c [.int 2, .ref 108] (xo_push (.int 2)) rfl rfl ?_
      refine zn_ld rfl rfl rfl ?_
      refine zn_get (v := .int ((zf (zf s5 105 11 ((s5.1 105 11) + 1)) 105 8 (((zf s5 105 11 ((s5.1 105 11) + 1)).1 105 8) + 1)).1 105 8)) rfl (zv_I (a := 105) rfl rfl) ?_
      replace h := h _ (i_mul (x := 2) (y := (zf (zf s5 105 11 ((s5.1 105 11) + 1)) 105 8 (((zf s5 105 11 ((s5.1 105 11) + 1)).1 105 8) + 1)).1 105 8) (show (2 : Int32).toInt = 2 by decide) rfl)
      refine zn_c [.int (2 * ((zf (zf s5 105 11 ((s5.1 105 11) + 1)) 105 8 (((zf s5 105 11 ((s5.1 105 11) + 1)).1 105 8) + 1)).1 105 8)), .ref 108] xo_imul rfl rfl ?_
      refine zn_ld rfl rfl rfl ?_
      refine zn_get (v := .int ((zf (zf s5 105 11 ((s5.1 105 11) + 1)) 105 8 (((zf s5 105 11 ((s5.1 105 11) + 1)).1 105 8) + 1)).1 105 6)) rfl (zv_I (a := 105) rfl rfl) ?_
      refine zn_set (2 * ((zf (zf s5 105 11 ((s5.1 105 11) + 1)) 105 8 (((zf s5 105 11 ((s5.1 105 11) + 1)).1 105 8) + 1)).1 105 8)) ((zf (zf s5 105 11 ((s5.1 105 11) + 1)) 105 8 (((zf s5 105 11 ((s5.1 105 11) + 1)).1 105 8) + 1)).1 105 6) [] (a := 108) hd rfl rfl rfl rfl ⟨Int32.le_toInt _, Int.le_of_lt_add_one (Int32.toInt_lt _)⟩ rfl rfl ?_
      replace h := h _ rfl
      refine zn_ld rfl rfl rfl ?_
      refine zn_get (v := .ref 108) rfl (zv_R (a := 105) rfl rfl) ?_
      refine zn_c [.int 2, .ref 108] (xo_push (.int 2)) rfl rfl ?_
      refine zn_ld rfl rfl rfl ?_
      refine zn_get (v := .int ((zt (zf (zf s5 105 11 ((s5.1 105 11) + 1)) 105 8 (((zf s5 105 11 ((s5.1 105 11) + 1)).1 105 8) + 1)) 108 (2 * ((zf (zf s5 105 11 ((s5.1 105 11) + 1)) 105 8 (((zf s5 105 11 ((s5.1 105 11) + 1)).1 105 8) + 1)).1 105 8)) ((zf (zf s5 105 11 ((s5.1 105 11) + 1)) 105 8 (((zf s5 105 11 ((s5.1 105 11) + 1)).1 105 8) + 1)).1 105 6)).1 105 8)) rfl (zv_I (a := 105) rfl rfl) ?_
      replace h := h _ (i_mul (x := 2) (y := (zt (zf (zf s5 105 11 ((s5.1 105 11) + 1)) 105 8 (((zf s5 105 11 ((s5.1 105 11) + 1)).1 105 8) + 1)) 108 (2 * ((zf (zf s5 105 11 ((s5.1 105 11) + 1)) 105 8 (((zf s5 105 11 ((s5.1 105 11) + 1)).1 105 8) + 1)).1 105 8)) ((zf (zf s5 105 11 ((s5.1 105 11) + 1)) 105 8 (((zf s5 105 11 ((s5.1 105 11) + 1)).1 105 8) + 1)).1 105 6)).1 105 8) (show (2 : Int32).toInt = 2 by decide) rfl)
      refine zn_c [.int (2 * ((zt (zf (zf s5 105 11 ((s5.1 105 11) + 1)) 105 8 (((zf s5 105 11 ((s5.1 105 11) + 1)).1 105 8) + 1)) 108 (2 * ((zf (zf s5 105 11 ((s5.1 105 11) + 1)) 105 8 (((zf s5 105 11 ((s5.1 105 11) + 1)).1 105 8) + 1)).1 105 8)) ((zf (zf s5 105 11 ((s5.1 105 11) + 1)) 105 8 (((zf s5 105 11 ((s5.1 105 11) + 1)).1 105 8) + 1)).1 105 6)).1 105 8)), .ref 108] xo_imul rfl rfl ?_
      refine zn_c [.int 1, .int (2 * ((zt (zf (zf s5 105 11 ((s5.1 105 11) + 1)) 105 8 (((zf s5 105 11 ((s5.1 105 11) + 1)).1 105 8) + 1)) 108 (2 * ((zf (zf s5 105 11 ((s5.1 105 11) + 1)) 105 8 (((zf s5 105 11 ((s5.1 105 11) + 1)).1 105 8) + 1)).1 105 8)) ((zf (zf s5 105 11 ((s5.1 105 11) + 1)) 105 8 (((zf s5 105 11 ((s5.1 105 11) + 1)).1 105 8) + 1)).1 105 6)).1 105 8)), .ref 108] (xo_push (.int 1)) rfl rfl ?_
      replace h := h _ (i_add (x := (2 * ((zt (zf (zf s5 105 11 ((s5.1 105 11) + 1)) 105 8 (((zf s5 105 11 ((s5.1 105 11) + 1)).1 105 8) + 1)) 108 (2 * ((zf (zf s5 105 11 ((s5.1 105 11) + 1)) 105 8 (((zf s5 105 11 ((s5.1 105 11) + 1)).1 105 8) + 1)).1 105 8)) ((zf (zf s5 105 11 ((s5.1 105 11) + 1)) 105 8 (((zf s5 105 11 ((s5.1 105 11) + 1)).1 105 8) + 1)).1 105 6)).1 105 8))) (y := 1) rfl (show (1 : Int32).toInt = 1 by decide))
      refine zn_c [.int ((2 * ((zt (zf (zf s5 105 11 ((s5.1 105 11) + 1)) 105 8 (((zf s5 105 11 ((s5.1 105 11) + 1)).1 105 8) + 1)) 108 (2 * ((zf (zf s5 105 11 ((s5.1 105 11) + 1)) 105 8 (((zf s5 105 11 ((s5.1 105 11) + 1)).1 105 8) + 1)).1 105 8)) ((zf (zf s5 105 11 ((s5.1 105 11) + 1)) 105 8 (((zf s5 105 11 ((s5.1 105 11) + 1)).1 105 8) + 1)).1 105 6)).1 105 8)) + 1), .ref 108] xo_iadd rfl rfl ?_
      refine zn_ld rfl rfl rfl ?_
      refine zn_set ((2 * ((zt (zf (zf s5 105 11 ((s5.1 105 11) + 1)) 105 8 (((zf s5 105 11 ((s5.1 105 11) + 1)).1 105 8) + 1)) 108 (2 * ((zf (zf s5 105 11 ((s5.1 105 11) + 1)) 105 8 (((zf s5 105 11 ((s5.1 105 11) + 1)).1 105 8) + 1)).1 105 8)) ((zf (zf s5 105 11 ((s5.1 105 11) + 1)) 105 8 (((zf s5 105 11 ((s5.1 105 11) + 1)).1 105 8) + 1)).1 105 6)).1 105 8)) + 1) a3 [] (a := 108) hd rfl rfl rfl rfl ⟨Int32.le_toInt _, Int.le_of_lt_add_one (Int32.toInt_lt _)⟩ rfl rfl ?_
      replace h := h _ rfl
      refine zn_ld rfl rfl rfl ?_
      refine zn_ld rfl rfl rfl ?_
      refine zn_get (v := .ref 3) rfl (zv_C (a := 105) (n := 0) rfl rfl rfl) ?_
      refine zn_ld rfl rfl rfl ?_
      refine zn_c [.int 8, .int x6, .ref 3, .ref 105] (xo_push (.int 8)) rfl rfl ?_
      refine zn_zt [.ref 3, .int x6, .int 8] [.ref 105] (c := []) rfl rfl rfl rfl rfl (Zt.imp (zp_40 hd (Or.inl rfl)) (fun vq sq hq => ?_))
      obtain ⟨rfl, hq⟩ := hq
      rw [hq]
      change Zn _ _ _ _ _ _ _ _ _ _ _ [.int (zg (zt (zt (zf (zf s5 105 11 ((s5.1 105 11) + 1)) 105 8 (((zf s5 105 11 ((s5.1 105 11) + 1)).1 105 8) + 1)) 108 (2 * ((zf (zf s5 105 11 ((s5.1 105 11) + 1)) 105 8 (((zf s5 105 11 ((s5.1 105 11) + 1)).1 105 8) + 1)).1 105 8)) ((zf (zf s5 105 11 ((s5.1 105 11) + 1)) 105 8 (((zf s5 105 11 ((s5.1 105 11) + 1)).1 105 8) + 1)).1 105 6)) 108 ((2 * ((zt (zf (zf s5 105 11 ((s5.1 105 11) + 1)) 105 8 (((zf s5 105 11 ((s5.1 105 11) + 1)).1 105 8) + 1)) 108 (2 * ((zf (zf s5 105 11 ((s5.1 105 11) + 1)) 105 8 (((zf s5 105 11 ((s5.1 105 11) + 1)).1 105 8) + 1)).1 105 8)) ((zf (zf s5 105 11 ((s5.1 105 11) + 1)) 105 8 (((zf s5 105 11 ((s5.1 105 11) + 1)).1 105 8) + 1)).1 105 6)).1 105 8)) + 1) a3) 29 (x6 * 10 + 8)), .ref 105] _ _
      refine zn_putI (a := 105) rfl rfl rfl rfl ⟨Int32.le_toInt _, Int.le_of_lt_add_one (Int32.toInt_lt _)⟩ rfl rfl rfl ?_
      replace h := h _ rfl
      exact zn_ret0 rfl h
    · replace h := h.2 (fun q => hcn ((i_lt (x := s2.1 105 8) (y := 40) rfl (show (40 : Int32).toInt = 40 by decide)).mpr q))
      refine zn_ld rfl rfl rfl ?_
      refine zn_c [.int 3, .ref 105] (xo_push (.int 3)) rfl rfl ?_
      refine zn_putI (a := 105) rfl rfl rfl rfl ⟨Int32.le_toInt _, Int.le_of_lt_add_one (Int32.toInt_lt _)⟩ rfl rfl rfl ?_
      replace h := h _ rfl
      exact zn_ret0 rfl h
  · replace h := h.2 ((i_eq (x := x3) (y := 0) rfl (show (0 : Int32).toInt = 0 by decide)).mp hcn)
    exact zn_ret0 rfl h
set_option maxRecDepth 20000 in
theorem m_27_53_3 {d d0 : Nat} (hd : d = d0 + 8) {e : Nat} (he : skE e = true) {R53 : Int32 → Int32 → Int32 → Int32 → Int32 → Int32 → Int32 → zS → Prop} {a1 : Int32} {a2 : Int32} {a3 : Int32} {a4 : Int32} {a6 : Int32} {a7 : Int32} {a8 : Int32} {s : zS} {Q : Option Value → zS → Prop} (r53 : ∀ a1 a2 a3 a4 a6 a7 a8 s, R53 a1 a2 a3 a4 a6 a7 a8 s → Zn d [] [(3, 98)] ([(105, 5, 3), (75, 0, 3), (75, 1, 21), (75, 2, 25)] : zW) ([(105, 5, 3), (75, 0, 3), (75, 1, 21), (75, 2, 25)] : zW) xL_2 9 (none) xE_27 (xE_27.drop 53) [.ref 105, .int a1, .int a2, .int a3, .int a4, .ref e, .int a6, .int a7, .int a8, .null, .null, .null] [] s Q) (h : v_27_53 (fun j => Zt d (wd2 3 j) j) 3 e R53 a1 a2 a3 a4 a6 a7 a8 s Q) : Zn d [] [(3, 98)] ([(105, 5, 3), (75, 0, 3), (75, 1, 21), (75, 2, 25)] : zW) ([(105, 5, 3), (75, 0, 3), (75, 1, 21), (75, 2, 25)] : zW) xL_2 9 (none) xE_27 (xE_27.drop 53) [.ref 105, .int a1, .int a2, .int a3, .int a4, .ref e, .int a6, .int a7, .int a8, .null, .null, .null] [] s Q := by
  unfold v_27_53 at h
  refine zn_ld rfl rfl rfl ?_
  refine zn_ld rfl rfl rfl ?_
  refine zn_brP rfl rfl ⟨fun hcn => ?_, fun hcn => ?_⟩
  · replace h := h.1 ((i_le (x := a7) (y := a8) rfl rfl).mp hcn)
    exact m_27_77_3 hd he  h
  · replace h := h.2 (fun q => hcn ((i_le (x := a7) (y := a8) rfl rfl).mpr q))
    refine zn_ld rfl rfl rfl ?_
    refine zn_get (v := .int (s.1 105 13)) rfl (zv_I (a := 105) rfl rfl) ?_
    refine zn_c [.int 5, .int (s.1 105 13)] (xo_push (.int 5)) rfl rfl ?_
    refine zn_brN rfl rfl ⟨fun hcn => ?_, fun hcn => ?_⟩
    · replace h := h.1 (fun q => hcn ((i_eq (x := s.1 105 13) (y := 5) rfl (show (5 : Int32).toInt = 5 by decide)).mpr q))
      exact m_27_77_3 hd he  h
    · replace h := h.2 ((i_eq (x := s.1 105 13) (y := 5) rfl (show (5 : Int32).toInt = 5 by decide)).mp hcn)
      refine zn_ld rfl rfl rfl ?_
      refine zn_get (v := .ref 75) rfl (zv_R (a := 105) rfl rfl) ?_
      refine zn_ld rfl rfl rfl ?_
      refine zn_c [.int 6, .ref e, .ref 75] (xo_push (.int 6)) rfl rfl ?_
      refine zn_ld rfl rfl rfl ?_
      replace h := h _ (i_add (x := 6) (y := a8) (show (6 : Int32).toInt = 6 by decide) rfl)
      refine zn_c [.int (6 + a8), .ref e, .ref 75] xo_iadd rfl rfl ?_
      refine zn_ld rfl rfl rfl ?_
      refine zn_ld rfl rfl rfl ?_
      refine zn_zt [.ref 105, .int a6] [.int (6 + a8), .ref e, .ref 75] rfl rfl rfl rfl rfl (Zt.imp h (fun v2 s3 h => ?_))
      obtain ⟨x4, rfl, h⟩ := h
      change Zn _ _ _ _ _ _ _ _ _ _ _ [.int x4, .int (6 + a8), .ref e, .ref 75] _ _
      refine zn_zt [.ref 75, .ref e, .int (6 + a8), .int x4] [] rfl rfl rfl rfl rfl (Zt.imp h (fun v5 s6 h => ?_))
      obtain ⟨rfl, h⟩ := h
      change Zn _ _ _ _ _ _ _ _ _ _ _ [] _ _
      refine zn_ld rfl rfl rfl ?_
      refine zn_get (v := .ref 75) rfl (zv_R (a := 105) rfl rfl) ?_
      refine zn_ld rfl rfl rfl ?_
      refine zn_zt [.ref 75, .int a6] [] rfl rfl rfl rfl rfl (Zt.imp h (fun v7 s8 h => ?_))
      obtain ⟨x9, rfl, h⟩ := h
      change Zn _ _ _ _ _ _ _ _ _ _ _ [.int x9] _ _
      refine zn_st [.ref 105, .int a1, .int a2, .int a3, .int a4, .ref e, .int x9, .int a7, .int a8, .null, .null, .null] rfl rfl rfl ?_
      replace h := h _ (i_add (x := a8) (y := 1) rfl (show (1 : Int32).toInt = 1 by decide))
      refine zn_inc [.ref 105, .int a1, .int a2, .int a3, .int a4, .ref e, .int x9, .int a7, .int (a8 + 1), .null, .null, .null] rfl rfl rfl rfl ?_
      refine zn_go rfl ?_
      exact r53 a1 a2 a3 a4 x9 a7 (a8 + 1) s8 h
theorem ml_27_53_3 {d d0 : Nat} (hd : d = d0 + 8) {e : Nat} (he : skE e = true)  {a1 : Int32} {a2 : Int32} {a3 : Int32} {a4 : Int32} {a6 : Int32} {a7 : Int32} {a8 : Int32} {s : zS} {Q : Option Value → zS → Prop}  (h : vl_27_53 (fun j => Zt d (wd2 3 j) j) 3 e  a1 a2 a3 a4 a6 a7 a8 s Q) : Zn d [] [(3, 98)] ([(105, 5, 3), (75, 0, 3), (75, 1, 21), (75, 2, 25)] : zW) ([(105, 5, 3), (75, 0, 3), (75, 1, 21), (75, 2, 25)] : zW) xL_2 9 (none) xE_27 (xE_27.drop 53) [.ref 105, .int a1, .int a2, .int a3, .int a4, .ref e, .int a6, .int a7, .int a8, .null, .null, .null] [] s Q := by
  obtain ⟨I, μ, h0, h1⟩ := h
  have key : ∀ (n : Nat) (a1 : Int32) (a2 : Int32) (a3 : Int32) (a4 : Int32) (a6 : Int32) (a7 : Int32) (a8 : Int32) (s : zS), μ a1 a2 a3 a4 a6 a7 a8 s = n → I a1 a2 a3 a4 a6 a7 a8 s → Zn d [] [(3, 98)] ([(105, 5, 3), (75, 0, 3), (75, 1, 21), (75, 2, 25)] : zW) ([(105, 5, 3), (75, 0, 3), (75, 1, 21), (75, 2, 25)] : zW) xL_2 9 (none) xE_27 (xE_27.drop 53) [.ref 105, .int a1, .int a2, .int a3, .int a4, .ref e, .int a6, .int a7, .int a8, .null, .null, .null] [] s Q := by
    intro n
    induction n using Nat.strongRecOn with
    | ind n ih =>
      intro a1 a2 a3 a4 a6 a7 a8 s e hI
      exact m_27_53_3 hd he (fun a1' a2' a3' a4' a6' a7' a8' s' q => ih _ (by rw [← e]; exact q.2) a1' a2' a3' a4' a6' a7' a8' s' rfl q.1) (h1 a1 a2 a3 a4 a6 a7 a8 s hI)
  exact key _ a1 a2 a3 a4 a6 a7 a8 s rfl h0
set_option maxRecDepth 20000 in
theorem m_27_0_3 {d d0 : Nat} (hd : d = d0 + 8)  {a1 : Int32} {a2 : Int32} {s : zS} {Q : Option Value → zS → Prop}  (h : v_27_0 (fun j => Zt d (wd2 3 j) j) 3  a1 a2 s Q) : Zn d [] [(3, 98)] ([(105, 5, 3), (75, 0, 3), (75, 1, 21), (75, 2, 25)] : zW) ([(105, 5, 3), (75, 0, 3), (75, 1, 21), (75, 2, 25)] : zW) xL_2 9 (none) xE_27 (xE_27.drop 0) [.ref 105, .int a1, .int a2, .null, .null, .null, .null, .null, .null, .null, .null, .null] [] s Q := by
  unfold v_27_0 at h
  refine zn_ld rfl rfl rfl ?_
  refine zn_get (v := .int (s.1 105 7)) rfl (zv_I (a := 105) rfl rfl) ?_
  refine zn_c [.int 1, .int (s.1 105 7)] (xo_push (.int 1)) rfl rfl ?_
  replace h := h _ (i_sub (x := s.1 105 7) (y := 1) rfl (show (1 : Int32).toInt = 1 by decide))
  refine zn_c [.int ((s.1 105 7) - 1)] xo_isub rfl rfl ?_
  refine zn_ld rfl rfl rfl ?_
  refine zn_get (v := .ref 3) rfl (zv_C (a := 105) (n := 0) rfl rfl rfl) ?_
  refine zn_get (v := .ref 37) rfl (zv_R (a := 3) rfl rfl) ?_
  refine zn_ld rfl rfl rfl ?_
  refine zn_c [.int 2, .int a1, .ref 37, .int ((s.1 105 7) - 1)] (xo_push (.int 2)) rfl rfl ?_
  replace h := h _ (i_add (x := a1) (y := 2) rfl (show (2 : Int32).toInt = 2 by decide))
  refine zn_c [.int (a1 + 2), .ref 37, .int ((s.1 105 7) - 1)] xo_iadd rfl rfl ?_
  refine zn_row (a1 + 2) [.int ((s.1 105 7) - 1)] (a := 37) hd rfl rfl rfl rfl ?_
  change Zn _ _ _ _ _ _ _ _ _ _ _ [.int (zg s 37 (a1 + 2)), .int ((s.1 105 7) - 1)] _ _
  replace h := h _ (i_sub (x := ((s.1 105 7) - 1)) (y := zg s 37 (a1 + 2)) rfl rfl)
  refine zn_c [.int (((s.1 105 7) - 1) - (zg s 37 (a1 + 2)))] xo_isub rfl rfl ?_
  refine zn_st [.ref 105, .int a1, .int a2, .int (((s.1 105 7) - 1) - (zg s 37 (a1 + 2))), .null, .null, .null, .null, .null, .null, .null, .null] rfl rfl rfl ?_
  refine zn_ld rfl rfl rfl ?_
  refine zn_get (v := .ref 111) rfl (zv_R (a := 105) rfl rfl) ?_
  refine zn_ld rfl rfl rfl ?_
  refine zn_get (v := .ref 106) rfl (zv_R (a := 105) rfl rfl) ?_
  refine zn_ld rfl rfl rfl ?_
  refine zn_row (((s.1 105 7) - 1) - (zg s 37 (a1 + 2))) [.ref 111] (a := 106) hd rfl rfl rfl rfl ?_
  change Zn _ _ _ _ _ _ _ _ _ _ _ [.int (zg s 106 (((s.1 105 7) - 1) - (zg s 37 (a1 + 2)))), .ref 111] _ _
  refine zn_row (zg s 106 (((s.1 105 7) - 1) - (zg s 37 (a1 + 2)))) [] (a := 111) hd rfl rfl rfl rfl ?_
  change Zn _ _ _ _ _ _ _ _ _ _ _ [.int (zg s 111 (zg s 106 (((s.1 105 7) - 1) - (zg s 37 (a1 + 2)))))] _ _
  refine zn_st [.ref 105, .int a1, .int a2, .int (((s.1 105 7) - 1) - (zg s 37 (a1 + 2))), .int (zg s 111 (zg s 106 (((s.1 105 7) - 1) - (zg s 37 (a1 + 2))))), .null, .null, .null, .null, .null, .null, .null] rfl rfl rfl ?_
  refine zn_ld rfl rfl rfl ?_
  refine zn_ld rfl rfl rfl ?_
  refine zn_get (v := .int (s.1 105 8)) rfl (zv_I (a := 105) rfl rfl) ?_
  refine zn_c [.int 1, .int (s.1 105 8), .ref 105] (xo_push (.int 1)) rfl rfl ?_
  replace h := h _ (i_add (x := s.1 105 8) (y := 1) rfl (show (1 : Int32).toInt = 1 by decide))
  refine zn_c [.int ((s.1 105 8) + 1), .ref 105] xo_iadd rfl rfl ?_
  refine zn_zt [.ref 105, .int ((s.1 105 8) + 1)] [] rfl rfl rfl rfl rfl (Zt.imp h (fun v5 s6 h => ?_))
  obtain ⟨e, he, rfl, h⟩ := h
  change Zn _ _ _ _ _ _ _ _ _ _ _ [.ref e] _ _
  refine zn_st [.ref 105, .int a1, .int a2, .int (((s.1 105 7) - 1) - (zg s 37 (a1 + 2))), .int (zg s 111 (zg s 106 (((s.1 105 7) - 1) - (zg s 37 (a1 + 2))))), .ref e, .null, .null, .null, .null, .null, .null] rfl rfl rfl ?_
  refine zn_ld rfl rfl rfl ?_
  refine zn_get (v := .ref 75) rfl (zv_R (a := 105) rfl rfl) ?_
  refine zn_ld rfl rfl rfl ?_
  refine zn_ld rfl rfl rfl ?_
  refine zn_c [.int 0, .int (zg s 111 (zg s 106 (((s.1 105 7) - 1) - (zg s 37 (a1 + 2))))), .ref e, .ref 75] (xo_push (.int 0)) rfl rfl ?_
  refine zn_c [.int 0, .int 0, .int (zg s 111 (zg s 106 (((s.1 105 7) - 1) - (zg s 37 (a1 + 2))))), .ref e, .ref 75] (xo_push (.int 0)) rfl rfl ?_
  refine zn_zt [.ref 75, .ref e, .int (zg s 111 (zg s 106 (((s.1 105 7) - 1) - (zg s 37 (a1 + 2))))), .int 0, .int 0] [] rfl rfl rfl rfl rfl (Zt.imp h (fun v7 s8 h => ?_))
  obtain ⟨rfl, h⟩ := h
  change Zn _ _ _ _ _ _ _ _ _ _ _ [] _ _
  refine zn_ld rfl rfl rfl ?_
  refine zn_get (v := .ref 3) rfl (zv_C (a := 105) (n := 0) rfl rfl rfl) ?_
  refine zn_get (v := .ref 37) rfl (zv_R (a := 3) rfl rfl) ?_
  refine zn_ld rfl rfl rfl ?_
  refine zn_c [.int 3, .int a1, .ref 37] (xo_push (.int 3)) rfl rfl ?_
  replace h := h _ (i_add (x := a1) (y := 3) rfl (show (3 : Int32).toInt = 3 by decide))
  refine zn_c [.int (a1 + 3), .ref 37] xo_iadd rfl rfl ?_
  refine zn_row (a1 + 3) [] (a := 37) hd rfl rfl rfl rfl ?_
  change Zn _ _ _ _ _ _ _ _ _ _ _ [.int (zg s8 37 (a1 + 3))] _ _
  refine zn_st [.ref 105, .int a1, .int a2, .int (((s.1 105 7) - 1) - (zg s 37 (a1 + 2))), .int (zg s 111 (zg s 106 (((s.1 105 7) - 1) - (zg s 37 (a1 + 2))))), .ref e, .int (zg s8 37 (a1 + 3)), .null, .null, .null, .null, .null] rfl rfl rfl ?_
  refine zn_ld rfl rfl rfl ?_
  refine zn_get (v := .ref 3) rfl (zv_C (a := 105) (n := 0) rfl rfl rfl) ?_
  refine zn_get (v := .ref 37) rfl (zv_R (a := 3) rfl rfl) ?_
  refine zn_ld rfl rfl rfl ?_
  refine zn_c [.int 4, .int a1, .ref 37] (xo_push (.int 4)) rfl rfl ?_
  replace h := h _ (i_add (x := a1) (y := 4) rfl (show (4 : Int32).toInt = 4 by decide))
  refine zn_c [.int (a1 + 4), .ref 37] xo_iadd rfl rfl ?_
  refine zn_row (a1 + 4) [] (a := 37) hd rfl rfl rfl rfl ?_
  change Zn _ _ _ _ _ _ _ _ _ _ _ [.int (zg s8 37 (a1 + 4))] _ _
  refine zn_st [.ref 105, .int a1, .int a2, .int (((s.1 105 7) - 1) - (zg s 37 (a1 + 2))), .int (zg s 111 (zg s 106 (((s.1 105 7) - 1) - (zg s 37 (a1 + 2))))), .ref e, .int (zg s8 37 (a1 + 3)), .int (zg s8 37 (a1 + 4)), .null, .null, .null, .null] rfl rfl rfl ?_
  refine zn_c [.int 0] (xo_push (.int 0)) rfl rfl ?_
  refine zn_st [.ref 105, .int a1, .int a2, .int (((s.1 105 7) - 1) - (zg s 37 (a1 + 2))), .int (zg s 111 (zg s 106 (((s.1 105 7) - 1) - (zg s 37 (a1 + 2))))), .ref e, .int (zg s8 37 (a1 + 3)), .int (zg s8 37 (a1 + 4)), .int 0, .null, .null, .null] rfl rfl rfl ?_
  exact ml_27_53_3 hd he  h
theorem zq_27_3 {d : Nat} {a1 : Int32} {a2 : Int32} {s : zS} {Q : Option Value → zS → Prop} (h : v_27_0 (fun j => Zt (d + 8) (wd2 3 j) j) 3 a1 a2 s Q) : Zt (d + 9) ([(105, 5, 3), (75, 0, 3), (75, 1, 21), (75, 2, 25)] : zW) 27 [.ref 105, .int a1, .int a2] s Q := zt_of (E := xE_27) (L := xL_2) (ml := 9) (ret := none) rfl rfl rfl (m_27_0_3 rfl h)
set_option maxRecDepth 20000 in
theorem m_27_77_39 {d d0 : Nat} (hd : d = d0 + 8) {e : Nat} (he : skE e = true)  {a1 : Int32} {a2 : Int32} {a3 : Int32} {a4 : Int32} {a6 : Int32} {a7 : Int32} {a8 : Int32} {s : zS} {Q : Option Value → zS → Prop}  (h : v_27_77 (fun j => Zt d (wd2 39 j) j) 39 e  a1 a2 a3 a4 a6 a7 a8 s Q) : Zn d [] [(39, 98)] ([(105, 5, 39), (75, 0, 39), (75, 1, 57), (75, 2, 61)] : zW) ([(105, 5, 39), (75, 0, 39), (75, 1, 57), (75, 2, 61)] : zW) xL_2 9 (none) xE_27 (xE_27.drop 77) [.ref 105, .int a1, .int a2, .int a3, .int a4, .ref e, .int a6, .int a7, .int a8, .null, .null, .null] [] s Q := by
  unfold v_27_77 at h
  refine zn_ld rfl rfl rfl ?_
  refine zn_c [.int 1, .ref 105] (xo_push (.int 1)) rfl rfl ?_
  refine zn_zt [.ref 105, .int 1] [] rfl rfl rfl rfl rfl (Zt.imp h (fun v1 s2 h => ?_))
  obtain ⟨x3, rfl, h⟩ := h
  change Zn _ _ _ _ _ _ _ _ _ _ _ [.int x3] _ _
  refine zn_brN rfl rfl ⟨fun hcn => ?_, fun hcn => ?_⟩
  · replace h := h.1 (fun q => hcn ((i_eq (x := x3) (y := 0) rfl (show (0 : Int32).toInt = 0 by decide)).mpr q))
    refine zn_ld rfl rfl rfl ?_
    refine zn_get (v := .int (s2.1 105 8)) rfl (zv_I (a := 105) rfl rfl) ?_
    refine zn_c [.int 40, .int (s2.1 105 8)] (xo_push (.int 40)) rfl rfl ?_
    refine zn_brP rfl rfl ⟨fun hcn => ?_, fun hcn => ?_⟩
    · replace h := h.1 ((i_lt (x := s2.1 105 8) (y := 40) rfl (show (40 : Int32).toInt = 40 by decide)).mp hcn)
      refine zn_ld rfl rfl rfl ?_
      refine zn_get (v := .ref 39) rfl (zv_C (a := 105) (n := 0) rfl rfl rfl) ?_
      refine zn_ld rfl rfl rfl ?_
      refine zn_get (v := .ref 39) rfl (zv_C (a := 105) (n := 0) rfl rfl rfl) ?_
      refine zn_get (v := .ref 57) rfl (zv_R (a := 39) rfl rfl) ?_
      refine zn_ld rfl rfl rfl ?_
      refine zn_row a4 [.ref 39] (a := 57) hd rfl rfl rfl rfl ?_
      change Zn _ _ _ _ _ _ _ _ _ _ _ [.int (zg s2 57 a4), .ref 39] _ _
      refine zn_ld rfl rfl rfl ?_
      refine zn_zt [.ref 39, .int (zg s2 57 a4), .int a2] [] rfl rfl rfl rfl rfl (Zt.imp h (fun v4 s5 h => ?_))
      obtain ⟨x6, rfl, h⟩ := h
      change Zn _ _ _ _ _ _ _ _ _ _ _ [.int x6] _ _
      refine zn_st [.ref 105, .int a1, .int a2, .int a3, .int a4, .ref e, .int a6, .int a7, .int x6, .null, .null, .null] rfl rfl rfl ?_
      refine zn_ld rfl rfl rfl ?_
      refine zn_c [.ref 105, .ref 105] xo_dup rfl rfl ?_
      refine zn_get (v := .int (s5.1 105 11)) rfl (zv_I (a := 105) rfl rfl) ?_
      refine zn_c [.int 1, .int (s5.1 105 11), .ref 105] (xo_push (.int 1)) rfl rfl ?_
      replace h := h _ (i_add (x := s5.1 105 11) (y := 1) rfl (show (1 : Int32).toInt = 1 by decide))
      refine zn_c [.int ((s5.1 105 11) + 1), .ref 105] xo_iadd rfl rfl ?_
      refine zn_putI (a := 105) rfl rfl rfl rfl ⟨Int32.le_toInt _, Int.le_of_lt_add_one (Int32.toInt_lt _)⟩ rfl rfl rfl ?_
      replace h := h _ rfl
      refine zn_ld rfl rfl rfl ?_
      refine zn_c [.ref 105, .ref 105] xo_dup rfl rfl ?_
      refine zn_get (v := .int ((zf s5 105 11 ((s5.1 105 11) + 1)).1 105 8)) rfl (zv_I (a := 105) rfl rfl) ?_
      refine zn_c [.int 1, .int ((zf s5 105 11 ((s5.1 105 11) + 1)).1 105 8), .ref 105] (xo_push (.int 1)) rfl rfl ?_
      replace h := h _ (i_add (x := (zf s5 105 11 ((s5.1 105 11) + 1)).1 105 8) (y := 1) rfl (show (1 : Int32).toInt = 1 by decide))
      refine zn_c [.int (((zf s5 105 11 ((s5.1 105 11) + 1)).1 105 8) + 1), .ref 105] xo_iadd rfl rfl ?_
      refine zn_putI (a := 105) rfl rfl rfl rfl ⟨Int32.le_toInt _, Int.le_of_lt_add_one (Int32.toInt_lt _)⟩ rfl rfl rfl ?_
      replace h := h _ rfl
      refine zn_ld rfl rfl rfl ?_
      refine zn_get (v := .ref 108) rfl (zv_R (a := 105) rfl rfl) ?_
      refine zn_c [.int 2, .ref 108] (xo_push (.int 2)) rfl rfl ?_
      refine zn_ld rfl rfl rfl ?_
      refine zn_get (v := .int ((zf (zf s5 105 11 ((s5.1 105 11) + 1)) 105 8 (((zf s5 105 11 ((s5.1 105 11) + 1)).1 105 8) + 1)).1 105 8)) rfl (zv_I (a := 105) rfl rfl) ?_
      replace h := h _ (i_mul (x := 2) (y := (zf (zf s5 105 11 ((s5.1 105 11) + 1)) 105 8 (((zf s5 105 11 ((s5.1 105 11) + 1)).1 105 8) + 1)).1 105 8) (show (2 : Int32).toInt = 2 by decide) rfl)
      refine zn_c [.int (2 * ((zf (zf s5 105 11 ((s5.1 105 11) + 1)) 105 8 (((zf s5 105 11 ((s5.1 105 11) + 1)).1 105 8) + 1)).1 105 8)), .ref 108] xo_imul rfl rfl ?_
      refine zn_ld rfl rfl rfl ?_
      refine zn_get (v := .int ((zf (zf s5 105 11 ((s5.1 105 11) + 1)) 105 8 (((zf s5 105 11 ((s5.1 105 11) + 1)).1 105 8) + 1)).1 105 6)) rfl (zv_I (a := 105) rfl rfl) ?_
      refine zn_set (2 * ((zf (zf s5 105 11 ((s5.1 105 11) + 1)) 105 8 (((zf s5 105 11 ((s5.1 105 11) + 1)).1 105 8) + 1)).1 105 8)) ((zf (zf s5 105 11 ((s5.1 105 11) + 1)) 105 8 (((zf s5 105 11 ((s5.1 105 11) + 1)).1 105 8) + 1)).1 105 6) [] (a := 108) hd rfl rfl rfl rfl ⟨Int32.le_toInt _, Int.le_of_lt_add_one (Int32.toInt_lt _)⟩ rfl rfl ?_
      replace h := h _ rfl
      refine zn_ld rfl rfl rfl ?_
      refine zn_get (v := .ref 108) rfl (zv_R (a := 105) rfl rfl) ?_
      refine zn_c [.int 2, .ref 108] (xo_push (.int 2)) rfl rfl ?_
      refine zn_ld rfl rfl rfl ?_
      refine zn_get (v := .int ((zt (zf (zf s5 105 11 ((s5.1 105 11) + 1)) 105 8 (((zf s5 105 11 ((s5.1 105 11) + 1)).1 105 8) + 1)) 108 (2 * ((zf (zf s5 105 11 ((s5.1 105 11) + 1)) 105 8 (((zf s5 105 11 ((s5.1 105 11) + 1)).1 105 8) + 1)).1 105 8)) ((zf (zf s5 105 11 ((s5.1 105 11) + 1)) 105 8 (((zf s5 105 11 ((s5.1 105 11) + 1)).1 105 8) + 1)).1 105 6)).1 105 8)) rfl (zv_I (a := 105) rfl rfl) ?_
      replace h := h _ (i_mul (x := 2) (y := (zt (zf (zf s5 105 11 ((s5.1 105 11) + 1)) 105 8 (((zf s5 105 11 ((s5.1 105 11) + 1)).1 105 8) + 1)) 108 (2 * ((zf (zf s5 105 11 ((s5.1 105 11) + 1)) 105 8 (((zf s5 105 11 ((s5.1 105 11) + 1)).1 105 8) + 1)).1 105 8)) ((zf (zf s5 105 11 ((s5.1 105 11) + 1)) 105 8 (((zf s5 105 11 ((s5.1 105 11) + 1)).1 105 8) + 1)).1 105 6)).1 105 8) (show (2 : Int32).toInt = 2 by decide) rfl)
      refine zn_c [.int (2 * ((zt (zf (zf s5 105 11 ((s5.1 105 11) + 1)) 105 8 (((zf s5 105 11 ((s5.1 105 11) + 1)).1 105 8) + 1)) 108 (2 * ((zf (zf s5 105 11 ((s5.1 105 11) + 1)) 105 8 (((zf s5 105 11 ((s5.1 105 11) + 1)).1 105 8) + 1)).1 105 8)) ((zf (zf s5 105 11 ((s5.1 105 11) + 1)) 105 8 (((zf s5 105 11 ((s5.1 105 11) + 1)).1 105 8) + 1)).1 105 6)).1 105 8)), .ref 108] xo_imul rfl rfl ?_
      refine zn_c [.int 1, .int (2 * ((zt (zf (zf s5 105 11 ((s5.1 105 11) + 1)) 105 8 (((zf s5 105 11 ((s5.1 105 11) + 1)).1 105 8) + 1)) 108 (2 * ((zf (zf s5 105 11 ((s5.1 105 11) + 1)) 105 8 (((zf s5 105 11 ((s5.1 105 11) + 1)).1 105 8) + 1)).1 105 8)) ((zf (zf s5 105 11 ((s5.1 105 11) + 1)) 105 8 (((zf s5 105 11 ((s5.1 105 11) + 1)).1 105 8) + 1)).1 105 6)).1 105 8)), .ref 108] (xo_push (.int 1)) rfl rfl ?_
      replace h := h _ (i_add (x := (2 * ((zt (zf (zf s5 105 11 ((s5.1 105 11) + 1)) 105 8 (((zf s5 105 11 ((s5.1 105 11) + 1)).1 105 8) + 1)) 108 (2 * ((zf (zf s5 105 11 ((s5.1 105 11) + 1)) 105 8 (((zf s5 105 11 ((s5.1 105 11) + 1)).1 105 8) + 1)).1 105 8)) ((zf (zf s5 105 11 ((s5.1 105 11) + 1)) 105 8 (((zf s5 105 11 ((s5.1 105 11) + 1)).1 105 8) + 1)).1 105 6)).1 105 8))) (y := 1) rfl (show (1 : Int32).toInt = 1 by decide))
      refine zn_c [.int ((2 * ((zt (zf (zf s5 105 11 ((s5.1 105 11) + 1)) 105 8 (((zf s5 105 11 ((s5.1 105 11) + 1)).1 105 8) + 1)) 108 (2 * ((zf (zf s5 105 11 ((s5.1 105 11) + 1)) 105 8 (((zf s5 105 11 ((s5.1 105 11) + 1)).1 105 8) + 1)).1 105 8)) ((zf (zf s5 105 11 ((s5.1 105 11) + 1)) 105 8 (((zf s5 105 11 ((s5.1 105 11) + 1)).1 105 8) + 1)).1 105 6)).1 105 8)) + 1), .ref 108] xo_iadd rfl rfl ?_
      refine zn_ld rfl rfl rfl ?_
      refine zn_set ((2 * ((zt (zf (zf s5 105 11 ((s5.1 105 11) + 1)) 105 8 (((zf s5 105 11 ((s5.1 105 11) + 1)).1 105 8) + 1)) 108 (2 * ((zf (zf s5 105 11 ((s5.1 105 11) + 1)) 105 8 (((zf s5 105 11 ((s5.1 105 11) + 1)).1 105 8) + 1)).1 105 8)) ((zf (zf s5 105 11 ((s5.1 105 11) + 1)) 105 8 (((zf s5 105 11 ((s5.1 105 11) + 1)).1 105 8) + 1)).1 105 6)).1 105 8)) + 1) a3 [] (a := 108) hd rfl rfl rfl rfl ⟨Int32.le_toInt _, Int.le_of_lt_add_one (Int32.toInt_lt _)⟩ rfl rfl ?_
      replace h := h _ rfl
      refine zn_ld rfl rfl rfl ?_
      refine zn_ld rfl rfl rfl ?_
      refine zn_get (v := .ref 39) rfl (zv_C (a := 105) (n := 0) rfl rfl rfl) ?_
      refine zn_ld rfl rfl rfl ?_
      refine zn_c [.int 8, .int x6, .ref 39, .ref 105] (xo_push (.int 8)) rfl rfl ?_
      refine zn_zt [.ref 39, .int x6, .int 8] [.ref 105] (c := []) rfl rfl rfl rfl rfl (Zt.imp (zp_40 hd (Or.inr rfl)) (fun vq sq hq => ?_))
      obtain ⟨rfl, hq⟩ := hq
      rw [hq]
      change Zn _ _ _ _ _ _ _ _ _ _ _ [.int (zg (zt (zt (zf (zf s5 105 11 ((s5.1 105 11) + 1)) 105 8 (((zf s5 105 11 ((s5.1 105 11) + 1)).1 105 8) + 1)) 108 (2 * ((zf (zf s5 105 11 ((s5.1 105 11) + 1)) 105 8 (((zf s5 105 11 ((s5.1 105 11) + 1)).1 105 8) + 1)).1 105 8)) ((zf (zf s5 105 11 ((s5.1 105 11) + 1)) 105 8 (((zf s5 105 11 ((s5.1 105 11) + 1)).1 105 8) + 1)).1 105 6)) 108 ((2 * ((zt (zf (zf s5 105 11 ((s5.1 105 11) + 1)) 105 8 (((zf s5 105 11 ((s5.1 105 11) + 1)).1 105 8) + 1)) 108 (2 * ((zf (zf s5 105 11 ((s5.1 105 11) + 1)) 105 8 (((zf s5 105 11 ((s5.1 105 11) + 1)).1 105 8) + 1)).1 105 8)) ((zf (zf s5 105 11 ((s5.1 105 11) + 1)) 105 8 (((zf s5 105 11 ((s5.1 105 11) + 1)).1 105 8) + 1)).1 105 6)).1 105 8)) + 1) a3) 65 (x6 * 10 + 8)), .ref 105] _ _
      refine zn_putI (a := 105) rfl rfl rfl rfl ⟨Int32.le_toInt _, Int.le_of_lt_add_one (Int32.toInt_lt _)⟩ rfl rfl rfl ?_
      replace h := h _ rfl
      exact zn_ret0 rfl h
    · replace h := h.2 (fun q => hcn ((i_lt (x := s2.1 105 8) (y := 40) rfl (show (40 : Int32).toInt = 40 by decide)).mpr q))
      refine zn_ld rfl rfl rfl ?_
      refine zn_c [.int 3, .ref 105] (xo_push (.int 3)) rfl rfl ?_
      refine zn_putI (a := 105) rfl rfl rfl rfl ⟨Int32.le_toInt _, Int.le_of_lt_add_one (Int32.toInt_lt _)⟩ rfl rfl rfl ?_
      replace h := h _ rfl
      exact zn_ret0 rfl h
  · replace h := h.2 ((i_eq (x := x3) (y := 0) rfl (show (0 : Int32).toInt = 0 by decide)).mp hcn)
    exact zn_ret0 rfl h
set_option maxRecDepth 20000 in
theorem m_27_53_39 {d d0 : Nat} (hd : d = d0 + 8) {e : Nat} (he : skE e = true) {R53 : Int32 → Int32 → Int32 → Int32 → Int32 → Int32 → Int32 → zS → Prop} {a1 : Int32} {a2 : Int32} {a3 : Int32} {a4 : Int32} {a6 : Int32} {a7 : Int32} {a8 : Int32} {s : zS} {Q : Option Value → zS → Prop} (r53 : ∀ a1 a2 a3 a4 a6 a7 a8 s, R53 a1 a2 a3 a4 a6 a7 a8 s → Zn d [] [(39, 98)] ([(105, 5, 39), (75, 0, 39), (75, 1, 57), (75, 2, 61)] : zW) ([(105, 5, 39), (75, 0, 39), (75, 1, 57), (75, 2, 61)] : zW) xL_2 9 (none) xE_27 (xE_27.drop 53) [.ref 105, .int a1, .int a2, .int a3, .int a4, .ref e, .int a6, .int a7, .int a8, .null, .null, .null] [] s Q) (h : v_27_53 (fun j => Zt d (wd2 39 j) j) 39 e R53 a1 a2 a3 a4 a6 a7 a8 s Q) : Zn d [] [(39, 98)] ([(105, 5, 39), (75, 0, 39), (75, 1, 57), (75, 2, 61)] : zW) ([(105, 5, 39), (75, 0, 39), (75, 1, 57), (75, 2, 61)] : zW) xL_2 9 (none) xE_27 (xE_27.drop 53) [.ref 105, .int a1, .int a2, .int a3, .int a4, .ref e, .int a6, .int a7, .int a8, .null, .null, .null] [] s Q := by
  unfold v_27_53 at h
  refine zn_ld rfl rfl rfl ?_
  refine zn_ld rfl rfl rfl ?_
  refine zn_brP rfl rfl ⟨fun hcn => ?_, fun hcn => ?_⟩
  · replace h := h.1 ((i_le (x := a7) (y := a8) rfl rfl).mp hcn)
    exact m_27_77_39 hd he  h
  · replace h := h.2 (fun q => hcn ((i_le (x := a7) (y := a8) rfl rfl).mpr q))
    refine zn_ld rfl rfl rfl ?_
    refine zn_get (v := .int (s.1 105 13)) rfl (zv_I (a := 105) rfl rfl) ?_
    refine zn_c [.int 5, .int (s.1 105 13)] (xo_push (.int 5)) rfl rfl ?_
    refine zn_brN rfl rfl ⟨fun hcn => ?_, fun hcn => ?_⟩
    · replace h := h.1 (fun q => hcn ((i_eq (x := s.1 105 13) (y := 5) rfl (show (5 : Int32).toInt = 5 by decide)).mpr q))
      exact m_27_77_39 hd he  h
    · replace h := h.2 ((i_eq (x := s.1 105 13) (y := 5) rfl (show (5 : Int32).toInt = 5 by decide)).mp hcn)
      refine zn_ld rfl rfl rfl ?_
      refine zn_get (v := .ref 75) rfl (zv_R (a := 105) rfl rfl) ?_
      refine zn_ld rfl rfl rfl ?_
      refine zn_c [.int 6, .ref e, .ref 75] (xo_push (.int 6)) rfl rfl ?_
      refine zn_ld rfl rfl rfl ?_
      replace h := h _ (i_add (x := 6) (y := a8) (show (6 : Int32).toInt = 6 by decide) rfl)
      refine zn_c [.int (6 + a8), .ref e, .ref 75] xo_iadd rfl rfl ?_
      refine zn_ld rfl rfl rfl ?_
      refine zn_ld rfl rfl rfl ?_
      refine zn_zt [.ref 105, .int a6] [.int (6 + a8), .ref e, .ref 75] rfl rfl rfl rfl rfl (Zt.imp h (fun v2 s3 h => ?_))
      obtain ⟨x4, rfl, h⟩ := h
      change Zn _ _ _ _ _ _ _ _ _ _ _ [.int x4, .int (6 + a8), .ref e, .ref 75] _ _
      refine zn_zt [.ref 75, .ref e, .int (6 + a8), .int x4] [] rfl rfl rfl rfl rfl (Zt.imp h (fun v5 s6 h => ?_))
      obtain ⟨rfl, h⟩ := h
      change Zn _ _ _ _ _ _ _ _ _ _ _ [] _ _
      refine zn_ld rfl rfl rfl ?_
      refine zn_get (v := .ref 75) rfl (zv_R (a := 105) rfl rfl) ?_
      refine zn_ld rfl rfl rfl ?_
      refine zn_zt [.ref 75, .int a6] [] rfl rfl rfl rfl rfl (Zt.imp h (fun v7 s8 h => ?_))
      obtain ⟨x9, rfl, h⟩ := h
      change Zn _ _ _ _ _ _ _ _ _ _ _ [.int x9] _ _
      refine zn_st [.ref 105, .int a1, .int a2, .int a3, .int a4, .ref e, .int x9, .int a7, .int a8, .null, .null, .null] rfl rfl rfl ?_
      replace h := h _ (i_add (x := a8) (y := 1) rfl (show (1 : Int32).toInt = 1 by decide))
      refine zn_inc [.ref 105, .int a1, .int a2, .int a3, .int a4, .ref e, .int x9, .int a7, .int (a8 + 1), .null, .null, .null] rfl rfl rfl rfl ?_
      refine zn_go rfl ?_
      exact r53 a1 a2 a3 a4 x9 a7 (a8 + 1) s8 h
theorem ml_27_53_39 {d d0 : Nat} (hd : d = d0 + 8) {e : Nat} (he : skE e = true)  {a1 : Int32} {a2 : Int32} {a3 : Int32} {a4 : Int32} {a6 : Int32} {a7 : Int32} {a8 : Int32} {s : zS} {Q : Option Value → zS → Prop}  (h : vl_27_53 (fun j => Zt d (wd2 39 j) j) 39 e  a1 a2 a3 a4 a6 a7 a8 s Q) : Zn d [] [(39, 98)] ([(105, 5, 39), (75, 0, 39), (75, 1, 57), (75, 2, 61)] : zW) ([(105, 5, 39), (75, 0, 39), (75, 1, 57), (75, 2, 61)] : zW) xL_2 9 (none) xE_27 (xE_27.drop 53) [.ref 105, .int a1, .int a2, .int a3, .int a4, .ref e, .int a6, .int a7, .int a8, .null, .null, .null] [] s Q := by
  obtain ⟨I, μ, h0, h1⟩ := h
  have key : ∀ (n : Nat) (a1 : Int32) (a2 : Int32) (a3 : Int32) (a4 : Int32) (a6 : Int32) (a7 : Int32) (a8 : Int32) (s : zS), μ a1 a2 a3 a4 a6 a7 a8 s = n → I a1 a2 a3 a4 a6 a7 a8 s → Zn d [] [(39, 98)] ([(105, 5, 39), (75, 0, 39), (75, 1, 57), (75, 2, 61)] : zW) ([(105, 5, 39), (75, 0, 39), (75, 1, 57), (75, 2, 61)] : zW) xL_2 9 (none) xE_27 (xE_27.drop 53) [.ref 105, .int a1, .int a2, .int a3, .int a4, .ref e, .int a6, .int a7, .int a8, .null, .null, .null] [] s Q := by
    intro n
    induction n using Nat.strongRecOn with
    | ind n ih =>
      intro a1 a2 a3 a4 a6 a7 a8 s e hI
      exact m_27_53_39 hd he (fun a1' a2' a3' a4' a6' a7' a8' s' q => ih _ (by rw [← e]; exact q.2) a1' a2' a3' a4' a6' a7' a8' s' rfl q.1) (h1 a1 a2 a3 a4 a6 a7 a8 s hI)
  exact key _ a1 a2 a3 a4 a6 a7 a8 s rfl h0
set_option maxRecDepth 20000 in
theorem m_27_0_39 {d d0 : Nat} (hd : d = d0 + 8)  {a1 : Int32} {a2 : Int32} {s : zS} {Q : Option Value → zS → Prop}  (h : v_27_0 (fun j => Zt d (wd2 39 j) j) 39  a1 a2 s Q) : Zn d [] [(39, 98)] ([(105, 5, 39), (75, 0, 39), (75, 1, 57), (75, 2, 61)] : zW) ([(105, 5, 39), (75, 0, 39), (75, 1, 57), (75, 2, 61)] : zW) xL_2 9 (none) xE_27 (xE_27.drop 0) [.ref 105, .int a1, .int a2, .null, .null, .null, .null, .null, .null, .null, .null, .null] [] s Q := by
  unfold v_27_0 at h
  refine zn_ld rfl rfl rfl ?_
  refine zn_get (v := .int (s.1 105 7)) rfl (zv_I (a := 105) rfl rfl) ?_
  refine zn_c [.int 1, .int (s.1 105 7)] (xo_push (.int 1)) rfl rfl ?_
  replace h := h _ (i_sub (x := s.1 105 7) (y := 1) rfl (show (1 : Int32).toInt = 1 by decide))
  refine zn_c [.int ((s.1 105 7) - 1)] xo_isub rfl rfl ?_
  refine zn_ld rfl rfl rfl ?_
  refine zn_get (v := .ref 39) rfl (zv_C (a := 105) (n := 0) rfl rfl rfl) ?_
  refine zn_get (v := .ref 73) rfl (zv_R (a := 39) rfl rfl) ?_
  refine zn_ld rfl rfl rfl ?_
  refine zn_c [.int 2, .int a1, .ref 73, .int ((s.1 105 7) - 1)] (xo_push (.int 2)) rfl rfl ?_
  replace h := h _ (i_add (x := a1) (y := 2) rfl (show (2 : Int32).toInt = 2 by decide))
  refine zn_c [.int (a1 + 2), .ref 73, .int ((s.1 105 7) - 1)] xo_iadd rfl rfl ?_
  refine zn_row (a1 + 2) [.int ((s.1 105 7) - 1)] (a := 73) hd rfl rfl rfl rfl ?_
  change Zn _ _ _ _ _ _ _ _ _ _ _ [.int (zg s 73 (a1 + 2)), .int ((s.1 105 7) - 1)] _ _
  replace h := h _ (i_sub (x := ((s.1 105 7) - 1)) (y := zg s 73 (a1 + 2)) rfl rfl)
  refine zn_c [.int (((s.1 105 7) - 1) - (zg s 73 (a1 + 2)))] xo_isub rfl rfl ?_
  refine zn_st [.ref 105, .int a1, .int a2, .int (((s.1 105 7) - 1) - (zg s 73 (a1 + 2))), .null, .null, .null, .null, .null, .null, .null, .null] rfl rfl rfl ?_
  refine zn_ld rfl rfl rfl ?_
  refine zn_get (v := .ref 111) rfl (zv_R (a := 105) rfl rfl) ?_
  refine zn_ld rfl rfl rfl ?_
  refine zn_get (v := .ref 106) rfl (zv_R (a := 105) rfl rfl) ?_
  refine zn_ld rfl rfl rfl ?_
  refine zn_row (((s.1 105 7) - 1) - (zg s 73 (a1 + 2))) [.ref 111] (a := 106) hd rfl rfl rfl rfl ?_
  change Zn _ _ _ _ _ _ _ _ _ _ _ [.int (zg s 106 (((s.1 105 7) - 1) - (zg s 73 (a1 + 2)))), .ref 111] _ _
  refine zn_row (zg s 106 (((s.1 105 7) - 1) - (zg s 73 (a1 + 2)))) [] (a := 111) hd rfl rfl rfl rfl ?_
  change Zn _ _ _ _ _ _ _ _ _ _ _ [.int (zg s 111 (zg s 106 (((s.1 105 7) - 1) - (zg s 73 (a1 + 2)))))] _ _
  refine zn_st [.ref 105, .int a1, .int a2, .int (((s.1 105 7) - 1) - (zg s 73 (a1 + 2))), .int (zg s 111 (zg s 106 (((s.1 105 7) - 1) - (zg s 73 (a1 + 2))))), .null, .null, .null, .null, .null, .null, .null] rfl rfl rfl ?_
  refine zn_ld rfl rfl rfl ?_
  refine zn_ld rfl rfl rfl ?_
  refine zn_get (v := .int (s.1 105 8)) rfl (zv_I (a := 105) rfl rfl) ?_
  refine zn_c [.int 1, .int (s.1 105 8), .ref 105] (xo_push (.int 1)) rfl rfl ?_
  replace h := h _ (i_add (x := s.1 105 8) (y := 1) rfl (show (1 : Int32).toInt = 1 by decide))
  refine zn_c [.int ((s.1 105 8) + 1), .ref 105] xo_iadd rfl rfl ?_
  refine zn_zt [.ref 105, .int ((s.1 105 8) + 1)] [] rfl rfl rfl rfl rfl (Zt.imp h (fun v5 s6 h => ?_))
  obtain ⟨e, he, rfl, h⟩ := h
  change Zn _ _ _ _ _ _ _ _ _ _ _ [.ref e] _ _
  refine zn_st [.ref 105, .int a1, .int a2, .int (((s.1 105 7) - 1) - (zg s 73 (a1 + 2))), .int (zg s 111 (zg s 106 (((s.1 105 7) - 1) - (zg s 73 (a1 + 2))))), .ref e, .null, .null, .null, .null, .null, .null] rfl rfl rfl ?_
  refine zn_ld rfl rfl rfl ?_
  refine zn_get (v := .ref 75) rfl (zv_R (a := 105) rfl rfl) ?_
  refine zn_ld rfl rfl rfl ?_
  refine zn_ld rfl rfl rfl ?_
  refine zn_c [.int 0, .int (zg s 111 (zg s 106 (((s.1 105 7) - 1) - (zg s 73 (a1 + 2))))), .ref e, .ref 75] (xo_push (.int 0)) rfl rfl ?_
  refine zn_c [.int 0, .int 0, .int (zg s 111 (zg s 106 (((s.1 105 7) - 1) - (zg s 73 (a1 + 2))))), .ref e, .ref 75] (xo_push (.int 0)) rfl rfl ?_
  refine zn_zt [.ref 75, .ref e, .int (zg s 111 (zg s 106 (((s.1 105 7) - 1) - (zg s 73 (a1 + 2))))), .int 0, .int 0] [] rfl rfl rfl rfl rfl (Zt.imp h (fun v7 s8 h => ?_))
  obtain ⟨rfl, h⟩ := h
  change Zn _ _ _ _ _ _ _ _ _ _ _ [] _ _
  refine zn_ld rfl rfl rfl ?_
  refine zn_get (v := .ref 39) rfl (zv_C (a := 105) (n := 0) rfl rfl rfl) ?_
  refine zn_get (v := .ref 73) rfl (zv_R (a := 39) rfl rfl) ?_
  refine zn_ld rfl rfl rfl ?_
  refine zn_c [.int 3, .int a1, .ref 73] (xo_push (.int 3)) rfl rfl ?_
  replace h := h _ (i_add (x := a1) (y := 3) rfl (show (3 : Int32).toInt = 3 by decide))
  refine zn_c [.int (a1 + 3), .ref 73] xo_iadd rfl rfl ?_
  refine zn_row (a1 + 3) [] (a := 73) hd rfl rfl rfl rfl ?_
  change Zn _ _ _ _ _ _ _ _ _ _ _ [.int (zg s8 73 (a1 + 3))] _ _
  refine zn_st [.ref 105, .int a1, .int a2, .int (((s.1 105 7) - 1) - (zg s 73 (a1 + 2))), .int (zg s 111 (zg s 106 (((s.1 105 7) - 1) - (zg s 73 (a1 + 2))))), .ref e, .int (zg s8 73 (a1 + 3)), .null, .null, .null, .null, .null] rfl rfl rfl ?_
  refine zn_ld rfl rfl rfl ?_
  refine zn_get (v := .ref 39) rfl (zv_C (a := 105) (n := 0) rfl rfl rfl) ?_
  refine zn_get (v := .ref 73) rfl (zv_R (a := 39) rfl rfl) ?_
  refine zn_ld rfl rfl rfl ?_
  refine zn_c [.int 4, .int a1, .ref 73] (xo_push (.int 4)) rfl rfl ?_
  replace h := h _ (i_add (x := a1) (y := 4) rfl (show (4 : Int32).toInt = 4 by decide))
  refine zn_c [.int (a1 + 4), .ref 73] xo_iadd rfl rfl ?_
  refine zn_row (a1 + 4) [] (a := 73) hd rfl rfl rfl rfl ?_
  change Zn _ _ _ _ _ _ _ _ _ _ _ [.int (zg s8 73 (a1 + 4))] _ _
  refine zn_st [.ref 105, .int a1, .int a2, .int (((s.1 105 7) - 1) - (zg s 73 (a1 + 2))), .int (zg s 111 (zg s 106 (((s.1 105 7) - 1) - (zg s 73 (a1 + 2))))), .ref e, .int (zg s8 73 (a1 + 3)), .int (zg s8 73 (a1 + 4)), .null, .null, .null, .null] rfl rfl rfl ?_
  refine zn_c [.int 0] (xo_push (.int 0)) rfl rfl ?_
  refine zn_st [.ref 105, .int a1, .int a2, .int (((s.1 105 7) - 1) - (zg s 73 (a1 + 2))), .int (zg s 111 (zg s 106 (((s.1 105 7) - 1) - (zg s 73 (a1 + 2))))), .ref e, .int (zg s8 73 (a1 + 3)), .int (zg s8 73 (a1 + 4)), .int 0, .null, .null, .null] rfl rfl rfl ?_
  exact ml_27_53_39 hd he  h
theorem zq_27_39 {d : Nat} {a1 : Int32} {a2 : Int32} {s : zS} {Q : Option Value → zS → Prop} (h : v_27_0 (fun j => Zt (d + 8) (wd2 39 j) j) 39 a1 a2 s Q) : Zt (d + 9) ([(105, 5, 39), (75, 0, 39), (75, 1, 57), (75, 2, 61)] : zW) 27 [.ref 105, .int a1, .int a2] s Q := zt_of (E := xE_27) (L := xL_2) (ml := 9) (ret := none) rfl rfl rfl (m_27_0_39 rfl h)
theorem zc_27 {d P : Nat} (hP : P = 3 ∨ P = 39) {a1 : Int32} {a2 : Int32} {s : zS} {Q : Option Value → zS → Prop} (h : v_27_0 (fun j => Zt (d + 8) (wd2 P j) j) P a1 a2 s Q) : Zt (d + 9) (wd2 P 27) 27 [.ref 105, .int a1, .int a2] s Q := by
  rcases hP with rfl | rfl
  · exact zq_27_3 h
  · exact zq_27_39 h
/-! FeatherBench$Machine.cast -/
def v_28_44 (T : Nat → List Value → zS → (Option Value → zS → Prop) → Prop) (P : Nat)  (a1 : Int32) (a2 : Int32) (a3 : Int32) (a4 : Int32) (s : zS) (Q : Option Value → zS → Prop) : Prop :=
  Q none s
def v_28_0 (T : Nat → List Value → zS → (Option Value → zS → Prop) → Prop) (P : Nat)  (a1 : Int32) (a2 : Int32) (s : zS) (Q : Option Value → zS → Prop) : Prop :=
  T 25 [.ref 105, .int a1] s (fun v1 s2 => ∃ x3, v1 = some (.int x3) ∧ (((s2.1 105 13).toInt = 5 → ∀ x4 : Int32, (-2147483648 ≤ (s2.1 105 7).toInt - 1 ∧ (s2.1 105 7).toInt - 1 ≤ 2147483647 → x4.toInt = (s2.1 105 7).toInt - 1) → T 88 [.ref 75, .int (zg s2 111 (zg s2 106 x4)), .int x3] s2 (fun v5 s6 => ∃ x7, v5 = some (.int x7) ∧ ((¬ (x7.toInt = 9) → T 23 [.ref 105, .int 1] s6 (fun v8 s9 => ∃ x10, v8 = some (.int x10) ∧ ((x10.toInt = 0 → v_28_44 T P  a1 a2 x3 x7 s9 Q) ∧ (¬ (x10.toInt = 0) → (¬ (x7.toInt = 7) → v_28_44 T P  a1 a2 x3 x7 s9 Q) ∧ (x7.toInt = 7 → ∀ s11, s11 = zf s9 105 13 1 → ∀ s12, s12 = zf s11 105 12 a2 → v_28_44 T P  a1 a2 x3 x7 s12 Q))))) ∧ (x7.toInt = 9 → ∀ s13, s13 = zf s6 105 13 4 → v_28_44 T P  a1 a2 x3 x7 s13 Q)))) ∧ (¬ ((s2.1 105 13).toInt = 5) → Q none s2)))
set_option maxRecDepth 20000 in
theorem m_28_44_3 {d d0 : Nat} (hd : d = d0 + 8)  {a1 : Int32} {a2 : Int32} {a3 : Int32} {a4 : Int32} {s : zS} {Q : Option Value → zS → Prop}  (h : v_28_44 (fun j => Zt d (wd2 3 j) j) 3  a1 a2 a3 a4 s Q) : Zn d [] [(3, 98)] ([(105, 5, 3), (75, 0, 3), (75, 1, 21), (75, 2, 25)] : zW) ([(105, 5, 3), (75, 0, 3), (75, 1, 21), (75, 2, 25)] : zW) xL_2 5 (none) xE_28 (xE_28.drop 44) [.ref 105, .int a1, .int a2, .int a3, .int a4, .null, .null, .null] [] s Q := by
  unfold v_28_44 at h
  exact zn_ret0 rfl h
set_option maxRecDepth 20000 in
theorem m_28_0_3 {d d0 : Nat} (hd : d = d0 + 8)  {a1 : Int32} {a2 : Int32} {s : zS} {Q : Option Value → zS → Prop}  (h : v_28_0 (fun j => Zt d (wd2 3 j) j) 3  a1 a2 s Q) : Zn d [] [(3, 98)] ([(105, 5, 3), (75, 0, 3), (75, 1, 21), (75, 2, 25)] : zW) ([(105, 5, 3), (75, 0, 3), (75, 1, 21), (75, 2, 25)] : zW) xL_2 5 (none) xE_28 (xE_28.drop 0) [.ref 105, .int a1, .int a2, .null, .null, .null, .null, .null] [] s Q := by
  unfold v_28_0 at h
  refine zn_ld rfl rfl rfl ?_
  refine zn_ld rfl rfl rfl ?_
  refine zn_zt [.ref 105, .int a1] [] rfl rfl rfl rfl rfl (Zt.imp h (fun v1 s2 h => ?_))
  obtain ⟨x3, rfl, h⟩ := h
  change Zn _ _ _ _ _ _ _ _ _ _ _ [.int x3] _ _
  refine zn_st [.ref 105, .int a1, .int a2, .int x3, .null, .null, .null, .null] rfl rfl rfl ?_
  refine zn_ld rfl rfl rfl ?_
  refine zn_get (v := .int (s2.1 105 13)) rfl (zv_I (a := 105) rfl rfl) ?_
  refine zn_c [.int 5, .int (s2.1 105 13)] (xo_push (.int 5)) rfl rfl ?_
  refine zn_brP rfl rfl ⟨fun hcn => ?_, fun hcn => ?_⟩
  · replace h := h.1 ((i_eq (x := s2.1 105 13) (y := 5) rfl (show (5 : Int32).toInt = 5 by decide)).mp hcn)
    refine zn_ld rfl rfl rfl ?_
    refine zn_get (v := .ref 75) rfl (zv_R (a := 105) rfl rfl) ?_
    refine zn_ld rfl rfl rfl ?_
    refine zn_get (v := .ref 111) rfl (zv_R (a := 105) rfl rfl) ?_
    refine zn_ld rfl rfl rfl ?_
    refine zn_get (v := .ref 106) rfl (zv_R (a := 105) rfl rfl) ?_
    refine zn_ld rfl rfl rfl ?_
    refine zn_get (v := .int (s2.1 105 7)) rfl (zv_I (a := 105) rfl rfl) ?_
    refine zn_c [.int 1, .int (s2.1 105 7), .ref 106, .ref 111, .ref 75] (xo_push (.int 1)) rfl rfl ?_
    replace h := h _ (i_sub (x := s2.1 105 7) (y := 1) rfl (show (1 : Int32).toInt = 1 by decide))
    refine zn_c [.int ((s2.1 105 7) - 1), .ref 106, .ref 111, .ref 75] xo_isub rfl rfl ?_
    refine zn_row ((s2.1 105 7) - 1) [.ref 111, .ref 75] (a := 106) hd rfl rfl rfl rfl ?_
    change Zn _ _ _ _ _ _ _ _ _ _ _ [.int (zg s2 106 ((s2.1 105 7) - 1)), .ref 111, .ref 75] _ _
    refine zn_row (zg s2 106 ((s2.1 105 7) - 1)) [.ref 75] (a := 111) hd rfl rfl rfl rfl ?_
    change Zn _ _ _ _ _ _ _ _ _ _ _ [.int (zg s2 111 (zg s2 106 ((s2.1 105 7) - 1))), .ref 75] _ _
    refine zn_ld rfl rfl rfl ?_
    refine zn_zt [.ref 75, .int (zg s2 111 (zg s2 106 ((s2.1 105 7) - 1))), .int x3] [] rfl rfl rfl rfl rfl (Zt.imp h (fun v5 s6 h => ?_))
    obtain ⟨x7, rfl, h⟩ := h
    change Zn _ _ _ _ _ _ _ _ _ _ _ [.int x7] _ _
    refine zn_st [.ref 105, .int a1, .int a2, .int x3, .int x7, .null, .null, .null] rfl rfl rfl ?_
    refine zn_ld rfl rfl rfl ?_
    refine zn_c [.int 9, .int x7] (xo_push (.int 9)) rfl rfl ?_
    refine zn_brN rfl rfl ⟨fun hcn => ?_, fun hcn => ?_⟩
    · replace h := h.1 (fun q => hcn ((i_eq (x := x7) (y := 9) rfl (show (9 : Int32).toInt = 9 by decide)).mpr q))
      refine zn_ld rfl rfl rfl ?_
      refine zn_c [.int 1, .ref 105] (xo_push (.int 1)) rfl rfl ?_
      refine zn_zt [.ref 105, .int 1] [] rfl rfl rfl rfl rfl (Zt.imp h (fun v8 s9 h => ?_))
      obtain ⟨x10, rfl, h⟩ := h
      change Zn _ _ _ _ _ _ _ _ _ _ _ [.int x10] _ _
      refine zn_brP rfl rfl ⟨fun hcn => ?_, fun hcn => ?_⟩
      · replace h := h.1 ((i_eq (x := x10) (y := 0) rfl (show (0 : Int32).toInt = 0 by decide)).mp hcn)
        exact m_28_44_3 hd  h
      · replace h := h.2 (fun q => hcn ((i_eq (x := x10) (y := 0) rfl (show (0 : Int32).toInt = 0 by decide)).mpr q))
        refine zn_ld rfl rfl rfl ?_
        refine zn_c [.int 7, .int x7] (xo_push (.int 7)) rfl rfl ?_
        refine zn_brN rfl rfl ⟨fun hcn => ?_, fun hcn => ?_⟩
        · replace h := h.1 (fun q => hcn ((i_eq (x := x7) (y := 7) rfl (show (7 : Int32).toInt = 7 by decide)).mpr q))
          exact m_28_44_3 hd  h
        · replace h := h.2 ((i_eq (x := x7) (y := 7) rfl (show (7 : Int32).toInt = 7 by decide)).mp hcn)
          refine zn_ld rfl rfl rfl ?_
          refine zn_c [.int 1, .ref 105] (xo_push (.int 1)) rfl rfl ?_
          refine zn_putI (a := 105) rfl rfl rfl rfl ⟨Int32.le_toInt _, Int.le_of_lt_add_one (Int32.toInt_lt _)⟩ rfl rfl rfl ?_
          replace h := h _ rfl
          refine zn_ld rfl rfl rfl ?_
          refine zn_ld rfl rfl rfl ?_
          refine zn_putI (a := 105) rfl rfl rfl rfl ⟨Int32.le_toInt _, Int.le_of_lt_add_one (Int32.toInt_lt _)⟩ rfl rfl rfl ?_
          replace h := h _ rfl
          exact m_28_44_3 hd  h
    · replace h := h.2 ((i_eq (x := x7) (y := 9) rfl (show (9 : Int32).toInt = 9 by decide)).mp hcn)
      refine zn_ld rfl rfl rfl ?_
      refine zn_c [.int 4, .ref 105] (xo_push (.int 4)) rfl rfl ?_
      refine zn_putI (a := 105) rfl rfl rfl rfl ⟨Int32.le_toInt _, Int.le_of_lt_add_one (Int32.toInt_lt _)⟩ rfl rfl rfl ?_
      replace h := h _ rfl
      refine zn_go rfl ?_
      exact m_28_44_3 hd  h
  · replace h := h.2 (fun q => hcn ((i_eq (x := s2.1 105 13) (y := 5) rfl (show (5 : Int32).toInt = 5 by decide)).mpr q))
    exact zn_ret0 rfl h
theorem zq_28_3 {d : Nat} {a1 : Int32} {a2 : Int32} {s : zS} {Q : Option Value → zS → Prop} (h : v_28_0 (fun j => Zt (d + 8) (wd2 3 j) j) 3 a1 a2 s Q) : Zt (d + 9) ([(105, 5, 3), (75, 0, 3), (75, 1, 21), (75, 2, 25)] : zW) 28 [.ref 105, .int a1, .int a2] s Q := zt_of (E := xE_28) (L := xL_2) (ml := 5) (ret := none) rfl rfl rfl (m_28_0_3 rfl h)
set_option maxRecDepth 20000 in
theorem m_28_44_39 {d d0 : Nat} (hd : d = d0 + 8)  {a1 : Int32} {a2 : Int32} {a3 : Int32} {a4 : Int32} {s : zS} {Q : Option Value → zS → Prop}  (h : v_28_44 (fun j => Zt d (wd2 39 j) j) 39  a1 a2 a3 a4 s Q) : Zn d [] [(39, 98)] ([(105, 5, 39), (75, 0, 39), (75, 1, 57), (75, 2, 61)] : zW) ([(105, 5, 39), (75, 0, 39), (75, 1, 57), (75, 2, 61)] : zW) xL_2 5 (none) xE_28 (xE_28.drop 44) [.ref 105, .int a1, .int a2, .int a3, .int a4, .null, .null, .null] [] s Q := by
  unfold v_28_44 at h
  exact zn_ret0 rfl h
set_option maxRecDepth 20000 in
theorem m_28_0_39 {d d0 : Nat} (hd : d = d0 + 8)  {a1 : Int32} {a2 : Int32} {s : zS} {Q : Option Value → zS → Prop}  (h : v_28_0 (fun j => Zt d (wd2 39 j) j) 39  a1 a2 s Q) : Zn d [] [(39, 98)] ([(105, 5, 39), (75, 0, 39), (75, 1, 57), (75, 2, 61)] : zW) ([(105, 5, 39), (75, 0, 39), (75, 1, 57), (75, 2, 61)] : zW) xL_2 5 (none) xE_28 (xE_28.drop 0) [.ref 105, .int a1, .int a2, .null, .null, .null, .null, .null] [] s Q := by
  unfold v_28_0 at h
  refine zn_ld rfl rfl rfl ?_
  refine zn_ld rfl rfl rfl ?_
  refine zn_zt [.ref 105, .int a1] [] rfl rfl rfl rfl rfl (Zt.imp h (fun v1 s2 h => ?_))
  obtain ⟨x3, rfl, h⟩ := h
  change Zn _ _ _ _ _ _ _ _ _ _ _ [.int x3] _ _
  refine zn_st [.ref 105, .int a1, .int a2, .int x3, .null, .null, .null, .null] rfl rfl rfl ?_
  refine zn_ld rfl rfl rfl ?_
  refine zn_get (v := .int (s2.1 105 13)) rfl (zv_I (a := 105) rfl rfl) ?_
  refine zn_c [.int 5, .int (s2.1 105 13)] (xo_push (.int 5)) rfl rfl ?_
  refine zn_brP rfl rfl ⟨fun hcn => ?_, fun hcn => ?_⟩
  · replace h := h.1 ((i_eq (x := s2.1 105 13) (y := 5) rfl (show (5 : Int32).toInt = 5 by decide)).mp hcn)
    refine zn_ld rfl rfl rfl ?_
    refine zn_get (v := .ref 75) rfl (zv_R (a := 105) rfl rfl) ?_
    refine zn_ld rfl rfl rfl ?_
    refine zn_get (v := .ref 111) rfl (zv_R (a := 105) rfl rfl) ?_
    refine zn_ld rfl rfl rfl ?_
    refine zn_get (v := .ref 106) rfl (zv_R (a := 105) rfl rfl) ?_
    refine zn_ld rfl rfl rfl ?_
    refine zn_get (v := .int (s2.1 105 7)) rfl (zv_I (a := 105) rfl rfl) ?_
    refine zn_c [.int 1, .int (s2.1 105 7), .ref 106, .ref 111, .ref 75] (xo_push (.int 1)) rfl rfl ?_
    replace h := h _ (i_sub (x := s2.1 105 7) (y := 1) rfl (show (1 : Int32).toInt = 1 by decide))
    refine zn_c [.int ((s2.1 105 7) - 1), .ref 106, .ref 111, .ref 75] xo_isub rfl rfl ?_
    refine zn_row ((s2.1 105 7) - 1) [.ref 111, .ref 75] (a := 106) hd rfl rfl rfl rfl ?_
    change Zn _ _ _ _ _ _ _ _ _ _ _ [.int (zg s2 106 ((s2.1 105 7) - 1)), .ref 111, .ref 75] _ _
    refine zn_row (zg s2 106 ((s2.1 105 7) - 1)) [.ref 75] (a := 111) hd rfl rfl rfl rfl ?_
    change Zn _ _ _ _ _ _ _ _ _ _ _ [.int (zg s2 111 (zg s2 106 ((s2.1 105 7) - 1))), .ref 75] _ _
    refine zn_ld rfl rfl rfl ?_
    refine zn_zt [.ref 75, .int (zg s2 111 (zg s2 106 ((s2.1 105 7) - 1))), .int x3] [] rfl rfl rfl rfl rfl (Zt.imp h (fun v5 s6 h => ?_))
    obtain ⟨x7, rfl, h⟩ := h
    change Zn _ _ _ _ _ _ _ _ _ _ _ [.int x7] _ _
    refine zn_st [.ref 105, .int a1, .int a2, .int x3, .int x7, .null, .null, .null] rfl rfl rfl ?_
    refine zn_ld rfl rfl rfl ?_
    refine zn_c [.int 9, .int x7] (xo_push (.int 9)) rfl rfl ?_
    refine zn_brN rfl rfl ⟨fun hcn => ?_, fun hcn => ?_⟩
    · replace h := h.1 (fun q => hcn ((i_eq (x := x7) (y := 9) rfl (show (9 : Int32).toInt = 9 by decide)).mpr q))
      refine zn_ld rfl rfl rfl ?_
      refine zn_c [.int 1, .ref 105] (xo_push (.int 1)) rfl rfl ?_
      refine zn_zt [.ref 105, .int 1] [] rfl rfl rfl rfl rfl (Zt.imp h (fun v8 s9 h => ?_))
      obtain ⟨x10, rfl, h⟩ := h
      change Zn _ _ _ _ _ _ _ _ _ _ _ [.int x10] _ _
      refine zn_brP rfl rfl ⟨fun hcn => ?_, fun hcn => ?_⟩
      · replace h := h.1 ((i_eq (x := x10) (y := 0) rfl (show (0 : Int32).toInt = 0 by decide)).mp hcn)
        exact m_28_44_39 hd  h
      · replace h := h.2 (fun q => hcn ((i_eq (x := x10) (y := 0) rfl (show (0 : Int32).toInt = 0 by decide)).mpr q))
        refine zn_ld rfl rfl rfl ?_
        refine zn_c [.int 7, .int x7] (xo_push (.int 7)) rfl rfl ?_
        refine zn_brN rfl rfl ⟨fun hcn => ?_, fun hcn => ?_⟩
        · replace h := h.1 (fun q => hcn ((i_eq (x := x7) (y := 7) rfl (show (7 : Int32).toInt = 7 by decide)).mpr q))
          exact m_28_44_39 hd  h
        · replace h := h.2 ((i_eq (x := x7) (y := 7) rfl (show (7 : Int32).toInt = 7 by decide)).mp hcn)
          refine zn_ld rfl rfl rfl ?_
          refine zn_c [.int 1, .ref 105] (xo_push (.int 1)) rfl rfl ?_
          refine zn_putI (a := 105) rfl rfl rfl rfl ⟨Int32.le_toInt _, Int.le_of_lt_add_one (Int32.toInt_lt _)⟩ rfl rfl rfl ?_
          replace h := h _ rfl
          refine zn_ld rfl rfl rfl ?_
          refine zn_ld rfl rfl rfl ?_
          refine zn_putI (a := 105) rfl rfl rfl rfl ⟨Int32.le_toInt _, Int.le_of_lt_add_one (Int32.toInt_lt _)⟩ rfl rfl rfl ?_
          replace h := h _ rfl
          exact m_28_44_39 hd  h
    · replace h := h.2 ((i_eq (x := x7) (y := 9) rfl (show (9 : Int32).toInt = 9 by decide)).mp hcn)
      refine zn_ld rfl rfl rfl ?_
      refine zn_c [.int 4, .ref 105] (xo_push (.int 4)) rfl rfl ?_
      refine zn_putI (a := 105) rfl rfl rfl rfl ⟨Int32.le_toInt _, Int.le_of_lt_add_one (Int32.toInt_lt _)⟩ rfl rfl rfl ?_
      replace h := h _ rfl
      refine zn_go rfl ?_
      exact m_28_44_39 hd  h
  · replace h := h.2 (fun q => hcn ((i_eq (x := s2.1 105 13) (y := 5) rfl (show (5 : Int32).toInt = 5 by decide)).mpr q))
    exact zn_ret0 rfl h
theorem zq_28_39 {d : Nat} {a1 : Int32} {a2 : Int32} {s : zS} {Q : Option Value → zS → Prop} (h : v_28_0 (fun j => Zt (d + 8) (wd2 39 j) j) 39 a1 a2 s Q) : Zt (d + 9) ([(105, 5, 39), (75, 0, 39), (75, 1, 57), (75, 2, 61)] : zW) 28 [.ref 105, .int a1, .int a2] s Q := zt_of (E := xE_28) (L := xL_2) (ml := 5) (ret := none) rfl rfl rfl (m_28_0_39 rfl h)
theorem zc_28 {d P : Nat} (hP : P = 3 ∨ P = 39) {a1 : Int32} {a2 : Int32} {s : zS} {Q : Option Value → zS → Prop} (h : v_28_0 (fun j => Zt (d + 8) (wd2 P j) j) P a1 a2 s Q) : Zt (d + 9) (wd2 P 28) 28 [.ref 105, .int a1, .int a2] s Q := by
  rcases hP with rfl | rfl
  · exact zq_28_3 h
  · exact zq_28_39 h
/-! FeatherBench$Machine.leave -/
def v_29_0 (T : Nat → List Value → zS → (Option Value → zS → Prop) → Prop) (P : Nat)   (s : zS) (Q : Option Value → zS → Prop) : Prop :=
  T 22 [.ref 105] s (fun v1 s2 => ∃ x3, v1 = some (.int x3) ∧ ((¬ ((s2.1 105 8).toInt = 0) → ∀ x4 : Int32, (-2147483648 ≤ 2 * (s2.1 105 8).toInt ∧ 2 * (s2.1 105 8).toInt ≤ 2147483647 → x4.toInt = 2 * (s2.1 105 8).toInt) → ∀ x5 : Int32, (-2147483648 ≤ x4.toInt + 1 ∧ x4.toInt + 1 ≤ 2147483647 → x5.toInt = x4.toInt + 1) → ∀ s6, s6 = zf s2 105 7 (zg s2 108 x5) → ∀ x7 : Int32, (-2147483648 ≤ 2 * (s6.1 105 8).toInt ∧ 2 * (s6.1 105 8).toInt ≤ 2147483647 → x7.toInt = 2 * (s6.1 105 8).toInt) → ∀ s8, s8 = zf s6 105 6 (zg s6 108 x7) → ∀ x9 : Int32, (-2147483648 ≤ (s8.1 105 8).toInt - 1 ∧ (s8.1 105 8).toInt - 1 ≤ 2147483647 → x9.toInt = (s8.1 105 8).toInt - 1) → ∀ s10, s10 = zf s8 105 8 x9 → T 21 [.ref 105, .int x3] s10 (fun v11 s12 => v11 = none ∧ (Q none s12))) ∧ ((s2.1 105 8).toInt = 0 → ∀ s13, s13 = zf s2 105 13 0 → ∀ s14, s14 = zf s13 105 14 x3 → Q none s14)))
set_option maxRecDepth 20000 in
theorem m_29_0_3 {d d0 : Nat} (hd : d = d0 + 8)   {s : zS} {Q : Option Value → zS → Prop}  (h : v_29_0 (fun j => Zt d (wd2 3 j) j) 3   s Q) : Zn d [] [(0, 111)] ([(105, 5, 3), (75, 0, 3), (75, 1, 21), (75, 2, 25)] : zW) ([(105, 5, 3), (75, 0, 3), (75, 1, 21), (75, 2, 25)] : zW) xL_2 2 (none) xE_29 (xE_29.drop 0) [.ref 105, .null, .null] [] s Q := by
  unfold v_29_0 at h
  refine zn_ld rfl rfl rfl ?_
  refine zn_zt [.ref 105] [] rfl rfl rfl rfl rfl (Zt.imp h (fun v1 s2 h => ?_))
  obtain ⟨x3, rfl, h⟩ := h
  change Zn _ _ _ _ _ _ _ _ _ _ _ [.int x3] _ _
  refine zn_st [.ref 105, .int x3, .null] rfl rfl rfl ?_
  refine zn_ld rfl rfl rfl ?_
  refine zn_get (v := .int (s2.1 105 8)) rfl (zv_I (a := 105) rfl rfl) ?_
  refine zn_brN rfl rfl ⟨fun hcn => ?_, fun hcn => ?_⟩
  · replace h := h.1 (fun q => hcn ((i_eq (x := s2.1 105 8) (y := 0) rfl (show (0 : Int32).toInt = 0 by decide)).mpr q))
    refine zn_ld rfl rfl rfl ?_
    refine zn_ld rfl rfl rfl ?_
    refine zn_get (v := .ref 108) rfl (zv_R (a := 105) rfl rfl) ?_
    refine zn_c [.int 2, .ref 108, .ref 105] (xo_push (.int 2)) rfl rfl ?_
    refine zn_ld rfl rfl rfl ?_
    refine zn_get (v := .int (s2.1 105 8)) rfl (zv_I (a := 105) rfl rfl) ?_
    replace h := h _ (i_mul (x := 2) (y := s2.1 105 8) (show (2 : Int32).toInt = 2 by decide) rfl)
    refine zn_c [.int (2 * (s2.1 105 8)), .ref 108, .ref 105] xo_imul rfl rfl ?_
    refine zn_c [.int 1, .int (2 * (s2.1 105 8)), .ref 108, .ref 105] (xo_push (.int 1)) rfl rfl ?_
    replace h := h _ (i_add (x := (2 * (s2.1 105 8))) (y := 1) rfl (show (1 : Int32).toInt = 1 by decide))
    refine zn_c [.int ((2 * (s2.1 105 8)) + 1), .ref 108, .ref 105] xo_iadd rfl rfl ?_
    refine zn_row ((2 * (s2.1 105 8)) + 1) [.ref 105] (a := 108) hd rfl rfl rfl rfl ?_
    change Zn _ _ _ _ _ _ _ _ _ _ _ [.int (zg s2 108 ((2 * (s2.1 105 8)) + 1)), .ref 105] _ _
    refine zn_putI (a := 105) rfl rfl rfl rfl ⟨Int32.le_toInt _, Int.le_of_lt_add_one (Int32.toInt_lt _)⟩ rfl rfl rfl ?_
    replace h := h _ rfl
    refine zn_ld rfl rfl rfl ?_
    refine zn_ld rfl rfl rfl ?_
    refine zn_get (v := .ref 108) rfl (zv_R (a := 105) rfl rfl) ?_
    refine zn_c [.int 2, .ref 108, .ref 105] (xo_push (.int 2)) rfl rfl ?_
    refine zn_ld rfl rfl rfl ?_
    refine zn_get (v := .int ((zf s2 105 7 (zg s2 108 ((2 * (s2.1 105 8)) + 1))).1 105 8)) rfl (zv_I (a := 105) rfl rfl) ?_
    replace h := h _ (i_mul (x := 2) (y := (zf s2 105 7 (zg s2 108 ((2 * (s2.1 105 8)) + 1))).1 105 8) (show (2 : Int32).toInt = 2 by decide) rfl)
    refine zn_c [.int (2 * ((zf s2 105 7 (zg s2 108 ((2 * (s2.1 105 8)) + 1))).1 105 8)), .ref 108, .ref 105] xo_imul rfl rfl ?_
    refine zn_row (2 * ((zf s2 105 7 (zg s2 108 ((2 * (s2.1 105 8)) + 1))).1 105 8)) [.ref 105] (a := 108) hd rfl rfl rfl rfl ?_
    change Zn _ _ _ _ _ _ _ _ _ _ _ [.int (zg (zf s2 105 7 (zg s2 108 ((2 * (s2.1 105 8)) + 1))) 108 (2 * ((zf s2 105 7 (zg s2 108 ((2 * (s2.1 105 8)) + 1))).1 105 8))), .ref 105] _ _
    refine zn_putI (a := 105) rfl rfl rfl rfl ⟨Int32.le_toInt _, Int.le_of_lt_add_one (Int32.toInt_lt _)⟩ rfl rfl rfl ?_
    replace h := h _ rfl
    refine zn_ld rfl rfl rfl ?_
    refine zn_c [.ref 105, .ref 105] xo_dup rfl rfl ?_
    refine zn_get (v := .int ((zf (zf s2 105 7 (zg s2 108 ((2 * (s2.1 105 8)) + 1))) 105 6 (zg (zf s2 105 7 (zg s2 108 ((2 * (s2.1 105 8)) + 1))) 108 (2 * ((zf s2 105 7 (zg s2 108 ((2 * (s2.1 105 8)) + 1))).1 105 8)))).1 105 8)) rfl (zv_I (a := 105) rfl rfl) ?_
    refine zn_c [.int 1, .int ((zf (zf s2 105 7 (zg s2 108 ((2 * (s2.1 105 8)) + 1))) 105 6 (zg (zf s2 105 7 (zg s2 108 ((2 * (s2.1 105 8)) + 1))) 108 (2 * ((zf s2 105 7 (zg s2 108 ((2 * (s2.1 105 8)) + 1))).1 105 8)))).1 105 8), .ref 105] (xo_push (.int 1)) rfl rfl ?_
    replace h := h _ (i_sub (x := (zf (zf s2 105 7 (zg s2 108 ((2 * (s2.1 105 8)) + 1))) 105 6 (zg (zf s2 105 7 (zg s2 108 ((2 * (s2.1 105 8)) + 1))) 108 (2 * ((zf s2 105 7 (zg s2 108 ((2 * (s2.1 105 8)) + 1))).1 105 8)))).1 105 8) (y := 1) rfl (show (1 : Int32).toInt = 1 by decide))
    refine zn_c [.int (((zf (zf s2 105 7 (zg s2 108 ((2 * (s2.1 105 8)) + 1))) 105 6 (zg (zf s2 105 7 (zg s2 108 ((2 * (s2.1 105 8)) + 1))) 108 (2 * ((zf s2 105 7 (zg s2 108 ((2 * (s2.1 105 8)) + 1))).1 105 8)))).1 105 8) - 1), .ref 105] xo_isub rfl rfl ?_
    refine zn_putI (a := 105) rfl rfl rfl rfl ⟨Int32.le_toInt _, Int.le_of_lt_add_one (Int32.toInt_lt _)⟩ rfl rfl rfl ?_
    replace h := h _ rfl
    refine zn_ld rfl rfl rfl ?_
    refine zn_ld rfl rfl rfl ?_
    refine zn_zt [.ref 105, .int x3] [] rfl rfl rfl rfl rfl (Zt.imp h (fun v11 s12 h => ?_))
    obtain ⟨rfl, h⟩ := h
    change Zn _ _ _ _ _ _ _ _ _ _ _ [] _ _
    exact zn_ret0 rfl h
  · replace h := h.2 ((i_eq (x := s2.1 105 8) (y := 0) rfl (show (0 : Int32).toInt = 0 by decide)).mp hcn)
    refine zn_ld rfl rfl rfl ?_
    refine zn_c [.int 0, .ref 105] (xo_push (.int 0)) rfl rfl ?_
    refine zn_putI (a := 105) rfl rfl rfl rfl ⟨Int32.le_toInt _, Int.le_of_lt_add_one (Int32.toInt_lt _)⟩ rfl rfl rfl ?_
    replace h := h _ rfl
    refine zn_ld rfl rfl rfl ?_
    refine zn_ld rfl rfl rfl ?_
    refine zn_putI (a := 105) rfl rfl rfl rfl ⟨Int32.le_toInt _, Int.le_of_lt_add_one (Int32.toInt_lt _)⟩ rfl rfl rfl ?_
    replace h := h _ rfl
    exact zn_ret0 rfl h
theorem zq_29_3 {d : Nat}  {s : zS} {Q : Option Value → zS → Prop} (h : v_29_0 (fun j => Zt (d + 8) (wd2 3 j) j) 3  s Q) : Zt (d + 9) ([(105, 5, 3), (75, 0, 3), (75, 1, 21), (75, 2, 25)] : zW) 29 [.ref 105] s Q := zt_of (E := xE_29) (L := xL_2) (ml := 2) (ret := none) rfl rfl rfl (m_29_0_3 rfl h)
set_option maxRecDepth 20000 in
theorem m_29_0_39 {d d0 : Nat} (hd : d = d0 + 8)   {s : zS} {Q : Option Value → zS → Prop}  (h : v_29_0 (fun j => Zt d (wd2 39 j) j) 39   s Q) : Zn d [] [(0, 111)] ([(105, 5, 39), (75, 0, 39), (75, 1, 57), (75, 2, 61)] : zW) ([(105, 5, 39), (75, 0, 39), (75, 1, 57), (75, 2, 61)] : zW) xL_2 2 (none) xE_29 (xE_29.drop 0) [.ref 105, .null, .null] [] s Q := by
  unfold v_29_0 at h
  refine zn_ld rfl rfl rfl ?_
  refine zn_zt [.ref 105] [] rfl rfl rfl rfl rfl (Zt.imp h (fun v1 s2 h => ?_))
  obtain ⟨x3, rfl, h⟩ := h
  change Zn _ _ _ _ _ _ _ _ _ _ _ [.int x3] _ _
  refine zn_st [.ref 105, .int x3, .null] rfl rfl rfl ?_
  refine zn_ld rfl rfl rfl ?_
  refine zn_get (v := .int (s2.1 105 8)) rfl (zv_I (a := 105) rfl rfl) ?_
  refine zn_brN rfl rfl ⟨fun hcn => ?_, fun hcn => ?_⟩
  · replace h := h.1 (fun q => hcn ((i_eq (x := s2.1 105 8) (y := 0) rfl (show (0 : Int32).toInt = 0 by decide)).mpr q))
    refine zn_ld rfl rfl rfl ?_
    refine zn_ld rfl rfl rfl ?_
    refine zn_get (v := .ref 108) rfl (zv_R (a := 105) rfl rfl) ?_
    refine zn_c [.int 2, .ref 108, .ref 105] (xo_push (.int 2)) rfl rfl ?_
    refine zn_ld rfl rfl rfl ?_
    refine zn_get (v := .int (s2.1 105 8)) rfl (zv_I (a := 105) rfl rfl) ?_
    replace h := h _ (i_mul (x := 2) (y := s2.1 105 8) (show (2 : Int32).toInt = 2 by decide) rfl)
    refine zn_c [.int (2 * (s2.1 105 8)), .ref 108, .ref 105] xo_imul rfl rfl ?_
    refine zn_c [.int 1, .int (2 * (s2.1 105 8)), .ref 108, .ref 105] (xo_push (.int 1)) rfl rfl ?_
    replace h := h _ (i_add (x := (2 * (s2.1 105 8))) (y := 1) rfl (show (1 : Int32).toInt = 1 by decide))
    refine zn_c [.int ((2 * (s2.1 105 8)) + 1), .ref 108, .ref 105] xo_iadd rfl rfl ?_
    refine zn_row ((2 * (s2.1 105 8)) + 1) [.ref 105] (a := 108) hd rfl rfl rfl rfl ?_
    change Zn _ _ _ _ _ _ _ _ _ _ _ [.int (zg s2 108 ((2 * (s2.1 105 8)) + 1)), .ref 105] _ _
    refine zn_putI (a := 105) rfl rfl rfl rfl ⟨Int32.le_toInt _, Int.le_of_lt_add_one (Int32.toInt_lt _)⟩ rfl rfl rfl ?_
    replace h := h _ rfl
    refine zn_ld rfl rfl rfl ?_
    refine zn_ld rfl rfl rfl ?_
    refine zn_get (v := .ref 108) rfl (zv_R (a := 105) rfl rfl) ?_
    refine zn_c [.int 2, .ref 108, .ref 105] (xo_push (.int 2)) rfl rfl ?_
    refine zn_ld rfl rfl rfl ?_
    refine zn_get (v := .int ((zf s2 105 7 (zg s2 108 ((2 * (s2.1 105 8)) + 1))).1 105 8)) rfl (zv_I (a := 105) rfl rfl) ?_
    replace h := h _ (i_mul (x := 2) (y := (zf s2 105 7 (zg s2 108 ((2 * (s2.1 105 8)) + 1))).1 105 8) (show (2 : Int32).toInt = 2 by decide) rfl)
    refine zn_c [.int (2 * ((zf s2 105 7 (zg s2 108 ((2 * (s2.1 105 8)) + 1))).1 105 8)), .ref 108, .ref 105] xo_imul rfl rfl ?_
    refine zn_row (2 * ((zf s2 105 7 (zg s2 108 ((2 * (s2.1 105 8)) + 1))).1 105 8)) [.ref 105] (a := 108) hd rfl rfl rfl rfl ?_
    change Zn _ _ _ _ _ _ _ _ _ _ _ [.int (zg (zf s2 105 7 (zg s2 108 ((2 * (s2.1 105 8)) + 1))) 108 (2 * ((zf s2 105 7 (zg s2 108 ((2 * (s2.1 105 8)) + 1))).1 105 8))), .ref 105] _ _
    refine zn_putI (a := 105) rfl rfl rfl rfl ⟨Int32.le_toInt _, Int.le_of_lt_add_one (Int32.toInt_lt _)⟩ rfl rfl rfl ?_
    replace h := h _ rfl
    refine zn_ld rfl rfl rfl ?_
    refine zn_c [.ref 105, .ref 105] xo_dup rfl rfl ?_
    refine zn_get (v := .int ((zf (zf s2 105 7 (zg s2 108 ((2 * (s2.1 105 8)) + 1))) 105 6 (zg (zf s2 105 7 (zg s2 108 ((2 * (s2.1 105 8)) + 1))) 108 (2 * ((zf s2 105 7 (zg s2 108 ((2 * (s2.1 105 8)) + 1))).1 105 8)))).1 105 8)) rfl (zv_I (a := 105) rfl rfl) ?_
    refine zn_c [.int 1, .int ((zf (zf s2 105 7 (zg s2 108 ((2 * (s2.1 105 8)) + 1))) 105 6 (zg (zf s2 105 7 (zg s2 108 ((2 * (s2.1 105 8)) + 1))) 108 (2 * ((zf s2 105 7 (zg s2 108 ((2 * (s2.1 105 8)) + 1))).1 105 8)))).1 105 8), .ref 105] (xo_push (.int 1)) rfl rfl ?_
    replace h := h _ (i_sub (x := (zf (zf s2 105 7 (zg s2 108 ((2 * (s2.1 105 8)) + 1))) 105 6 (zg (zf s2 105 7 (zg s2 108 ((2 * (s2.1 105 8)) + 1))) 108 (2 * ((zf s2 105 7 (zg s2 108 ((2 * (s2.1 105 8)) + 1))).1 105 8)))).1 105 8) (y := 1) rfl (show (1 : Int32).toInt = 1 by decide))
    refine zn_c [.int (((zf (zf s2 105 7 (zg s2 108 ((2 * (s2.1 105 8)) + 1))) 105 6 (zg (zf s2 105 7 (zg s2 108 ((2 * (s2.1 105 8)) + 1))) 108 (2 * ((zf s2 105 7 (zg s2 108 ((2 * (s2.1 105 8)) + 1))).1 105 8)))).1 105 8) - 1), .ref 105] xo_isub rfl rfl ?_
    refine zn_putI (a := 105) rfl rfl rfl rfl ⟨Int32.le_toInt _, Int.le_of_lt_add_one (Int32.toInt_lt _)⟩ rfl rfl rfl ?_
    replace h := h _ rfl
    refine zn_ld rfl rfl rfl ?_
    refine zn_ld rfl rfl rfl ?_
    refine zn_zt [.ref 105, .int x3] [] rfl rfl rfl rfl rfl (Zt.imp h (fun v11 s12 h => ?_))
    obtain ⟨rfl, h⟩ := h
    change Zn _ _ _ _ _ _ _ _ _ _ _ [] _ _
    exact zn_ret0 rfl h
  · replace h := h.2 ((i_eq (x := s2.1 105 8) (y := 0) rfl (show (0 : Int32).toInt = 0 by decide)).mp hcn)
    refine zn_ld rfl rfl rfl ?_
    refine zn_c [.int 0, .ref 105] (xo_push (.int 0)) rfl rfl ?_
    refine zn_putI (a := 105) rfl rfl rfl rfl ⟨Int32.le_toInt _, Int.le_of_lt_add_one (Int32.toInt_lt _)⟩ rfl rfl rfl ?_
    replace h := h _ rfl
    refine zn_ld rfl rfl rfl ?_
    refine zn_ld rfl rfl rfl ?_
    refine zn_putI (a := 105) rfl rfl rfl rfl ⟨Int32.le_toInt _, Int.le_of_lt_add_one (Int32.toInt_lt _)⟩ rfl rfl rfl ?_
    replace h := h _ rfl
    exact zn_ret0 rfl h
theorem zq_29_39 {d : Nat}  {s : zS} {Q : Option Value → zS → Prop} (h : v_29_0 (fun j => Zt (d + 8) (wd2 39 j) j) 39  s Q) : Zt (d + 9) ([(105, 5, 39), (75, 0, 39), (75, 1, 57), (75, 2, 61)] : zW) 29 [.ref 105] s Q := zt_of (E := xE_29) (L := xL_2) (ml := 2) (ret := none) rfl rfl rfl (m_29_0_39 rfl h)
theorem zc_29 {d P : Nat} (hP : P = 3 ∨ P = 39)  {s : zS} {Q : Option Value → zS → Prop} (h : v_29_0 (fun j => Zt (d + 8) (wd2 P j) j) P  s Q) : Zt (d + 9) (wd2 P 29) 29 [.ref 105] s Q := by
  rcases hP with rfl | rfl
  · exact zq_29_3 h
  · exact zq_29_39 h
/-! FeatherBench$Machine.step -/
def v_20_83 (T : Nat → List Value → zS → (Option Value → zS → Prop) → Prop) (P : Nat)  (a1 : Int32) (a2 : Int32) (s : zS) (Q : Option Value → zS → Prop) : Prop :=
  Q none s
def v_20_0 (T : Nat → List Value → zS → (Option Value → zS → Prop) → Prop) (P : Nat)  (a1 : Int32) (s : zS) (Q : Option Value → zS → Prop) : Prop :=
  ∀ x1 : Int32, (-2147483648 ≤ a1.toInt + 1 ∧ a1.toInt + 1 ≤ 2147483647 → x1.toInt = a1.toInt + 1) → ∀ x2 : Int32, (-2147483648 ≤ a1.toInt + 0 ∧ a1.toInt + 0 ≤ 2147483647 → x2.toInt = a1.toInt + 0) → (¬ Int32.toInt (zg s (P + 34) x2) = 1 ∧ ¬ Int32.toInt (zg s (P + 34) x2) = 2 ∧ ¬ Int32.toInt (zg s (P + 34) x2) = 3 ∧ ¬ Int32.toInt (zg s (P + 34) x2) = 4 ∧ ¬ Int32.toInt (zg s (P + 34) x2) = 5 ∧ ¬ Int32.toInt (zg s (P + 34) x2) = 6 → T 29 [.ref 105] s (fun v3 s4 => v3 = none ∧ (v_20_83 T P  a1 (zg s (P + 34) x1) s4 Q))) ∧ (Int32.toInt (zg s (P + 34) x2) = 1 → ∀ x5 : Int32, (-2147483648 ≤ 2 * (s.1 105 8).toInt ∧ 2 * (s.1 105 8).toInt ≤ 2147483647 → x5.toInt = 2 * (s.1 105 8).toInt) → ∀ x6 : Int32, (-2147483648 ≤ x5.toInt + 1 ∧ x5.toInt + 1 ≤ 2147483647 → x6.toInt = x5.toInt + 1) → ∀ x7 : Int32, (-2147483648 ≤ (zg s 108 x6).toInt + (zg s (P + 34) x1).toInt ∧ (zg s 108 x6).toInt + (zg s (P + 34) x1).toInt ≤ 2147483647 → x7.toInt = (zg s 108 x6).toInt + (zg s (P + 34) x1).toInt) → T 21 [.ref 105, .int (zg s 106 x7)] s (fun v8 s9 => v8 = none ∧ (v_20_83 T P  a1 (zg s (P + 34) x1) s9 Q))) ∧ (Int32.toInt (zg s (P + 34) x2) = 2 → T 25 [.ref 105, .int (zg s (P + 34) x1)] s (fun v10 s11 => ∃ x12, v10 = some (.int x12) ∧ (T 21 [.ref 105, .int x12] s11 (fun v13 s14 => v13 = none ∧ (v_20_83 T P  a1 (zg s (P + 34) x1) s14 Q))))) ∧ (Int32.toInt (zg s (P + 34) x2) = 3 → ∀ x15 : Int32, (-2147483648 ≤ a1.toInt + 2 ∧ a1.toInt + 2 ≤ 2147483647 → x15.toInt = a1.toInt + 2) → T 26 [.ref 105, .int (zg s (P + 34) x15)] s (fun v16 s17 => v16 = none ∧ (v_20_83 T P  a1 (zg s (P + 34) x1) s17 Q))) ∧ (Int32.toInt (zg s (P + 34) x2) = 4 → T 23 [.ref 105, .int 1] s (fun v18 s19 => ∃ x20, v18 = some (.int x20) ∧ ((x20.toInt = 0 → v_20_83 T P  a1 (zg s (P + 34) x1) s19 Q) ∧ (¬ (x20.toInt = 0) → T 22 [.ref 105] s19 (fun v21 s22 => ∃ x23, v21 = some (.int x23) ∧ (∀ x24 : Int32, (-2147483648 ≤ x23.toInt + 1 ∧ x23.toInt + 1 ≤ 2147483647 → x24.toInt = x23.toInt + 1) → ∀ x25 : Int32, (-2147483648 ≤ x24.toInt + (zg s (P + 34) x1).toInt ∧ x24.toInt + (zg s (P + 34) x1).toInt ≤ 2147483647 → x25.toInt = x24.toInt + (zg s (P + 34) x1).toInt) → T 21 [.ref 105, .int (zg s22 111 x25)] s22 (fun v26 s27 => v26 = none ∧ (v_20_83 T P  a1 (zg s (P + 34) x1) s27 Q)))))))) ∧ (Int32.toInt (zg s (P + 34) x2) = 5 → T 27 [.ref 105, .int a1, .int (zg s (P + 34) x1)] s (fun v28 s29 => v28 = none ∧ (v_20_83 T P  a1 (zg s (P + 34) x1) s29 Q))) ∧ (Int32.toInt (zg s (P + 34) x2) = 6 → ∀ x30 : Int32, (-2147483648 ≤ a1.toInt + 2 ∧ a1.toInt + 2 ≤ 2147483647 → x30.toInt = a1.toInt + 2) → T 28 [.ref 105, .int (zg s (P + 34) x1), .int (zg s (P + 34) x30)] s (fun v31 s32 => v31 = none ∧ (v_20_83 T P  a1 (zg s (P + 34) x1) s32 Q)))
set_option maxRecDepth 20000 in
theorem m_20_83_3 {d d0 : Nat} (hd : d = d0 + 8)  {a1 : Int32} {a2 : Int32} {s : zS} {Q : Option Value → zS → Prop}  (h : v_20_83 (fun j => Zt d (wd2 3 j) j) 3  a1 a2 s Q) : Zn d [] [(3, 98), (0, 111)] ([(105, 5, 3), (75, 0, 3), (75, 1, 21), (75, 2, 25)] : zW) ([(105, 5, 3), (75, 0, 3), (75, 1, 21), (75, 2, 25)] : zW) xL_2 3 (none) xE_20 (xE_20.drop 83) [.ref 105, .int a1, .int a2, .null, .null] [] s Q := by
  unfold v_20_83 at h
  exact zn_ret0 rfl h
set_option maxRecDepth 20000 in
theorem m_20_0_3 {d d0 : Nat} (hd : d = d0 + 8)  {a1 : Int32} {s : zS} {Q : Option Value → zS → Prop}  (h : v_20_0 (fun j => Zt d (wd2 3 j) j) 3  a1 s Q) : Zn d [] [(3, 98), (0, 111)] ([(105, 5, 3), (75, 0, 3), (75, 1, 21), (75, 2, 25)] : zW) ([(105, 5, 3), (75, 0, 3), (75, 1, 21), (75, 2, 25)] : zW) xL_2 3 (none) xE_20 (xE_20.drop 0) [.ref 105, .int a1, .null, .null, .null] [] s Q := by
  unfold v_20_0 at h
  refine zn_ld rfl rfl rfl ?_
  refine zn_get (v := .ref 3) rfl (zv_C (a := 105) (n := 0) rfl rfl rfl) ?_
  refine zn_get (v := .ref 37) rfl (zv_R (a := 3) rfl rfl) ?_
  refine zn_ld rfl rfl rfl ?_
  refine zn_c [.int 1, .int a1, .ref 37] (xo_push (.int 1)) rfl rfl ?_
  replace h := h _ (i_add (x := a1) (y := 1) rfl (show (1 : Int32).toInt = 1 by decide))
  refine zn_c [.int (a1 + 1), .ref 37] xo_iadd rfl rfl ?_
  refine zn_row (a1 + 1) [] (a := 37) hd rfl rfl rfl rfl ?_
  change Zn _ _ _ _ _ _ _ _ _ _ _ [.int (zg s 37 (a1 + 1))] _ _
  refine zn_st [.ref 105, .int a1, .int (zg s 37 (a1 + 1)), .null, .null] rfl rfl rfl ?_
  refine zn_ld rfl rfl rfl ?_
  refine zn_get (v := .ref 3) rfl (zv_C (a := 105) (n := 0) rfl rfl rfl) ?_
  refine zn_get (v := .ref 37) rfl (zv_R (a := 3) rfl rfl) ?_
  refine zn_ld rfl rfl rfl ?_
  refine zn_c [.int 0, .int a1, .ref 37] (xo_push (.int 0)) rfl rfl ?_
  replace h := h _ (i_add (x := a1) (y := 0) rfl (show (0 : Int32).toInt = 0 by decide))
  refine zn_c [.int (a1 + 0), .ref 37] xo_iadd rfl rfl ?_
  refine zn_row (a1 + 0) [] (a := 37) hd rfl rfl rfl rfl ?_
  change Zn _ _ _ _ _ _ _ _ _ _ _ [.int (zg s 37 (a1 + 0))] _ _
  by_cases hx : Int32.toInt (zg s 37 (a1 + 0)) = 1 ∨ Int32.toInt (zg s 37 (a1 + 0)) = 2 ∨ Int32.toInt (zg s 37 (a1 + 0)) = 3 ∨ Int32.toInt (zg s 37 (a1 + 0)) = 4 ∨ Int32.toInt (zg s 37 (a1 + 0)) = 5 ∨ Int32.toInt (zg s 37 (a1 + 0)) = 6
  · rcases hx with hy | hy | hy | hy | hy | hy
    · refine zn_sw ?_
      refine ⟨16, by rw [if_neg (by omega), hy]; rfl, ?_⟩
      replace h := h.2.1 hy
      refine zn_ld rfl rfl rfl ?_
      refine zn_ld rfl rfl rfl ?_
      refine zn_get (v := .ref 106) rfl (zv_R (a := 105) rfl rfl) ?_
      refine zn_ld rfl rfl rfl ?_
      refine zn_get (v := .ref 108) rfl (zv_R (a := 105) rfl rfl) ?_
      refine zn_c [.int 2, .ref 108, .ref 106, .ref 105] (xo_push (.int 2)) rfl rfl ?_
      refine zn_ld rfl rfl rfl ?_
      refine zn_get (v := .int (s.1 105 8)) rfl (zv_I (a := 105) rfl rfl) ?_
      replace h := h _ (i_mul (x := 2) (y := s.1 105 8) (show (2 : Int32).toInt = 2 by decide) rfl)
      refine zn_c [.int (2 * (s.1 105 8)), .ref 108, .ref 106, .ref 105] xo_imul rfl rfl ?_
      refine zn_c [.int 1, .int (2 * (s.1 105 8)), .ref 108, .ref 106, .ref 105] (xo_push (.int 1)) rfl rfl ?_
      replace h := h _ (i_add (x := (2 * (s.1 105 8))) (y := 1) rfl (show (1 : Int32).toInt = 1 by decide))
      refine zn_c [.int ((2 * (s.1 105 8)) + 1), .ref 108, .ref 106, .ref 105] xo_iadd rfl rfl ?_
      refine zn_row ((2 * (s.1 105 8)) + 1) [.ref 106, .ref 105] (a := 108) hd rfl rfl rfl rfl ?_
      change Zn _ _ _ _ _ _ _ _ _ _ _ [.int (zg s 108 ((2 * (s.1 105 8)) + 1)), .ref 106, .ref 105] _ _
      refine zn_ld rfl rfl rfl ?_
      replace h := h _ (i_add (x := zg s 108 ((2 * (s.1 105 8)) + 1)) (y := zg s 37 (a1 + 1)) rfl rfl)
      refine zn_c [.int ((zg s 108 ((2 * (s.1 105 8)) + 1)) + (zg s 37 (a1 + 1))), .ref 106, .ref 105] xo_iadd rfl rfl ?_
      refine zn_row ((zg s 108 ((2 * (s.1 105 8)) + 1)) + (zg s 37 (a1 + 1))) [.ref 105] (a := 106) hd rfl rfl rfl rfl ?_
      change Zn _ _ _ _ _ _ _ _ _ _ _ [.int (zg s 106 ((zg s 108 ((2 * (s.1 105 8)) + 1)) + (zg s 37 (a1 + 1)))), .ref 105] _ _
      refine zn_zt [.ref 105, .int (zg s 106 ((zg s 108 ((2 * (s.1 105 8)) + 1)) + (zg s 37 (a1 + 1))))] [] rfl rfl rfl rfl rfl (Zt.imp h (fun v8 s9 h => ?_))
      obtain ⟨rfl, h⟩ := h
      change Zn _ _ _ _ _ _ _ _ _ _ _ [] _ _
      refine zn_go rfl ?_
      exact m_20_83_3 hd  h
    · refine zn_sw ?_
      refine ⟨33, by rw [if_neg (by omega), hy]; rfl, ?_⟩
      replace h := h.2.2.1 hy
      refine zn_ld rfl rfl rfl ?_
      refine zn_ld rfl rfl rfl ?_
      refine zn_ld rfl rfl rfl ?_
      refine zn_zt [.ref 105, .int (zg s 37 (a1 + 1))] [.ref 105] rfl rfl rfl rfl rfl (Zt.imp h (fun v10 s11 h => ?_))
      obtain ⟨x12, rfl, h⟩ := h
      change Zn _ _ _ _ _ _ _ _ _ _ _ [.int x12, .ref 105] _ _
      refine zn_zt [.ref 105, .int x12] [] rfl rfl rfl rfl rfl (Zt.imp h (fun v13 s14 h => ?_))
      obtain ⟨rfl, h⟩ := h
      change Zn _ _ _ _ _ _ _ _ _ _ _ [] _ _
      refine zn_go rfl ?_
      exact m_20_83_3 hd  h
    · refine zn_sw ?_
      refine ⟨39, by rw [if_neg (by omega), hy]; rfl, ?_⟩
      replace h := h.2.2.2.1 hy
      refine zn_ld rfl rfl rfl ?_
      refine zn_ld rfl rfl rfl ?_
      refine zn_get (v := .ref 3) rfl (zv_C (a := 105) (n := 0) rfl rfl rfl) ?_
      refine zn_get (v := .ref 37) rfl (zv_R (a := 3) rfl rfl) ?_
      refine zn_ld rfl rfl rfl ?_
      refine zn_c [.int 2, .int a1, .ref 37, .ref 105] (xo_push (.int 2)) rfl rfl ?_
      replace h := h _ (i_add (x := a1) (y := 2) rfl (show (2 : Int32).toInt = 2 by decide))
      refine zn_c [.int (a1 + 2), .ref 37, .ref 105] xo_iadd rfl rfl ?_
      refine zn_row (a1 + 2) [.ref 105] (a := 37) hd rfl rfl rfl rfl ?_
      change Zn _ _ _ _ _ _ _ _ _ _ _ [.int (zg s 37 (a1 + 2)), .ref 105] _ _
      refine zn_zt [.ref 105, .int (zg s 37 (a1 + 2))] [] rfl rfl rfl rfl rfl (Zt.imp h (fun v16 s17 h => ?_))
      obtain ⟨rfl, h⟩ := h
      change Zn _ _ _ _ _ _ _ _ _ _ _ [] _ _
      refine zn_go rfl ?_
      exact m_20_83_3 hd  h
    · refine zn_sw ?_
      refine ⟨49, by rw [if_neg (by omega), hy]; rfl, ?_⟩
      replace h := h.2.2.2.2.1 hy
      refine zn_ld rfl rfl rfl ?_
      refine zn_c [.int 1, .ref 105] (xo_push (.int 1)) rfl rfl ?_
      refine zn_zt [.ref 105, .int 1] [] rfl rfl rfl rfl rfl (Zt.imp h (fun v18 s19 h => ?_))
      obtain ⟨x20, rfl, h⟩ := h
      change Zn _ _ _ _ _ _ _ _ _ _ _ [.int x20] _ _
      refine zn_brP rfl rfl ⟨fun hcn => ?_, fun hcn => ?_⟩
      · replace h := h.1 ((i_eq (x := x20) (y := 0) rfl (show (0 : Int32).toInt = 0 by decide)).mp hcn)
        exact m_20_83_3 hd  h
      · replace h := h.2 (fun q => hcn ((i_eq (x := x20) (y := 0) rfl (show (0 : Int32).toInt = 0 by decide)).mpr q))
        refine zn_ld rfl rfl rfl ?_
        refine zn_ld rfl rfl rfl ?_
        refine zn_get (v := .ref 111) rfl (zv_R (a := 105) rfl rfl) ?_
        refine zn_ld rfl rfl rfl ?_
        refine zn_zt [.ref 105] [.ref 111, .ref 105] rfl rfl rfl rfl rfl (Zt.imp h (fun v21 s22 h => ?_))
        obtain ⟨x23, rfl, h⟩ := h
        change Zn _ _ _ _ _ _ _ _ _ _ _ [.int x23, .ref 111, .ref 105] _ _
        refine zn_c [.int 1, .int x23, .ref 111, .ref 105] (xo_push (.int 1)) rfl rfl ?_
        replace h := h _ (i_add (x := x23) (y := 1) rfl (show (1 : Int32).toInt = 1 by decide))
        refine zn_c [.int (x23 + 1), .ref 111, .ref 105] xo_iadd rfl rfl ?_
        refine zn_ld rfl rfl rfl ?_
        replace h := h _ (i_add (x := (x23 + 1)) (y := zg s 37 (a1 + 1)) rfl rfl)
        refine zn_c [.int ((x23 + 1) + (zg s 37 (a1 + 1))), .ref 111, .ref 105] xo_iadd rfl rfl ?_
        refine zn_row ((x23 + 1) + (zg s 37 (a1 + 1))) [.ref 105] (a := 111) hd rfl rfl rfl rfl ?_
        change Zn _ _ _ _ _ _ _ _ _ _ _ [.int (zg s22 111 ((x23 + 1) + (zg s 37 (a1 + 1)))), .ref 105] _ _
        refine zn_zt [.ref 105, .int (zg s22 111 ((x23 + 1) + (zg s 37 (a1 + 1))))] [] rfl rfl rfl rfl rfl (Zt.imp h (fun v26 s27 h => ?_))
        obtain ⟨rfl, h⟩ := h
        change Zn _ _ _ _ _ _ _ _ _ _ _ [] _ _
        refine zn_go rfl ?_
        exact m_20_83_3 hd  h
    · refine zn_sw ?_
      refine ⟨65, by rw [if_neg (by omega), hy]; rfl, ?_⟩
      replace h := h.2.2.2.2.2.1 hy
      refine zn_ld rfl rfl rfl ?_
      refine zn_ld rfl rfl rfl ?_
      refine zn_ld rfl rfl rfl ?_
      refine zn_zt [.ref 105, .int a1, .int (zg s 37 (a1 + 1))] [] rfl rfl rfl rfl rfl (Zt.imp h (fun v28 s29 h => ?_))
      obtain ⟨rfl, h⟩ := h
      change Zn _ _ _ _ _ _ _ _ _ _ _ [] _ _
      refine zn_go rfl ?_
      exact m_20_83_3 hd  h
    · refine zn_sw ?_
      refine ⟨70, by rw [if_neg (by omega), hy]; rfl, ?_⟩
      replace h := h.2.2.2.2.2.2 hy
      refine zn_ld rfl rfl rfl ?_
      refine zn_ld rfl rfl rfl ?_
      refine zn_ld rfl rfl rfl ?_
      refine zn_get (v := .ref 3) rfl (zv_C (a := 105) (n := 0) rfl rfl rfl) ?_
      refine zn_get (v := .ref 37) rfl (zv_R (a := 3) rfl rfl) ?_
      refine zn_ld rfl rfl rfl ?_
      refine zn_c [.int 2, .int a1, .ref 37, .int (zg s 37 (a1 + 1)), .ref 105] (xo_push (.int 2)) rfl rfl ?_
      replace h := h _ (i_add (x := a1) (y := 2) rfl (show (2 : Int32).toInt = 2 by decide))
      refine zn_c [.int (a1 + 2), .ref 37, .int (zg s 37 (a1 + 1)), .ref 105] xo_iadd rfl rfl ?_
      refine zn_row (a1 + 2) [.int (zg s 37 (a1 + 1)), .ref 105] (a := 37) hd rfl rfl rfl rfl ?_
      change Zn _ _ _ _ _ _ _ _ _ _ _ [.int (zg s 37 (a1 + 2)), .int (zg s 37 (a1 + 1)), .ref 105] _ _
      refine zn_zt [.ref 105, .int (zg s 37 (a1 + 1)), .int (zg s 37 (a1 + 2))] [] rfl rfl rfl rfl rfl (Zt.imp h (fun v31 s32 h => ?_))
      obtain ⟨rfl, h⟩ := h
      change Zn _ _ _ _ _ _ _ _ _ _ _ [] _ _
      refine zn_go rfl ?_
      exact m_20_83_3 hd  h
  · have hy : ¬ Int32.toInt (zg s 37 (a1 + 0)) = 1 ∧ ¬ Int32.toInt (zg s 37 (a1 + 0)) = 2 ∧ ¬ Int32.toInt (zg s 37 (a1 + 0)) = 3 ∧ ¬ Int32.toInt (zg s 37 (a1 + 0)) = 4 ∧ ¬ Int32.toInt (zg s 37 (a1 + 0)) = 5 ∧ ¬ Int32.toInt (zg s 37 (a1 + 0)) = 6 := by omega
    replace h := h.1 hy
    by_cases hz : Int32.toInt (zg s 37 (a1 + 0)) < 1 ∨ 6 < Int32.toInt (zg s 37 (a1 + 0))
    · refine zn_sw ?_
      refine ⟨81, by rw [if_pos hz]; rfl, ?_⟩
      refine zn_ld rfl rfl rfl ?_
      refine zn_zt [.ref 105] [] rfl rfl rfl rfl rfl (Zt.imp h (fun v3 s4 h => ?_))
      obtain ⟨rfl, h⟩ := h
      change Zn _ _ _ _ _ _ _ _ _ _ _ [] _ _
      exact m_20_83_3 hd  h
    · omega
theorem zq_20_3 {d : Nat} {a1 : Int32} {s : zS} {Q : Option Value → zS → Prop} (h : v_20_0 (fun j => Zt (d + 8) (wd2 3 j) j) 3 a1 s Q) : Zt (d + 9) ([(105, 5, 3), (75, 0, 3), (75, 1, 21), (75, 2, 25)] : zW) 20 [.ref 105, .int a1] s Q := zt_of (E := xE_20) (L := xL_2) (ml := 3) (ret := none) rfl rfl rfl (m_20_0_3 rfl h)
set_option maxRecDepth 20000 in
theorem m_20_83_39 {d d0 : Nat} (hd : d = d0 + 8)  {a1 : Int32} {a2 : Int32} {s : zS} {Q : Option Value → zS → Prop}  (h : v_20_83 (fun j => Zt d (wd2 39 j) j) 39  a1 a2 s Q) : Zn d [] [(39, 98), (0, 111)] ([(105, 5, 39), (75, 0, 39), (75, 1, 57), (75, 2, 61)] : zW) ([(105, 5, 39), (75, 0, 39), (75, 1, 57), (75, 2, 61)] : zW) xL_2 3 (none) xE_20 (xE_20.drop 83) [.ref 105, .int a1, .int a2, .null, .null] [] s Q := by
  unfold v_20_83 at h
  exact zn_ret0 rfl h
set_option maxRecDepth 20000 in
theorem m_20_0_39 {d d0 : Nat} (hd : d = d0 + 8)  {a1 : Int32} {s : zS} {Q : Option Value → zS → Prop}  (h : v_20_0 (fun j => Zt d (wd2 39 j) j) 39  a1 s Q) : Zn d [] [(39, 98), (0, 111)] ([(105, 5, 39), (75, 0, 39), (75, 1, 57), (75, 2, 61)] : zW) ([(105, 5, 39), (75, 0, 39), (75, 1, 57), (75, 2, 61)] : zW) xL_2 3 (none) xE_20 (xE_20.drop 0) [.ref 105, .int a1, .null, .null, .null] [] s Q := by
  unfold v_20_0 at h
  refine zn_ld rfl rfl rfl ?_
  refine zn_get (v := .ref 39) rfl (zv_C (a := 105) (n := 0) rfl rfl rfl) ?_
  refine zn_get (v := .ref 73) rfl (zv_R (a := 39) rfl rfl) ?_
  refine zn_ld rfl rfl rfl ?_
  refine zn_c [.int 1, .int a1, .ref 73] (xo_push (.int 1)) rfl rfl ?_
  replace h := h _ (i_add (x := a1) (y := 1) rfl (show (1 : Int32).toInt = 1 by decide))
  refine zn_c [.int (a1 + 1), .ref 73] xo_iadd rfl rfl ?_
  refine zn_row (a1 + 1) [] (a := 73) hd rfl rfl rfl rfl ?_
  change Zn _ _ _ _ _ _ _ _ _ _ _ [.int (zg s 73 (a1 + 1))] _ _
  refine zn_st [.ref 105, .int a1, .int (zg s 73 (a1 + 1)), .null, .null] rfl rfl rfl ?_
  refine zn_ld rfl rfl rfl ?_
  refine zn_get (v := .ref 39) rfl (zv_C (a := 105) (n := 0) rfl rfl rfl) ?_
  refine zn_get (v := .ref 73) rfl (zv_R (a := 39) rfl rfl) ?_
  refine zn_ld rfl rfl rfl ?_
  refine zn_c [.int 0, .int a1, .ref 73] (xo_push (.int 0)) rfl rfl ?_
  replace h := h _ (i_add (x := a1) (y := 0) rfl (show (0 : Int32).toInt = 0 by decide))
  refine zn_c [.int (a1 + 0), .ref 73] xo_iadd rfl rfl ?_
  refine zn_row (a1 + 0) [] (a := 73) hd rfl rfl rfl rfl ?_
  change Zn _ _ _ _ _ _ _ _ _ _ _ [.int (zg s 73 (a1 + 0))] _ _
  by_cases hx : Int32.toInt (zg s 73 (a1 + 0)) = 1 ∨ Int32.toInt (zg s 73 (a1 + 0)) = 2 ∨ Int32.toInt (zg s 73 (a1 + 0)) = 3 ∨ Int32.toInt (zg s 73 (a1 + 0)) = 4 ∨ Int32.toInt (zg s 73 (a1 + 0)) = 5 ∨ Int32.toInt (zg s 73 (a1 + 0)) = 6
  · rcases hx with hy | hy | hy | hy | hy | hy
    · refine zn_sw ?_
      refine ⟨16, by rw [if_neg (by omega), hy]; rfl, ?_⟩
      replace h := h.2.1 hy
      refine zn_ld rfl rfl rfl ?_
      refine zn_ld rfl rfl rfl ?_
      refine zn_get (v := .ref 106) rfl (zv_R (a := 105) rfl rfl) ?_
      refine zn_ld rfl rfl rfl ?_
      refine zn_get (v := .ref 108) rfl (zv_R (a := 105) rfl rfl) ?_
      refine zn_c [.int 2, .ref 108, .ref 106, .ref 105] (xo_push (.int 2)) rfl rfl ?_
      refine zn_ld rfl rfl rfl ?_
      refine zn_get (v := .int (s.1 105 8)) rfl (zv_I (a := 105) rfl rfl) ?_
      replace h := h _ (i_mul (x := 2) (y := s.1 105 8) (show (2 : Int32).toInt = 2 by decide) rfl)
      refine zn_c [.int (2 * (s.1 105 8)), .ref 108, .ref 106, .ref 105] xo_imul rfl rfl ?_
      refine zn_c [.int 1, .int (2 * (s.1 105 8)), .ref 108, .ref 106, .ref 105] (xo_push (.int 1)) rfl rfl ?_
      replace h := h _ (i_add (x := (2 * (s.1 105 8))) (y := 1) rfl (show (1 : Int32).toInt = 1 by decide))
      refine zn_c [.int ((2 * (s.1 105 8)) + 1), .ref 108, .ref 106, .ref 105] xo_iadd rfl rfl ?_
      refine zn_row ((2 * (s.1 105 8)) + 1) [.ref 106, .ref 105] (a := 108) hd rfl rfl rfl rfl ?_
      change Zn _ _ _ _ _ _ _ _ _ _ _ [.int (zg s 108 ((2 * (s.1 105 8)) + 1)), .ref 106, .ref 105] _ _
      refine zn_ld rfl rfl rfl ?_
      replace h := h _ (i_add (x := zg s 108 ((2 * (s.1 105 8)) + 1)) (y := zg s 73 (a1 + 1)) rfl rfl)
      refine zn_c [.int ((zg s 108 ((2 * (s.1 105 8)) + 1)) + (zg s 73 (a1 + 1))), .ref 106, .ref 105] xo_iadd rfl rfl ?_
      refine zn_row ((zg s 108 ((2 * (s.1 105 8)) + 1)) + (zg s 73 (a1 + 1))) [.ref 105] (a := 106) hd rfl rfl rfl rfl ?_
      change Zn _ _ _ _ _ _ _ _ _ _ _ [.int (zg s 106 ((zg s 108 ((2 * (s.1 105 8)) + 1)) + (zg s 73 (a1 + 1)))), .ref 105] _ _
      refine zn_zt [.ref 105, .int (zg s 106 ((zg s 108 ((2 * (s.1 105 8)) + 1)) + (zg s 73 (a1 + 1))))] [] rfl rfl rfl rfl rfl (Zt.imp h (fun v8 s9 h => ?_))
      obtain ⟨rfl, h⟩ := h
      change Zn _ _ _ _ _ _ _ _ _ _ _ [] _ _
      refine zn_go rfl ?_
      exact m_20_83_39 hd  h
    · refine zn_sw ?_
      refine ⟨33, by rw [if_neg (by omega), hy]; rfl, ?_⟩
      replace h := h.2.2.1 hy
      refine zn_ld rfl rfl rfl ?_
      refine zn_ld rfl rfl rfl ?_
      refine zn_ld rfl rfl rfl ?_
      refine zn_zt [.ref 105, .int (zg s 73 (a1 + 1))] [.ref 105] rfl rfl rfl rfl rfl (Zt.imp h (fun v10 s11 h => ?_))
      obtain ⟨x12, rfl, h⟩ := h
      change Zn _ _ _ _ _ _ _ _ _ _ _ [.int x12, .ref 105] _ _
      refine zn_zt [.ref 105, .int x12] [] rfl rfl rfl rfl rfl (Zt.imp h (fun v13 s14 h => ?_))
      obtain ⟨rfl, h⟩ := h
      change Zn _ _ _ _ _ _ _ _ _ _ _ [] _ _
      refine zn_go rfl ?_
      exact m_20_83_39 hd  h
    · refine zn_sw ?_
      refine ⟨39, by rw [if_neg (by omega), hy]; rfl, ?_⟩
      replace h := h.2.2.2.1 hy
      refine zn_ld rfl rfl rfl ?_
      refine zn_ld rfl rfl rfl ?_
      refine zn_get (v := .ref 39) rfl (zv_C (a := 105) (n := 0) rfl rfl rfl) ?_
      refine zn_get (v := .ref 73) rfl (zv_R (a := 39) rfl rfl) ?_
      refine zn_ld rfl rfl rfl ?_
      refine zn_c [.int 2, .int a1, .ref 73, .ref 105] (xo_push (.int 2)) rfl rfl ?_
      replace h := h _ (i_add (x := a1) (y := 2) rfl (show (2 : Int32).toInt = 2 by decide))
      refine zn_c [.int (a1 + 2), .ref 73, .ref 105] xo_iadd rfl rfl ?_
      refine zn_row (a1 + 2) [.ref 105] (a := 73) hd rfl rfl rfl rfl ?_
      change Zn _ _ _ _ _ _ _ _ _ _ _ [.int (zg s 73 (a1 + 2)), .ref 105] _ _
      refine zn_zt [.ref 105, .int (zg s 73 (a1 + 2))] [] rfl rfl rfl rfl rfl (Zt.imp h (fun v16 s17 h => ?_))
      obtain ⟨rfl, h⟩ := h
      change Zn _ _ _ _ _ _ _ _ _ _ _ [] _ _
      refine zn_go rfl ?_
      exact m_20_83_39 hd  h
    · refine zn_sw ?_
      refine ⟨49, by rw [if_neg (by omega), hy]; rfl, ?_⟩
      replace h := h.2.2.2.2.1 hy
      refine zn_ld rfl rfl rfl ?_
      refine zn_c [.int 1, .ref 105] (xo_push (.int 1)) rfl rfl ?_
      refine zn_zt [.ref 105, .int 1] [] rfl rfl rfl rfl rfl (Zt.imp h (fun v18 s19 h => ?_))
      obtain ⟨x20, rfl, h⟩ := h
      change Zn _ _ _ _ _ _ _ _ _ _ _ [.int x20] _ _
      refine zn_brP rfl rfl ⟨fun hcn => ?_, fun hcn => ?_⟩
      · replace h := h.1 ((i_eq (x := x20) (y := 0) rfl (show (0 : Int32).toInt = 0 by decide)).mp hcn)
        exact m_20_83_39 hd  h
      · replace h := h.2 (fun q => hcn ((i_eq (x := x20) (y := 0) rfl (show (0 : Int32).toInt = 0 by decide)).mpr q))
        refine zn_ld rfl rfl rfl ?_
        refine zn_ld rfl rfl rfl ?_
        refine zn_get (v := .ref 111) rfl (zv_R (a := 105) rfl rfl) ?_
        refine zn_ld rfl rfl rfl ?_
        refine zn_zt [.ref 105] [.ref 111, .ref 105] rfl rfl rfl rfl rfl (Zt.imp h (fun v21 s22 h => ?_))
        obtain ⟨x23, rfl, h⟩ := h
        change Zn _ _ _ _ _ _ _ _ _ _ _ [.int x23, .ref 111, .ref 105] _ _
        refine zn_c [.int 1, .int x23, .ref 111, .ref 105] (xo_push (.int 1)) rfl rfl ?_
        replace h := h _ (i_add (x := x23) (y := 1) rfl (show (1 : Int32).toInt = 1 by decide))
        refine zn_c [.int (x23 + 1), .ref 111, .ref 105] xo_iadd rfl rfl ?_
        refine zn_ld rfl rfl rfl ?_
        replace h := h _ (i_add (x := (x23 + 1)) (y := zg s 73 (a1 + 1)) rfl rfl)
        refine zn_c [.int ((x23 + 1) + (zg s 73 (a1 + 1))), .ref 111, .ref 105] xo_iadd rfl rfl ?_
        refine zn_row ((x23 + 1) + (zg s 73 (a1 + 1))) [.ref 105] (a := 111) hd rfl rfl rfl rfl ?_
        change Zn _ _ _ _ _ _ _ _ _ _ _ [.int (zg s22 111 ((x23 + 1) + (zg s 73 (a1 + 1)))), .ref 105] _ _
        refine zn_zt [.ref 105, .int (zg s22 111 ((x23 + 1) + (zg s 73 (a1 + 1))))] [] rfl rfl rfl rfl rfl (Zt.imp h (fun v26 s27 h => ?_))
        obtain ⟨rfl, h⟩ := h
        change Zn _ _ _ _ _ _ _ _ _ _ _ [] _ _
        refine zn_go rfl ?_
        exact m_20_83_39 hd  h
    · refine zn_sw ?_
      refine ⟨65, by rw [if_neg (by omega), hy]; rfl, ?_⟩
      replace h := h.2.2.2.2.2.1 hy
      refine zn_ld rfl rfl rfl ?_
      refine zn_ld rfl rfl rfl ?_
      refine zn_ld rfl rfl rfl ?_
      refine zn_zt [.ref 105, .int a1, .int (zg s 73 (a1 + 1))] [] rfl rfl rfl rfl rfl (Zt.imp h (fun v28 s29 h => ?_))
      obtain ⟨rfl, h⟩ := h
      change Zn _ _ _ _ _ _ _ _ _ _ _ [] _ _
      refine zn_go rfl ?_
      exact m_20_83_39 hd  h
    · refine zn_sw ?_
      refine ⟨70, by rw [if_neg (by omega), hy]; rfl, ?_⟩
      replace h := h.2.2.2.2.2.2 hy
      refine zn_ld rfl rfl rfl ?_
      refine zn_ld rfl rfl rfl ?_
      refine zn_ld rfl rfl rfl ?_
      refine zn_get (v := .ref 39) rfl (zv_C (a := 105) (n := 0) rfl rfl rfl) ?_
      refine zn_get (v := .ref 73) rfl (zv_R (a := 39) rfl rfl) ?_
      refine zn_ld rfl rfl rfl ?_
      refine zn_c [.int 2, .int a1, .ref 73, .int (zg s 73 (a1 + 1)), .ref 105] (xo_push (.int 2)) rfl rfl ?_
      replace h := h _ (i_add (x := a1) (y := 2) rfl (show (2 : Int32).toInt = 2 by decide))
      refine zn_c [.int (a1 + 2), .ref 73, .int (zg s 73 (a1 + 1)), .ref 105] xo_iadd rfl rfl ?_
      refine zn_row (a1 + 2) [.int (zg s 73 (a1 + 1)), .ref 105] (a := 73) hd rfl rfl rfl rfl ?_
      change Zn _ _ _ _ _ _ _ _ _ _ _ [.int (zg s 73 (a1 + 2)), .int (zg s 73 (a1 + 1)), .ref 105] _ _
      refine zn_zt [.ref 105, .int (zg s 73 (a1 + 1)), .int (zg s 73 (a1 + 2))] [] rfl rfl rfl rfl rfl (Zt.imp h (fun v31 s32 h => ?_))
      obtain ⟨rfl, h⟩ := h
      change Zn _ _ _ _ _ _ _ _ _ _ _ [] _ _
      refine zn_go rfl ?_
      exact m_20_83_39 hd  h
  · have hy : ¬ Int32.toInt (zg s 73 (a1 + 0)) = 1 ∧ ¬ Int32.toInt (zg s 73 (a1 + 0)) = 2 ∧ ¬ Int32.toInt (zg s 73 (a1 + 0)) = 3 ∧ ¬ Int32.toInt (zg s 73 (a1 + 0)) = 4 ∧ ¬ Int32.toInt (zg s 73 (a1 + 0)) = 5 ∧ ¬ Int32.toInt (zg s 73 (a1 + 0)) = 6 := by omega
    replace h := h.1 hy
    by_cases hz : Int32.toInt (zg s 73 (a1 + 0)) < 1 ∨ 6 < Int32.toInt (zg s 73 (a1 + 0))
    · refine zn_sw ?_
      refine ⟨81, by rw [if_pos hz]; rfl, ?_⟩
      refine zn_ld rfl rfl rfl ?_
      refine zn_zt [.ref 105] [] rfl rfl rfl rfl rfl (Zt.imp h (fun v3 s4 h => ?_))
      obtain ⟨rfl, h⟩ := h
      change Zn _ _ _ _ _ _ _ _ _ _ _ [] _ _
      exact m_20_83_39 hd  h
    · omega
theorem zq_20_39 {d : Nat} {a1 : Int32} {s : zS} {Q : Option Value → zS → Prop} (h : v_20_0 (fun j => Zt (d + 8) (wd2 39 j) j) 39 a1 s Q) : Zt (d + 9) ([(105, 5, 39), (75, 0, 39), (75, 1, 57), (75, 2, 61)] : zW) 20 [.ref 105, .int a1] s Q := zt_of (E := xE_20) (L := xL_2) (ml := 3) (ret := none) rfl rfl rfl (m_20_0_39 rfl h)
theorem zc_20 {d P : Nat} (hP : P = 3 ∨ P = 39) {a1 : Int32} {s : zS} {Q : Option Value → zS → Prop} (h : v_20_0 (fun j => Zt (d + 8) (wd2 P j) j) P a1 s Q) : Zt (d + 9) (wd2 P 20) 20 [.ref 105, .int a1] s Q := by
  rcases hP with rfl | rfl
  · exact zq_20_3 h
  · exact zq_20_39 h
/-! FeatherBench$Machine.go -/
def v_19_25 (T : Nat → List Value → zS → (Option Value → zS → Prop) → Prop) (P : Nat)  (a1 : Int32) (s : zS) (Q : Option Value → zS → Prop) : Prop :=
  Q none s
def v_19_2 (T : Nat → List Value → zS → (Option Value → zS → Prop) → Prop) (P : Nat) (R2 : Int32 → zS → Prop) (a1 : Int32) (s : zS) (Q : Option Value → zS → Prop) : Prop :=
  (1000000 ≤ a1.toInt → v_19_25 T P  a1 s Q) ∧ (¬ (1000000 ≤ a1.toInt) → (¬ ((s.1 105 13).toInt = 5) → v_19_25 T P  a1 s Q) ∧ ((s.1 105 13).toInt = 5 → ∀ x1 : Int32, (-2147483648 ≤ (s.1 105 6).toInt * 6 ∧ (s.1 105 6).toInt * 6 ≤ 2147483647 → x1.toInt = (s.1 105 6).toInt * 6) → ∀ x2 : Int32, (-2147483648 ≤ (s.1 105 6).toInt + 1 ∧ (s.1 105 6).toInt + 1 ≤ 2147483647 → x2.toInt = (s.1 105 6).toInt + 1) → ∀ s3, s3 = zf s 105 6 x2 → T 20 [.ref 105, .int x1] s3 (fun v4 s5 => v4 = none ∧ (∀ x6 : Int32, (-2147483648 ≤ a1.toInt + 1 ∧ a1.toInt + 1 ≤ 2147483647 → x6.toInt = a1.toInt + 1) → R2 x6 s5))))
def vl_19_2 (T : Nat → List Value → zS → (Option Value → zS → Prop) → Prop) (P : Nat)  (a1 : Int32) (s : zS) (Q : Option Value → zS → Prop) : Prop :=
  ∃ (I : Int32 → zS → Prop) (μ : Int32 → zS → Nat), I a1 s ∧ ∀ (a1 : Int32) (s : zS), I a1 s → v_19_2 T P (fun a1' s' => I a1' s' ∧ μ a1' s' < μ a1 s) a1 s Q
def v_19_0 (T : Nat → List Value → zS → (Option Value → zS → Prop) → Prop) (P : Nat)   (s : zS) (Q : Option Value → zS → Prop) : Prop :=
  vl_19_2 T P  0 s Q
set_option maxRecDepth 20000 in
theorem m_19_25_3 {d d0 : Nat} (hd : d = d0 + 8)  {a1 : Int32} {s : zS} {Q : Option Value → zS → Prop}  (h : v_19_25 (fun j => Zt d (wd2 3 j) j) 3  a1 s Q) : Zn d [] [(3, 98), (0, 111)] ([(105, 5, 3), (75, 0, 3), (75, 1, 21), (75, 2, 25)] : zW) ([(105, 5, 3), (75, 0, 3), (75, 1, 21), (75, 2, 25)] : zW) xL_2 3 (none) xE_19 (xE_19.drop 25) [.ref 105, .int a1, .null, .null] [] s Q := by
  unfold v_19_25 at h
  exact zn_ret0 rfl h
set_option maxRecDepth 20000 in
theorem m_19_2_3 {d d0 : Nat} (hd : d = d0 + 8) {R2 : Int32 → zS → Prop} {a1 : Int32} {s : zS} {Q : Option Value → zS → Prop} (r2 : ∀ a1 s, R2 a1 s → Zn d [] [(3, 98), (0, 111)] ([(105, 5, 3), (75, 0, 3), (75, 1, 21), (75, 2, 25)] : zW) ([(105, 5, 3), (75, 0, 3), (75, 1, 21), (75, 2, 25)] : zW) xL_2 3 (none) xE_19 (xE_19.drop 2) [.ref 105, .int a1, .null, .null] [] s Q) (h : v_19_2 (fun j => Zt d (wd2 3 j) j) 3 R2 a1 s Q) : Zn d [] [(3, 98), (0, 111)] ([(105, 5, 3), (75, 0, 3), (75, 1, 21), (75, 2, 25)] : zW) ([(105, 5, 3), (75, 0, 3), (75, 1, 21), (75, 2, 25)] : zW) xL_2 3 (none) xE_19 (xE_19.drop 2) [.ref 105, .int a1, .null, .null] [] s Q := by
  unfold v_19_2 at h
  refine zn_ld rfl rfl rfl ?_
  refine zn_c [.int 1000000, .int a1] (xo_push (.int 1000000)) rfl rfl ?_
  refine zn_brP rfl rfl ⟨fun hcn => ?_, fun hcn => ?_⟩
  · replace h := h.1 ((i_le (x := 1000000) (y := a1) (show (1000000 : Int32).toInt = 1000000 by decide) rfl).mp hcn)
    exact m_19_25_3 hd  h
  · replace h := h.2 (fun q => hcn ((i_le (x := 1000000) (y := a1) (show (1000000 : Int32).toInt = 1000000 by decide) rfl).mpr q))
    refine zn_ld rfl rfl rfl ?_
    refine zn_get (v := .int (s.1 105 13)) rfl (zv_I (a := 105) rfl rfl) ?_
    refine zn_c [.int 5, .int (s.1 105 13)] (xo_push (.int 5)) rfl rfl ?_
    refine zn_brN rfl rfl ⟨fun hcn => ?_, fun hcn => ?_⟩
    · replace h := h.1 (fun q => hcn ((i_eq (x := s.1 105 13) (y := 5) rfl (show (5 : Int32).toInt = 5 by decide)).mpr q))
      exact m_19_25_3 hd  h
    · replace h := h.2 ((i_eq (x := s.1 105 13) (y := 5) rfl (show (5 : Int32).toInt = 5 by decide)).mp hcn)
      refine zn_ld rfl rfl rfl ?_
      refine zn_get (v := .int (s.1 105 6)) rfl (zv_I (a := 105) rfl rfl) ?_
      refine zn_c [.int 6, .int (s.1 105 6)] (xo_push (.int 6)) rfl rfl ?_
      replace h := h _ (i_mul (x := s.1 105 6) (y := 6) rfl (show (6 : Int32).toInt = 6 by decide))
      refine zn_c [.int ((s.1 105 6) * 6)] xo_imul rfl rfl ?_
      refine zn_st [.ref 105, .int a1, .int ((s.1 105 6) * 6), .null] rfl rfl rfl ?_
      refine zn_ld rfl rfl rfl ?_
      refine zn_c [.ref 105, .ref 105] xo_dup rfl rfl ?_
      refine zn_get (v := .int (s.1 105 6)) rfl (zv_I (a := 105) rfl rfl) ?_
      refine zn_c [.int 1, .int (s.1 105 6), .ref 105] (xo_push (.int 1)) rfl rfl ?_
      replace h := h _ (i_add (x := s.1 105 6) (y := 1) rfl (show (1 : Int32).toInt = 1 by decide))
      refine zn_c [.int ((s.1 105 6) + 1), .ref 105] xo_iadd rfl rfl ?_
      refine zn_putI (a := 105) rfl rfl rfl rfl ⟨Int32.le_toInt _, Int.le_of_lt_add_one (Int32.toInt_lt _)⟩ rfl rfl rfl ?_
      replace h := h _ rfl
      refine zn_ld rfl rfl rfl ?_
      refine zn_ld rfl rfl rfl ?_
      refine zn_zt [.ref 105, .int ((s.1 105 6) * 6)] [] rfl rfl rfl rfl rfl (Zt.imp h (fun v4 s5 h => ?_))
      obtain ⟨rfl, h⟩ := h
      change Zn _ _ _ _ _ _ _ _ _ _ _ [] _ _
      replace h := h _ (i_add (x := a1) (y := 1) rfl (show (1 : Int32).toInt = 1 by decide))
      refine zn_inc [.ref 105, .int (a1 + 1), .int ((s.1 105 6) * 6), .null] rfl rfl rfl rfl ?_
      refine zn_go rfl ?_
      refine zn_fg 2 ?_
      exact r2 (a1 + 1) s5 h
theorem ml_19_2_3 {d d0 : Nat} (hd : d = d0 + 8)  {a1 : Int32} {s : zS} {Q : Option Value → zS → Prop}  (h : vl_19_2 (fun j => Zt d (wd2 3 j) j) 3  a1 s Q) : Zn d [] [(3, 98), (0, 111)] ([(105, 5, 3), (75, 0, 3), (75, 1, 21), (75, 2, 25)] : zW) ([(105, 5, 3), (75, 0, 3), (75, 1, 21), (75, 2, 25)] : zW) xL_2 3 (none) xE_19 (xE_19.drop 2) [.ref 105, .int a1, .null, .null] [] s Q := by
  obtain ⟨I, μ, h0, h1⟩ := h
  have key : ∀ (n : Nat) (a1 : Int32) (s : zS), μ a1 s = n → I a1 s → Zn d [] [(3, 98), (0, 111)] ([(105, 5, 3), (75, 0, 3), (75, 1, 21), (75, 2, 25)] : zW) ([(105, 5, 3), (75, 0, 3), (75, 1, 21), (75, 2, 25)] : zW) xL_2 3 (none) xE_19 (xE_19.drop 2) [.ref 105, .int a1, .null, .null] [] s Q := by
    intro n
    induction n using Nat.strongRecOn with
    | ind n ih =>
      intro a1 s e hI
      exact m_19_2_3 hd (fun a1' s' q => ih _ (by rw [← e]; exact q.2) a1' s' rfl q.1) (h1 a1 s hI)
  exact key _ a1 s rfl h0
set_option maxRecDepth 20000 in
theorem m_19_0_3 {d d0 : Nat} (hd : d = d0 + 8)   {s : zS} {Q : Option Value → zS → Prop}  (h : v_19_0 (fun j => Zt d (wd2 3 j) j) 3   s Q) : Zn d [] [(3, 98), (0, 111)] ([(105, 5, 3), (75, 0, 3), (75, 1, 21), (75, 2, 25)] : zW) ([(105, 5, 3), (75, 0, 3), (75, 1, 21), (75, 2, 25)] : zW) xL_2 3 (none) xE_19 (xE_19.drop 0) [.ref 105, .null, .null, .null] [] s Q := by
  unfold v_19_0 at h
  refine zn_c [.int 0] (xo_push (.int 0)) rfl rfl ?_
  refine zn_st [.ref 105, .int 0, .null, .null] rfl rfl rfl ?_
  exact ml_19_2_3 hd  h
theorem zq_19_3 {d : Nat}  {s : zS} {Q : Option Value → zS → Prop} (h : v_19_0 (fun j => Zt (d + 8) (wd2 3 j) j) 3  s Q) : Zt (d + 9) ([(105, 5, 3), (75, 0, 3), (75, 1, 21), (75, 2, 25)] : zW) 19 [.ref 105] s Q := zt_of (E := xE_19) (L := xL_2) (ml := 3) (ret := none) rfl rfl rfl (m_19_0_3 rfl h)
set_option maxRecDepth 20000 in
theorem m_19_25_39 {d d0 : Nat} (hd : d = d0 + 8)  {a1 : Int32} {s : zS} {Q : Option Value → zS → Prop}  (h : v_19_25 (fun j => Zt d (wd2 39 j) j) 39  a1 s Q) : Zn d [] [(39, 98), (0, 111)] ([(105, 5, 39), (75, 0, 39), (75, 1, 57), (75, 2, 61)] : zW) ([(105, 5, 39), (75, 0, 39), (75, 1, 57), (75, 2, 61)] : zW) xL_2 3 (none) xE_19 (xE_19.drop 25) [.ref 105, .int a1, .null, .null] [] s Q := by
  unfold v_19_25 at h
  exact zn_ret0 rfl h
set_option maxRecDepth 20000 in
theorem m_19_2_39 {d d0 : Nat} (hd : d = d0 + 8) {R2 : Int32 → zS → Prop} {a1 : Int32} {s : zS} {Q : Option Value → zS → Prop} (r2 : ∀ a1 s, R2 a1 s → Zn d [] [(39, 98), (0, 111)] ([(105, 5, 39), (75, 0, 39), (75, 1, 57), (75, 2, 61)] : zW) ([(105, 5, 39), (75, 0, 39), (75, 1, 57), (75, 2, 61)] : zW) xL_2 3 (none) xE_19 (xE_19.drop 2) [.ref 105, .int a1, .null, .null] [] s Q) (h : v_19_2 (fun j => Zt d (wd2 39 j) j) 39 R2 a1 s Q) : Zn d [] [(39, 98), (0, 111)] ([(105, 5, 39), (75, 0, 39), (75, 1, 57), (75, 2, 61)] : zW) ([(105, 5, 39), (75, 0, 39), (75, 1, 57), (75, 2, 61)] : zW) xL_2 3 (none) xE_19 (xE_19.drop 2) [.ref 105, .int a1, .null, .null] [] s Q := by
  unfold v_19_2 at h
  refine zn_ld rfl rfl rfl ?_
  refine zn_c [.int 1000000, .int a1] (xo_push (.int 1000000)) rfl rfl ?_
  refine zn_brP rfl rfl ⟨fun hcn => ?_, fun hcn => ?_⟩
  · replace h := h.1 ((i_le (x := 1000000) (y := a1) (show (1000000 : Int32).toInt = 1000000 by decide) rfl).mp hcn)
    exact m_19_25_39 hd  h
  · replace h := h.2 (fun q => hcn ((i_le (x := 1000000) (y := a1) (show (1000000 : Int32).toInt = 1000000 by decide) rfl).mpr q))
    refine zn_ld rfl rfl rfl ?_
    refine zn_get (v := .int (s.1 105 13)) rfl (zv_I (a := 105) rfl rfl) ?_
    refine zn_c [.int 5, .int (s.1 105 13)] (xo_push (.int 5)) rfl rfl ?_
    refine zn_brN rfl rfl ⟨fun hcn => ?_, fun hcn => ?_⟩
    · replace h := h.1 (fun q => hcn ((i_eq (x := s.1 105 13) (y := 5) rfl (show (5 : Int32).toInt = 5 by decide)).mpr q))
      exact m_19_25_39 hd  h
    · replace h := h.2 ((i_eq (x := s.1 105 13) (y := 5) rfl (show (5 : Int32).toInt = 5 by decide)).mp hcn)
      refine zn_ld rfl rfl rfl ?_
      refine zn_get (v := .int (s.1 105 6)) rfl (zv_I (a := 105) rfl rfl) ?_
      refine zn_c [.int 6, .int (s.1 105 6)] (xo_push (.int 6)) rfl rfl ?_
      replace h := h _ (i_mul (x := s.1 105 6) (y := 6) rfl (show (6 : Int32).toInt = 6 by decide))
      refine zn_c [.int ((s.1 105 6) * 6)] xo_imul rfl rfl ?_
      refine zn_st [.ref 105, .int a1, .int ((s.1 105 6) * 6), .null] rfl rfl rfl ?_
      refine zn_ld rfl rfl rfl ?_
      refine zn_c [.ref 105, .ref 105] xo_dup rfl rfl ?_
      refine zn_get (v := .int (s.1 105 6)) rfl (zv_I (a := 105) rfl rfl) ?_
      refine zn_c [.int 1, .int (s.1 105 6), .ref 105] (xo_push (.int 1)) rfl rfl ?_
      replace h := h _ (i_add (x := s.1 105 6) (y := 1) rfl (show (1 : Int32).toInt = 1 by decide))
      refine zn_c [.int ((s.1 105 6) + 1), .ref 105] xo_iadd rfl rfl ?_
      refine zn_putI (a := 105) rfl rfl rfl rfl ⟨Int32.le_toInt _, Int.le_of_lt_add_one (Int32.toInt_lt _)⟩ rfl rfl rfl ?_
      replace h := h _ rfl
      refine zn_ld rfl rfl rfl ?_
      refine zn_ld rfl rfl rfl ?_
      refine zn_zt [.ref 105, .int ((s.1 105 6) * 6)] [] rfl rfl rfl rfl rfl (Zt.imp h (fun v4 s5 h => ?_))
      obtain ⟨rfl, h⟩ := h
      change Zn _ _ _ _ _ _ _ _ _ _ _ [] _ _
      replace h := h _ (i_add (x := a1) (y := 1) rfl (show (1 : Int32).toInt = 1 by decide))
      refine zn_inc [.ref 105, .int (a1 + 1), .int ((s.1 105 6) * 6), .null] rfl rfl rfl rfl ?_
      refine zn_go rfl ?_
      refine zn_fg 2 ?_
      exact r2 (a1 + 1) s5 h
theorem ml_19_2_39 {d d0 : Nat} (hd : d = d0 + 8)  {a1 : Int32} {s : zS} {Q : Option Value → zS → Prop}  (h : vl_19_2 (fun j => Zt d (wd2 39 j) j) 39  a1 s Q) : Zn d [] [(39, 98), (0, 111)] ([(105, 5, 39), (75, 0, 39), (75, 1, 57), (75, 2, 61)] : zW) ([(105, 5, 39), (75, 0, 39), (75, 1, 57), (75, 2, 61)] : zW) xL_2 3 (none) xE_19 (xE_19.drop 2) [.ref 105, .int a1, .null, .null] [] s Q := by
  obtain ⟨I, μ, h0, h1⟩ := h
  have key : ∀ (n : Nat) (a1 : Int32) (s : zS), μ a1 s = n → I a1 s → Zn d [] [(39, 98), (0, 111)] ([(105, 5, 39), (75, 0, 39), (75, 1, 57), (75, 2, 61)] : zW) ([(105, 5, 39), (75, 0, 39), (75, 1, 57), (75, 2, 61)] : zW) xL_2 3 (none) xE_19 (xE_19.drop 2) [.ref 105, .int a1, .null, .null] [] s Q := by
    intro n
    induction n using Nat.strongRecOn with
    | ind n ih =>
      intro a1 s e hI
      exact m_19_2_39 hd (fun a1' s' q => ih _ (by rw [← e]; exact q.2) a1' s' rfl q.1) (h1 a1 s hI)
  exact key _ a1 s rfl h0
set_option maxRecDepth 20000 in
theorem m_19_0_39 {d d0 : Nat} (hd : d = d0 + 8)   {s : zS} {Q : Option Value → zS → Prop}  (h : v_19_0 (fun j => Zt d (wd2 39 j) j) 39   s Q) : Zn d [] [(39, 98), (0, 111)] ([(105, 5, 39), (75, 0, 39), (75, 1, 57), (75, 2, 61)] : zW) ([(105, 5, 39), (75, 0, 39), (75, 1, 57), (75, 2, 61)] : zW) xL_2 3 (none) xE_19 (xE_19.drop 0) [.ref 105, .null, .null, .null] [] s Q := by
  unfold v_19_0 at h
  refine zn_c [.int 0] (xo_push (.int 0)) rfl rfl ?_
  refine zn_st [.ref 105, .int 0, .null, .null] rfl rfl rfl ?_
  exact ml_19_2_39 hd  h
theorem zq_19_39 {d : Nat}  {s : zS} {Q : Option Value → zS → Prop} (h : v_19_0 (fun j => Zt (d + 8) (wd2 39 j) j) 39  s Q) : Zt (d + 9) ([(105, 5, 39), (75, 0, 39), (75, 1, 57), (75, 2, 61)] : zW) 19 [.ref 105] s Q := zt_of (E := xE_19) (L := xL_2) (ml := 3) (ret := none) rfl rfl rfl (m_19_0_39 rfl h)
theorem zc_19 {d P : Nat} (hP : P = 3 ∨ P = 39)  {s : zS} {Q : Option Value → zS → Prop} (h : v_19_0 (fun j => Zt (d + 8) (wd2 P j) j) P  s Q) : Zt (d + 9) (wd2 P 19) 19 [.ref 105] s Q := by
  rcases hP with rfl | rfl
  · exact zq_19_3 h
  · exact zq_19_39 h
