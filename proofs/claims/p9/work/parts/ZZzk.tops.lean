/-! ===== the class: run, instances, and what only tells (wip/p3/zdec.py) ===== -/
/-! FeatherBench$Machine.start -/
def v_18_0 (T : Nat → List Value → zS → (Option Value → zS → Prop) → Prop) (P : Nat)  (a2 : Int32) (s : zS) (Q : Option Value → zS → Prop) : Prop :=
  T 17 [.ref 105] s (fun v1 s2 => v1 = none ∧ (∀ s3, s3 = zf s2 105 9 a2 → ∀ s4, s4 = zf s3 105 6 (s3.1 P 12) → ∀ s5, s5 = zf s4 105 7 0 → ∀ s6, s6 = zf s5 105 8 0 → ∀ s7, s7 = zf s6 111 2 0 → Q none s7))
set_option maxRecDepth 20000 in
theorem m_18_0_3 {d d0 : Nat} (hd : d = d0 + 8)  {a2 : Int32} {s : zS} {Q : Option Value → zS → Prop}  (h : v_18_0 (fun j => Zt d (wd2 3 j) j) 3  a2 s Q) : Zn d [(105, 5)] [(0, 111)] ([(75, 0, 3), (75, 1, 21), (75, 2, 25)] : zW) ([(105, 5, 3), (75, 0, 3), (75, 1, 21), (75, 2, 25)] : zW) xL_2 3 (none) xE_18 (xE_18.drop 0) [.ref 105, .ref 3, .int a2, .null, .null, .null] [] s Q := by
  unfold v_18_0 at h
  refine zn_ld rfl rfl rfl ?_
  refine zn_zt [.ref 105] [] rfl rfl rfl rfl rfl (Zt.imp h (fun v1 s2 h => ?_))
  obtain ⟨rfl, h⟩ := h
  change Zn _ _ _ _ _ _ _ _ _ _ _ [] _ _
  refine zn_ld rfl rfl rfl ?_
  refine zn_ld rfl rfl rfl ?_
  refine zn_putR (a := 105) (b := 3) rfl rfl rfl rfl rfl rfl rfl rfl rfl ?_
  refine zn_ld rfl rfl rfl ?_
  refine zn_ld rfl rfl rfl ?_
  refine zn_putI (a := 105) rfl rfl rfl rfl ⟨Int32.le_toInt _, Int.le_of_lt_add_one (Int32.toInt_lt _)⟩ rfl rfl rfl ?_
  replace h := h _ rfl
  refine zn_ld rfl rfl rfl ?_
  refine zn_ld rfl rfl rfl ?_
  refine zn_get (v := .ref 3) rfl (zv_C (a := 105) (n := 0) rfl rfl rfl) ?_
  refine zn_get (v := .int ((zf s2 105 9 a2).1 3 12)) rfl (zv_I (a := 3) rfl rfl) ?_
  refine zn_putI (a := 105) rfl rfl rfl rfl ⟨Int32.le_toInt _, Int.le_of_lt_add_one (Int32.toInt_lt _)⟩ rfl rfl rfl ?_
  replace h := h _ rfl
  refine zn_ld rfl rfl rfl ?_
  refine zn_c [.int 0, .ref 105] (xo_push (.int 0)) rfl rfl ?_
  refine zn_putI (a := 105) rfl rfl rfl rfl ⟨Int32.le_toInt _, Int.le_of_lt_add_one (Int32.toInt_lt _)⟩ rfl rfl rfl ?_
  replace h := h _ rfl
  refine zn_ld rfl rfl rfl ?_
  refine zn_c [.int 0, .ref 105] (xo_push (.int 0)) rfl rfl ?_
  refine zn_putI (a := 105) rfl rfl rfl rfl ⟨Int32.le_toInt _, Int.le_of_lt_add_one (Int32.toInt_lt _)⟩ rfl rfl rfl ?_
  replace h := h _ rfl
  refine zn_ld rfl rfl rfl ?_
  refine zn_get (v := .ref 111) rfl (zv_R (a := 105) rfl rfl) ?_
  refine zn_clr [] (a := 111) hd rfl rfl rfl rfl rfl ?_
  replace h := h _ rfl
  exact zn_ret0 rfl h
theorem zq_18_3 {d : Nat} {a2 : Int32} {s : zS} {Q : Option Value → zS → Prop} (h : v_18_0 (fun j => Zt (d + 8) (wd2 3 j) j) 3 a2 s Q) : Zu (d + 9) [(105, 5)] ([(75, 0, 3), (75, 1, 21), (75, 2, 25)] : zW) ([(105, 5, 3), (75, 0, 3), (75, 1, 21), (75, 2, 25)] : zW) 18 [.ref 105, .ref 3, .int a2] s Q := zu_of (E := xE_18) (L := xL_2) (ml := 3) (ret := none) rfl rfl rfl (m_18_0_3 rfl h)
set_option maxRecDepth 20000 in
theorem m_18_0_39 {d d0 : Nat} (hd : d = d0 + 8)  {a2 : Int32} {s : zS} {Q : Option Value → zS → Prop}  (h : v_18_0 (fun j => Zt d (wd2 39 j) j) 39  a2 s Q) : Zn d [(105, 5)] [(0, 111)] ([(75, 0, 39), (75, 1, 57), (75, 2, 61)] : zW) ([(105, 5, 39), (75, 0, 39), (75, 1, 57), (75, 2, 61)] : zW) xL_2 3 (none) xE_18 (xE_18.drop 0) [.ref 105, .ref 39, .int a2, .null, .null, .null] [] s Q := by
  unfold v_18_0 at h
  refine zn_ld rfl rfl rfl ?_
  refine zn_zt [.ref 105] [] rfl rfl rfl rfl rfl (Zt.imp h (fun v1 s2 h => ?_))
  obtain ⟨rfl, h⟩ := h
  change Zn _ _ _ _ _ _ _ _ _ _ _ [] _ _
  refine zn_ld rfl rfl rfl ?_
  refine zn_ld rfl rfl rfl ?_
  refine zn_putR (a := 105) (b := 39) rfl rfl rfl rfl rfl rfl rfl rfl rfl ?_
  refine zn_ld rfl rfl rfl ?_
  refine zn_ld rfl rfl rfl ?_
  refine zn_putI (a := 105) rfl rfl rfl rfl ⟨Int32.le_toInt _, Int.le_of_lt_add_one (Int32.toInt_lt _)⟩ rfl rfl rfl ?_
  replace h := h _ rfl
  refine zn_ld rfl rfl rfl ?_
  refine zn_ld rfl rfl rfl ?_
  refine zn_get (v := .ref 39) rfl (zv_C (a := 105) (n := 0) rfl rfl rfl) ?_
  refine zn_get (v := .int ((zf s2 105 9 a2).1 39 12)) rfl (zv_I (a := 39) rfl rfl) ?_
  refine zn_putI (a := 105) rfl rfl rfl rfl ⟨Int32.le_toInt _, Int.le_of_lt_add_one (Int32.toInt_lt _)⟩ rfl rfl rfl ?_
  replace h := h _ rfl
  refine zn_ld rfl rfl rfl ?_
  refine zn_c [.int 0, .ref 105] (xo_push (.int 0)) rfl rfl ?_
  refine zn_putI (a := 105) rfl rfl rfl rfl ⟨Int32.le_toInt _, Int.le_of_lt_add_one (Int32.toInt_lt _)⟩ rfl rfl rfl ?_
  replace h := h _ rfl
  refine zn_ld rfl rfl rfl ?_
  refine zn_c [.int 0, .ref 105] (xo_push (.int 0)) rfl rfl ?_
  refine zn_putI (a := 105) rfl rfl rfl rfl ⟨Int32.le_toInt _, Int.le_of_lt_add_one (Int32.toInt_lt _)⟩ rfl rfl rfl ?_
  replace h := h _ rfl
  refine zn_ld rfl rfl rfl ?_
  refine zn_get (v := .ref 111) rfl (zv_R (a := 105) rfl rfl) ?_
  refine zn_clr [] (a := 111) hd rfl rfl rfl rfl rfl ?_
  replace h := h _ rfl
  exact zn_ret0 rfl h
theorem zq_18_39 {d : Nat} {a2 : Int32} {s : zS} {Q : Option Value → zS → Prop} (h : v_18_0 (fun j => Zt (d + 8) (wd2 39 j) j) 39 a2 s Q) : Zu (d + 9) [(105, 5)] ([(75, 0, 39), (75, 1, 57), (75, 2, 61)] : zW) ([(105, 5, 39), (75, 0, 39), (75, 1, 57), (75, 2, 61)] : zW) 18 [.ref 105, .ref 39, .int a2] s Q := zu_of (E := xE_18) (L := xL_2) (ml := 3) (ret := none) rfl rfl rfl (m_18_0_39 rfl h)
theorem zc_18 {d P : Nat} (hP : P = 3 ∨ P = 39) {a2 : Int32} {s : zS} {Q : Option Value → zS → Prop} (h : v_18_0 (fun j => Zt (d + 8) (wd2 P j) j) P a2 s Q) : Zu (d + 9) [(105, 5)] [(75, 0, P), (75, 1, P + 18), (75, 2, P + 22)] [(105, 5, P), (75, 0, P), (75, 1, P + 18), (75, 2, P + 22)] 18 [.ref 105, .ref P, .int a2] s Q := by
  rcases hP with rfl | rfl
  · exact zq_18_3 h
  · exact zq_18_39 h
/-! FeatherBench.run -/
def v_142_9 (T : Nat → List Value → zS → (Option Value → zS → Prop) → Prop) (P : Nat) (dz : Nat)  (a1 : Int32) (s : zS) (Q : Option Value → zS → Prop) : Prop :=
  Q (some (.int (-1))) s
def v_142_0 (T : Nat → List Value → zS → (Option Value → zS → Prop) → Prop) (P : Nat) (dz : Nat)  (a1 : Int32) (s : zS) (Q : Option Value → zS → Prop) : Prop :=
  ((s.1 0 11).toInt = 0 → v_142_9 T P dz  a1 s Q) ∧ (¬ ((s.1 0 11).toInt = 0) → (a1.toInt < 1 → v_142_9 T P dz  a1 s Q) ∧ (¬ (a1.toInt < 1) → (a1.toInt ≤ 5000 → Zu dz [(75, 0), (75, 1), (75, 2)] [] [(75, 2, P + 22), (75, 1, P + 18), (75, 0, P)] 81 [.ref 75, .ref P, .int 4218] s (fun v1 s2 => v1 = none ∧ (∀ x3 : Int32, (-2147483648 ≤ 60000 - (s2.1 0 12).toInt ∧ 60000 - (s2.1 0 12).toInt ≤ 2147483647 → x3.toInt = 60000 - (s2.1 0 12).toInt) → ∀ x4 : Int32, x4.toInt = min a1.toInt x3.toInt → Zu dz [(105, 5)] [(75, 0, P), (75, 1, P + 18), (75, 2, P + 22)] [(105, 5, P), (75, 0, P), (75, 1, P + 18), (75, 2, P + 22)] 18 [.ref 105, .ref P, .int x4] s2 (fun v5 s6 => v5 = none ∧ (T 19 [.ref 105] s6 (fun v7 s8 => v7 = none ∧ (∀ x9 : Int32, (-2147483648 ≤ (s8.1 0 12).toInt + (s8.1 105 10).toInt ∧ (s8.1 0 12).toInt + (s8.1 105 10).toInt ≤ 2147483647 → x9.toInt = (s8.1 0 12).toInt + (s8.1 105 10).toInt) → ∀ s10, s10 = zf s8 0 12 x9 → Q (some (.int (s10.1 105 13))) s10))))))) ∧ (¬ (a1.toInt ≤ 5000) → v_142_9 T P dz  a1 s Q)))
set_option maxRecDepth 20000 in
theorem m_142_9_3 {d d0 : Nat} (hd : d = d0 + 8)  {a1 : Int32} {s : zS} {Q : Option Value → zS → Prop}  (h : v_142_9 (fun j => Zt d (wd2 3 j) j) 3 d  a1 s Q) : Zn d [(75, 0), (75, 1), (75, 2), (105, 5)] [(3, 98), (0, 111)] ([(0, 9, 3)] : zW) ([] : zW) xL_11 2 (some .int) xE_142 (xE_142.drop 9) [.ref 0, .int a1, .null, .null] [] s Q := by
  unfold v_142_9 at h
  refine zn_c [.int (-1)] (xo_push (.int (-1))) rfl rfl ?_
  refine zn_wk (c := []) rfl ?_
  exact zn_retI rfl h
set_option maxRecDepth 20000 in
theorem m_142_0_3 {d d0 : Nat} (hd : d = d0 + 8)  {a1 : Int32} {s : zS} {Q : Option Value → zS → Prop}  (h : v_142_0 (fun j => Zt d (wd2 3 j) j) 3 d  a1 s Q) : Zn d [(75, 0), (75, 1), (75, 2), (105, 5)] [(3, 98), (0, 111)] ([(0, 9, 3)] : zW) ([] : zW) xL_11 2 (some .int) xE_142 (xE_142.drop 0) [.ref 0, .int a1, .null, .null] [] s Q := by
  unfold v_142_0 at h
  refine zn_ld rfl rfl rfl ?_
  refine zn_get (v := .int (s.1 0 11)) rfl (zv_I (a := 0) rfl rfl) ?_
  refine zn_brP rfl rfl ⟨fun hcn => ?_, fun hcn => ?_⟩
  · replace h := h.1 ((i_eq (x := s.1 0 11) (y := 0) rfl (show (0 : Int32).toInt = 0 by decide)).mp hcn)
    exact m_142_9_3 hd  h
  · replace h := h.2 (fun q => hcn ((i_eq (x := s.1 0 11) (y := 0) rfl (show (0 : Int32).toInt = 0 by decide)).mpr q))
    refine zn_ld rfl rfl rfl ?_
    refine zn_c [.int 1, .int a1] (xo_push (.int 1)) rfl rfl ?_
    refine zn_brP rfl rfl ⟨fun hcn => ?_, fun hcn => ?_⟩
    · replace h := h.1 ((i_lt (x := a1) (y := 1) rfl (show (1 : Int32).toInt = 1 by decide)).mp hcn)
      exact m_142_9_3 hd  h
    · replace h := h.2 (fun q => hcn ((i_lt (x := a1) (y := 1) rfl (show (1 : Int32).toInt = 1 by decide)).mpr q))
      refine zn_ld rfl rfl rfl ?_
      refine zn_c [.int 5000, .int a1] (xo_push (.int 5000)) rfl rfl ?_
      refine zn_brP rfl rfl ⟨fun hcn => ?_, fun hcn => ?_⟩
      · replace h := h.1 ((i_le (x := a1) (y := 5000) rfl (show (5000 : Int32).toInt = 5000 by decide)).mp hcn)
        refine zn_ld rfl rfl rfl ?_
        refine zn_get (v := .ref 75) rfl (zv_R (a := 0) rfl rfl) ?_
        refine zn_ld rfl rfl rfl ?_
        refine zn_get (v := .ref 3) rfl (zv_C (a := 0) (n := 0) rfl rfl rfl) ?_
        refine zn_c [.int 4218, .ref 3, .ref 75] (xo_push (.int 4218)) rfl rfl ?_
        refine zn_zu [.ref 75, .ref 3, .int 4218] [] (c := ([] : zW)) (c' := ([(75, 2, 25), (75, 1, 21), (75, 0, 3)] : zW)) (w1 := ([(0, 9, 3)] : zW)) rfl rfl rfl rfl rfl rfl rfl (Zu.imp h (fun v1 s2 h => ?_))
        obtain ⟨rfl, h⟩ := h
        change Zn _ _ _ _ _ _ _ _ _ _ _ [] _ _
        refine zn_ld rfl rfl rfl ?_
        refine zn_get (v := .ref 105) rfl (zv_R (a := 0) rfl rfl) ?_
        refine zn_ld rfl rfl rfl ?_
        refine zn_get (v := .ref 3) rfl (zv_C (a := 0) (n := 3) rfl rfl rfl) ?_
        refine zn_ld rfl rfl rfl ?_
        refine zn_c [.int 60000, .int a1, .ref 3, .ref 105] (xo_push (.int 60000)) rfl rfl ?_
        refine zn_ld rfl rfl rfl ?_
        refine zn_get (v := .int (s2.1 0 12)) rfl (zv_I (a := 0) rfl rfl) ?_
        replace h := h _ (i_sub (x := 60000) (y := s2.1 0 12) (show (60000 : Int32).toInt = 60000 by decide) rfl)
        refine zn_c [.int (60000 - (s2.1 0 12)), .int a1, .ref 3, .ref 105] xo_isub rfl rfl ?_
        refine zn_step (f := xMn) (st' := [.int (if (60000 - (s2.1 0 12)) < a1 then (60000 - (s2.1 0 12)) else a1), .ref 3, .ref 105]) rfl (fun l => l) (fun _ h => h) (fun hh loc cs sl _ _ _ => rmn (Nat.le_of_ble_eq_true rfl)) ?_
        replace h := h (if (60000 - (s2.1 0 12)) < a1 then (60000 - (s2.1 0 12)) else a1) (i_mn a1 (60000 - (s2.1 0 12)))
        refine zn_zu [.ref 105, .ref 3, .int (if (60000 - (s2.1 0 12)) < a1 then (60000 - (s2.1 0 12)) else a1)] [] (c := ([(75, 0, 3), (75, 1, 21), (75, 2, 25)] : zW)) (c' := ([(105, 5, 3), (75, 0, 3), (75, 1, 21), (75, 2, 25)] : zW)) (w1 := ([(75, 2, 25), (75, 1, 21), (75, 0, 3), (0, 9, 3)] : zW)) rfl rfl rfl rfl rfl rfl rfl (Zu.imp h (fun v5 s6 h => ?_))
        obtain ⟨rfl, h⟩ := h
        change Zn _ _ _ _ _ _ _ _ _ _ _ [] _ _
        refine zn_ld rfl rfl rfl ?_
        refine zn_get (v := .ref 105) rfl (zv_R (a := 0) rfl rfl) ?_
        refine zn_zt [.ref 105] [] rfl rfl rfl rfl rfl (Zt.imp h (fun v7 s8 h => ?_))
        obtain ⟨rfl, h⟩ := h
        change Zn _ _ _ _ _ _ _ _ _ _ _ [] _ _
        refine zn_ld rfl rfl rfl ?_
        refine zn_c [.ref 0, .ref 0] xo_dup rfl rfl ?_
        refine zn_get (v := .int (s8.1 0 12)) rfl (zv_I (a := 0) rfl rfl) ?_
        refine zn_ld rfl rfl rfl ?_
        refine zn_get (v := .ref 105) rfl (zv_R (a := 0) rfl rfl) ?_
        refine zn_get (v := .int (s8.1 105 10)) rfl (zv_I (a := 105) rfl rfl) ?_
        replace h := h _ (i_add (x := s8.1 0 12) (y := s8.1 105 10) rfl rfl)
        refine zn_c [.int ((s8.1 0 12) + (s8.1 105 10)), .ref 0] xo_iadd rfl rfl ?_
        refine zn_putI (a := 0) rfl rfl rfl rfl ⟨Int32.le_toInt _, Int.le_of_lt_add_one (Int32.toInt_lt _)⟩ rfl rfl rfl ?_
        replace h := h _ rfl
        refine zn_ld rfl rfl rfl ?_
        refine zn_get (v := .ref 105) rfl (zv_R (a := 0) rfl rfl) ?_
        refine zn_get (v := .int ((zf s8 0 12 ((s8.1 0 12) + (s8.1 105 10))).1 105 13)) rfl (zv_I (a := 105) rfl rfl) ?_
        refine zn_wk (c := []) rfl ?_
        exact zn_retI rfl h
      · replace h := h.2 (fun q => hcn ((i_le (x := a1) (y := 5000) rfl (show (5000 : Int32).toInt = 5000 by decide)).mpr q))
        exact m_142_9_3 hd  h
theorem zq_142_3 {d : Nat} {a1 : Int32} {s : zS} {Q : Option Value → zS → Prop} (h : v_142_0 (fun j => Zt (d + 8) (wd2 3 j) j) 3 (d + 8) a1 s Q) : Zu (d + 9) [(75, 0), (75, 1), (75, 2), (105, 5)] ([(0, 9, 3)] : zW) ([] : zW) 142 [.ref 0, .int a1] s Q := zu_of (E := xE_142) (L := xL_11) (ml := 2) (ret := some .int) rfl rfl rfl (m_142_0_3 rfl h)
set_option maxRecDepth 20000 in
theorem m_142_9_39 {d d0 : Nat} (hd : d = d0 + 8)  {a1 : Int32} {s : zS} {Q : Option Value → zS → Prop}  (h : v_142_9 (fun j => Zt d (wd2 39 j) j) 39 d  a1 s Q) : Zn d [(75, 0), (75, 1), (75, 2), (105, 5)] [(39, 98), (0, 111)] ([(0, 9, 39)] : zW) ([] : zW) xL_11 2 (some .int) xE_142 (xE_142.drop 9) [.ref 0, .int a1, .null, .null] [] s Q := by
  unfold v_142_9 at h
  refine zn_c [.int (-1)] (xo_push (.int (-1))) rfl rfl ?_
  refine zn_wk (c := []) rfl ?_
  exact zn_retI rfl h
set_option maxRecDepth 20000 in
theorem m_142_0_39 {d d0 : Nat} (hd : d = d0 + 8)  {a1 : Int32} {s : zS} {Q : Option Value → zS → Prop}  (h : v_142_0 (fun j => Zt d (wd2 39 j) j) 39 d  a1 s Q) : Zn d [(75, 0), (75, 1), (75, 2), (105, 5)] [(39, 98), (0, 111)] ([(0, 9, 39)] : zW) ([] : zW) xL_11 2 (some .int) xE_142 (xE_142.drop 0) [.ref 0, .int a1, .null, .null] [] s Q := by
  unfold v_142_0 at h
  refine zn_ld rfl rfl rfl ?_
  refine zn_get (v := .int (s.1 0 11)) rfl (zv_I (a := 0) rfl rfl) ?_
  refine zn_brP rfl rfl ⟨fun hcn => ?_, fun hcn => ?_⟩
  · replace h := h.1 ((i_eq (x := s.1 0 11) (y := 0) rfl (show (0 : Int32).toInt = 0 by decide)).mp hcn)
    exact m_142_9_39 hd  h
  · replace h := h.2 (fun q => hcn ((i_eq (x := s.1 0 11) (y := 0) rfl (show (0 : Int32).toInt = 0 by decide)).mpr q))
    refine zn_ld rfl rfl rfl ?_
    refine zn_c [.int 1, .int a1] (xo_push (.int 1)) rfl rfl ?_
    refine zn_brP rfl rfl ⟨fun hcn => ?_, fun hcn => ?_⟩
    · replace h := h.1 ((i_lt (x := a1) (y := 1) rfl (show (1 : Int32).toInt = 1 by decide)).mp hcn)
      exact m_142_9_39 hd  h
    · replace h := h.2 (fun q => hcn ((i_lt (x := a1) (y := 1) rfl (show (1 : Int32).toInt = 1 by decide)).mpr q))
      refine zn_ld rfl rfl rfl ?_
      refine zn_c [.int 5000, .int a1] (xo_push (.int 5000)) rfl rfl ?_
      refine zn_brP rfl rfl ⟨fun hcn => ?_, fun hcn => ?_⟩
      · replace h := h.1 ((i_le (x := a1) (y := 5000) rfl (show (5000 : Int32).toInt = 5000 by decide)).mp hcn)
        refine zn_ld rfl rfl rfl ?_
        refine zn_get (v := .ref 75) rfl (zv_R (a := 0) rfl rfl) ?_
        refine zn_ld rfl rfl rfl ?_
        refine zn_get (v := .ref 39) rfl (zv_C (a := 0) (n := 0) rfl rfl rfl) ?_
        refine zn_c [.int 4218, .ref 39, .ref 75] (xo_push (.int 4218)) rfl rfl ?_
        refine zn_zu [.ref 75, .ref 39, .int 4218] [] (c := ([] : zW)) (c' := ([(75, 2, 61), (75, 1, 57), (75, 0, 39)] : zW)) (w1 := ([(0, 9, 39)] : zW)) rfl rfl rfl rfl rfl rfl rfl (Zu.imp h (fun v1 s2 h => ?_))
        obtain ⟨rfl, h⟩ := h
        change Zn _ _ _ _ _ _ _ _ _ _ _ [] _ _
        refine zn_ld rfl rfl rfl ?_
        refine zn_get (v := .ref 105) rfl (zv_R (a := 0) rfl rfl) ?_
        refine zn_ld rfl rfl rfl ?_
        refine zn_get (v := .ref 39) rfl (zv_C (a := 0) (n := 3) rfl rfl rfl) ?_
        refine zn_ld rfl rfl rfl ?_
        refine zn_c [.int 60000, .int a1, .ref 39, .ref 105] (xo_push (.int 60000)) rfl rfl ?_
        refine zn_ld rfl rfl rfl ?_
        refine zn_get (v := .int (s2.1 0 12)) rfl (zv_I (a := 0) rfl rfl) ?_
        replace h := h _ (i_sub (x := 60000) (y := s2.1 0 12) (show (60000 : Int32).toInt = 60000 by decide) rfl)
        refine zn_c [.int (60000 - (s2.1 0 12)), .int a1, .ref 39, .ref 105] xo_isub rfl rfl ?_
        refine zn_step (f := xMn) (st' := [.int (if (60000 - (s2.1 0 12)) < a1 then (60000 - (s2.1 0 12)) else a1), .ref 39, .ref 105]) rfl (fun l => l) (fun _ h => h) (fun hh loc cs sl _ _ _ => rmn (Nat.le_of_ble_eq_true rfl)) ?_
        replace h := h (if (60000 - (s2.1 0 12)) < a1 then (60000 - (s2.1 0 12)) else a1) (i_mn a1 (60000 - (s2.1 0 12)))
        refine zn_zu [.ref 105, .ref 39, .int (if (60000 - (s2.1 0 12)) < a1 then (60000 - (s2.1 0 12)) else a1)] [] (c := ([(75, 0, 39), (75, 1, 57), (75, 2, 61)] : zW)) (c' := ([(105, 5, 39), (75, 0, 39), (75, 1, 57), (75, 2, 61)] : zW)) (w1 := ([(75, 2, 61), (75, 1, 57), (75, 0, 39), (0, 9, 39)] : zW)) rfl rfl rfl rfl rfl rfl rfl (Zu.imp h (fun v5 s6 h => ?_))
        obtain ⟨rfl, h⟩ := h
        change Zn _ _ _ _ _ _ _ _ _ _ _ [] _ _
        refine zn_ld rfl rfl rfl ?_
        refine zn_get (v := .ref 105) rfl (zv_R (a := 0) rfl rfl) ?_
        refine zn_zt [.ref 105] [] rfl rfl rfl rfl rfl (Zt.imp h (fun v7 s8 h => ?_))
        obtain ⟨rfl, h⟩ := h
        change Zn _ _ _ _ _ _ _ _ _ _ _ [] _ _
        refine zn_ld rfl rfl rfl ?_
        refine zn_c [.ref 0, .ref 0] xo_dup rfl rfl ?_
        refine zn_get (v := .int (s8.1 0 12)) rfl (zv_I (a := 0) rfl rfl) ?_
        refine zn_ld rfl rfl rfl ?_
        refine zn_get (v := .ref 105) rfl (zv_R (a := 0) rfl rfl) ?_
        refine zn_get (v := .int (s8.1 105 10)) rfl (zv_I (a := 105) rfl rfl) ?_
        replace h := h _ (i_add (x := s8.1 0 12) (y := s8.1 105 10) rfl rfl)
        refine zn_c [.int ((s8.1 0 12) + (s8.1 105 10)), .ref 0] xo_iadd rfl rfl ?_
        refine zn_putI (a := 0) rfl rfl rfl rfl ⟨Int32.le_toInt _, Int.le_of_lt_add_one (Int32.toInt_lt _)⟩ rfl rfl rfl ?_
        replace h := h _ rfl
        refine zn_ld rfl rfl rfl ?_
        refine zn_get (v := .ref 105) rfl (zv_R (a := 0) rfl rfl) ?_
        refine zn_get (v := .int ((zf s8 0 12 ((s8.1 0 12) + (s8.1 105 10))).1 105 13)) rfl (zv_I (a := 105) rfl rfl) ?_
        refine zn_wk (c := []) rfl ?_
        exact zn_retI rfl h
      · replace h := h.2 (fun q => hcn ((i_le (x := a1) (y := 5000) rfl (show (5000 : Int32).toInt = 5000 by decide)).mpr q))
        exact m_142_9_39 hd  h
theorem zq_142_39 {d : Nat} {a1 : Int32} {s : zS} {Q : Option Value → zS → Prop} (h : v_142_0 (fun j => Zt (d + 8) (wd2 39 j) j) 39 (d + 8) a1 s Q) : Zu (d + 9) [(75, 0), (75, 1), (75, 2), (105, 5)] ([(0, 9, 39)] : zW) ([] : zW) 142 [.ref 0, .int a1] s Q := zu_of (E := xE_142) (L := xL_11) (ml := 2) (ret := some .int) rfl rfl rfl (m_142_0_39 rfl h)
theorem zc_142 {d P : Nat} (hP : P = 3 ∨ P = 39) {a1 : Int32} {s : zS} {Q : Option Value → zS → Prop} (h : v_142_0 (fun j => Zt (d + 8) (wd2 P j) j) P (d + 8) a1 s Q) : Zu (d + 9) [(75, 0), (75, 1), (75, 2), (105, 5)] [(0, 9, P)] [] 142 [.ref 0, .int a1] s Q := by
  rcases hP with rfl | rfl
  · exact zq_142_3 h
  · exact zq_142_39 h
/-! FeatherBench.made -/
def v_146_0 (T : Nat → List Value → zS → (Option Value → zS → Prop) → Prop) (P : Nat)  (a1 : Int32) (s : zS) (Q : Option Value → zS → Prop) : Prop :=
  (¬ ((s.1 197 9).toInt = 0) → (¬ Int32.toInt a1 = 0 ∧ ¬ Int32.toInt a1 = 1 ∧ ¬ Int32.toInt a1 = 2 → Q (some (.int (-1))) s) ∧ (Int32.toInt a1 = 0 → Q (some (.int (s.1 198 2))) s) ∧ (Int32.toInt a1 = 1 → T 95 [.ref 197] s (fun v1 s2 => ∃ x3, v1 = some (.int x3) ∧ (Q (some (.int x3)) s2))) ∧ (Int32.toInt a1 = 2 → T 96 [.ref 197] s (fun v4 s5 => ∃ x6, v4 = some (.int x6) ∧ (Q (some (.int x6)) s5)))) ∧ ((s.1 197 9).toInt = 0 → Q (some (.int (-1))) s)
set_option maxRecDepth 20000 in
theorem m_146_0_3 {d d0 : Nat} (hd : d = d0 + 8)  {a1 : Int32} {s : zS} {Q : Option Value → zS → Prop}  (h : v_146_0 (fun j => Zt d (wd2 3 j) j) 3  a1 s Q) : Zn d [] [] ([(0, 9, 3)] : zW) ([] : zW) xL_11 2 (some .int) xE_146 (xE_146.drop 0) [.ref 0, .int a1, .null, .null] [] s Q := by
  unfold v_146_0 at h
  refine zn_ld rfl rfl rfl ?_
  refine zn_get (v := .ref 197) rfl (zv_R (a := 0) rfl rfl) ?_
  refine zn_get (v := .int (s.1 197 9)) rfl (zv_I (a := 197) rfl rfl) ?_
  refine zn_brN rfl rfl ⟨fun hcn => ?_, fun hcn => ?_⟩
  · replace h := h.1 (fun q => hcn ((i_eq (x := s.1 197 9) (y := 0) rfl (show (0 : Int32).toInt = 0 by decide)).mpr q))
    refine zn_ld rfl rfl rfl ?_
    by_cases hx : Int32.toInt a1 = 0 ∨ Int32.toInt a1 = 1 ∨ Int32.toInt a1 = 2
    · rcases hx with hy | hy | hy
      · refine zn_sw ?_
        refine ⟨8, by rw [if_neg (by omega), hy]; rfl, ?_⟩
        replace h := h.2.1 hy
        refine zn_ld rfl rfl rfl ?_
        refine zn_get (v := .ref 197) rfl (zv_R (a := 0) rfl rfl) ?_
        refine zn_get (v := .ref 198) rfl (zv_R (a := 197) rfl rfl) ?_
        refine zn_get (v := .int (s.1 198 2)) rfl (zv_I (a := 198) rfl rfl) ?_
        refine zn_wk (c := []) rfl ?_
        exact zn_retI rfl h
      · refine zn_sw ?_
        refine ⟨13, by rw [if_neg (by omega), hy]; rfl, ?_⟩
        replace h := h.2.2.1 hy
        refine zn_ld rfl rfl rfl ?_
        refine zn_get (v := .ref 197) rfl (zv_R (a := 0) rfl rfl) ?_
        refine zn_zt [.ref 197] [] rfl rfl rfl rfl rfl (Zt.imp h (fun v1 s2 h => ?_))
        obtain ⟨x3, rfl, h⟩ := h
        change Zn _ _ _ _ _ _ _ _ _ _ _ [.int x3] _ _
        refine zn_wk (c := []) rfl ?_
        exact zn_retI rfl h
      · refine zn_sw ?_
        refine ⟨17, by rw [if_neg (by omega), hy]; rfl, ?_⟩
        replace h := h.2.2.2 hy
        refine zn_ld rfl rfl rfl ?_
        refine zn_get (v := .ref 197) rfl (zv_R (a := 0) rfl rfl) ?_
        refine zn_zt [.ref 197] [] rfl rfl rfl rfl rfl (Zt.imp h (fun v4 s5 h => ?_))
        obtain ⟨x6, rfl, h⟩ := h
        change Zn _ _ _ _ _ _ _ _ _ _ _ [.int x6] _ _
        refine zn_wk (c := []) rfl ?_
        exact zn_retI rfl h
    · have hy : ¬ Int32.toInt a1 = 0 ∧ ¬ Int32.toInt a1 = 1 ∧ ¬ Int32.toInt a1 = 2 := by omega
      replace h := h.1 hy
      by_cases hz : Int32.toInt a1 < 0 ∨ 2 < Int32.toInt a1
      · refine zn_sw ?_
        refine ⟨21, by rw [if_pos hz]; rfl, ?_⟩
        refine zn_c [.int (-1)] (xo_push (.int (-1))) rfl rfl ?_
        refine zn_wk (c := []) rfl ?_
        exact zn_retI rfl h
      · omega
  · replace h := h.2 ((i_eq (x := s.1 197 9) (y := 0) rfl (show (0 : Int32).toInt = 0 by decide)).mp hcn)
    refine zn_c [.int (-1)] (xo_push (.int (-1))) rfl rfl ?_
    refine zn_wk (c := []) rfl ?_
    exact zn_retI rfl h
theorem zq_146_3 {d : Nat} {a1 : Int32} {s : zS} {Q : Option Value → zS → Prop} (h : v_146_0 (fun j => Zt (d + 8) (wd2 3 j) j) 3 a1 s Q) : Zu (d + 9) [] ([(0, 9, 3)] : zW) ([] : zW) 146 [.ref 0, .int a1] s Q := zu_of (E := xE_146) (L := xL_11) (ml := 2) (ret := some .int) rfl rfl rfl (m_146_0_3 rfl h)
set_option maxRecDepth 20000 in
theorem m_146_0_39 {d d0 : Nat} (hd : d = d0 + 8)  {a1 : Int32} {s : zS} {Q : Option Value → zS → Prop}  (h : v_146_0 (fun j => Zt d (wd2 39 j) j) 39  a1 s Q) : Zn d [] [] ([(0, 9, 39)] : zW) ([] : zW) xL_11 2 (some .int) xE_146 (xE_146.drop 0) [.ref 0, .int a1, .null, .null] [] s Q := by
  unfold v_146_0 at h
  refine zn_ld rfl rfl rfl ?_
  refine zn_get (v := .ref 197) rfl (zv_R (a := 0) rfl rfl) ?_
  refine zn_get (v := .int (s.1 197 9)) rfl (zv_I (a := 197) rfl rfl) ?_
  refine zn_brN rfl rfl ⟨fun hcn => ?_, fun hcn => ?_⟩
  · replace h := h.1 (fun q => hcn ((i_eq (x := s.1 197 9) (y := 0) rfl (show (0 : Int32).toInt = 0 by decide)).mpr q))
    refine zn_ld rfl rfl rfl ?_
    by_cases hx : Int32.toInt a1 = 0 ∨ Int32.toInt a1 = 1 ∨ Int32.toInt a1 = 2
    · rcases hx with hy | hy | hy
      · refine zn_sw ?_
        refine ⟨8, by rw [if_neg (by omega), hy]; rfl, ?_⟩
        replace h := h.2.1 hy
        refine zn_ld rfl rfl rfl ?_
        refine zn_get (v := .ref 197) rfl (zv_R (a := 0) rfl rfl) ?_
        refine zn_get (v := .ref 198) rfl (zv_R (a := 197) rfl rfl) ?_
        refine zn_get (v := .int (s.1 198 2)) rfl (zv_I (a := 198) rfl rfl) ?_
        refine zn_wk (c := []) rfl ?_
        exact zn_retI rfl h
      · refine zn_sw ?_
        refine ⟨13, by rw [if_neg (by omega), hy]; rfl, ?_⟩
        replace h := h.2.2.1 hy
        refine zn_ld rfl rfl rfl ?_
        refine zn_get (v := .ref 197) rfl (zv_R (a := 0) rfl rfl) ?_
        refine zn_zt [.ref 197] [] rfl rfl rfl rfl rfl (Zt.imp h (fun v1 s2 h => ?_))
        obtain ⟨x3, rfl, h⟩ := h
        change Zn _ _ _ _ _ _ _ _ _ _ _ [.int x3] _ _
        refine zn_wk (c := []) rfl ?_
        exact zn_retI rfl h
      · refine zn_sw ?_
        refine ⟨17, by rw [if_neg (by omega), hy]; rfl, ?_⟩
        replace h := h.2.2.2 hy
        refine zn_ld rfl rfl rfl ?_
        refine zn_get (v := .ref 197) rfl (zv_R (a := 0) rfl rfl) ?_
        refine zn_zt [.ref 197] [] rfl rfl rfl rfl rfl (Zt.imp h (fun v4 s5 h => ?_))
        obtain ⟨x6, rfl, h⟩ := h
        change Zn _ _ _ _ _ _ _ _ _ _ _ [.int x6] _ _
        refine zn_wk (c := []) rfl ?_
        exact zn_retI rfl h
    · have hy : ¬ Int32.toInt a1 = 0 ∧ ¬ Int32.toInt a1 = 1 ∧ ¬ Int32.toInt a1 = 2 := by omega
      replace h := h.1 hy
      by_cases hz : Int32.toInt a1 < 0 ∨ 2 < Int32.toInt a1
      · refine zn_sw ?_
        refine ⟨21, by rw [if_pos hz]; rfl, ?_⟩
        refine zn_c [.int (-1)] (xo_push (.int (-1))) rfl rfl ?_
        refine zn_wk (c := []) rfl ?_
        exact zn_retI rfl h
      · omega
  · replace h := h.2 ((i_eq (x := s.1 197 9) (y := 0) rfl (show (0 : Int32).toInt = 0 by decide)).mp hcn)
    refine zn_c [.int (-1)] (xo_push (.int (-1))) rfl rfl ?_
    refine zn_wk (c := []) rfl ?_
    exact zn_retI rfl h
theorem zq_146_39 {d : Nat} {a1 : Int32} {s : zS} {Q : Option Value → zS → Prop} (h : v_146_0 (fun j => Zt (d + 8) (wd2 39 j) j) 39 a1 s Q) : Zu (d + 9) [] ([(0, 9, 39)] : zW) ([] : zW) 146 [.ref 0, .int a1] s Q := zu_of (E := xE_146) (L := xL_11) (ml := 2) (ret := some .int) rfl rfl rfl (m_146_0_39 rfl h)
theorem zc_146 {d P : Nat} (hP : P = 3 ∨ P = 39) {a1 : Int32} {s : zS} {Q : Option Value → zS → Prop} (h : v_146_0 (fun j => Zt (d + 8) (wd2 P j) j) P a1 s Q) : Zu (d + 9) [] [(0, 9, P)] [] 146 [.ref 0, .int a1] s Q := by
  rcases hP with rfl | rfl
  · exact zq_146_3 h
  · exact zq_146_39 h
/-! FeatherBench.instances -/
def v_145_20 (T : Nat → List Value → zS → (Option Value → zS → Prop) → Prop) (P : Nat) (dz : Nat)   (s : zS) (Q : Option Value → zS → Prop) : Prop :=
  Zu dz [] [(0, 9, P)] [] 146 [.ref 0, .int 2] s (fun v1 s2 => ∃ x3, v1 = some (.int x3) ∧ (Q (some (.int x3)) s2))
def v_145_0 (T : Nat → List Value → zS → (Option Value → zS → Prop) → Prop) (P : Nat) (dz : Nat)   (s : zS) (Q : Option Value → zS → Prop) : Prop :=
  (¬ ((s.1 0 11).toInt = 0) → (¬ ((s.1 197 8).toInt = 0) → v_145_20 T P dz   s Q) ∧ ((s.1 197 8).toInt = 0 → Zu dz [(75, 0), (75, 1), (75, 2)] [] [(75, 2, P + 22), (75, 1, P + 18), (75, 0, P)] 81 [.ref 75, .ref P, .int 18] s (fun v1 s2 => v1 = none ∧ (Zu dz [(197, 5), (197, 6)] [(75, 0, P), (75, 1, P + 18), (75, 2, P + 22)] [(197, 6, P + 18), (197, 5, P), (75, 0, P), (75, 1, P + 18), (75, 2, P + 22)] 97 [.ref 197, .ref P] s2 (fun v3 s4 => v3 = none ∧ (v_145_20 T P dz   s4 Q)))))) ∧ ((s.1 0 11).toInt = 0 → Q (some (.int (-1))) s)
set_option maxRecDepth 20000 in
theorem m_145_20_3 {d d0 : Nat} (hd : d = d0 + 8)   {s : zS} {Q : Option Value → zS → Prop}  (h : v_145_20 (fun j => Zt d (wd2 3 j) j) 3 d   s Q) : Zn d [(75, 0), (75, 1), (75, 2), (197, 5), (197, 6)] [(3, 98), (0, 198)] ([(0, 9, 3)] : zW) ([] : zW) xL_11 1 (some .int) xE_145 (xE_145.drop 20) [.ref 0, .null] [] s Q := by
  unfold v_145_20 at h
  refine zn_ld rfl rfl rfl ?_
  refine zn_c [.int 2, .ref 0] (xo_push (.int 2)) rfl rfl ?_
  refine zn_zu [.ref 0, .int 2] [] (c := ([(0, 9, 3)] : zW)) (c' := ([] : zW)) (w1 := ([(0, 9, 3)] : zW)) rfl rfl rfl rfl rfl rfl rfl (Zu.imp h (fun v1 s2 h => ?_))
  obtain ⟨x3, rfl, h⟩ := h
  change Zn _ _ _ _ _ _ _ _ _ _ _ [.int x3] _ _
  refine zn_wk (c := []) rfl ?_
  exact zn_retI rfl h
set_option maxRecDepth 20000 in
theorem m_145_0_3 {d d0 : Nat} (hd : d = d0 + 8)   {s : zS} {Q : Option Value → zS → Prop}  (h : v_145_0 (fun j => Zt d (wd2 3 j) j) 3 d   s Q) : Zn d [(75, 0), (75, 1), (75, 2), (197, 5), (197, 6)] [(3, 98), (0, 198)] ([(0, 9, 3)] : zW) ([] : zW) xL_11 1 (some .int) xE_145 (xE_145.drop 0) [.ref 0, .null] [] s Q := by
  unfold v_145_0 at h
  refine zn_ld rfl rfl rfl ?_
  refine zn_get (v := .int (s.1 0 11)) rfl (zv_I (a := 0) rfl rfl) ?_
  refine zn_brN rfl rfl ⟨fun hcn => ?_, fun hcn => ?_⟩
  · replace h := h.1 (fun q => hcn ((i_eq (x := s.1 0 11) (y := 0) rfl (show (0 : Int32).toInt = 0 by decide)).mpr q))
    refine zn_ld rfl rfl rfl ?_
    refine zn_get (v := .ref 197) rfl (zv_R (a := 0) rfl rfl) ?_
    refine zn_get (v := .int (s.1 197 8)) rfl (zv_I (a := 197) rfl rfl) ?_
    refine zn_brN rfl rfl ⟨fun hcn => ?_, fun hcn => ?_⟩
    · replace h := h.1 (fun q => hcn ((i_eq (x := s.1 197 8) (y := 0) rfl (show (0 : Int32).toInt = 0 by decide)).mpr q))
      exact m_145_20_3 hd  h
    · replace h := h.2 ((i_eq (x := s.1 197 8) (y := 0) rfl (show (0 : Int32).toInt = 0 by decide)).mp hcn)
      refine zn_ld rfl rfl rfl ?_
      refine zn_get (v := .ref 75) rfl (zv_R (a := 0) rfl rfl) ?_
      refine zn_ld rfl rfl rfl ?_
      refine zn_get (v := .ref 3) rfl (zv_C (a := 0) (n := 0) rfl rfl rfl) ?_
      refine zn_c [.int 18, .ref 3, .ref 75] (xo_push (.int 18)) rfl rfl ?_
      refine zn_zu [.ref 75, .ref 3, .int 18] [] (c := ([] : zW)) (c' := ([(75, 2, 25), (75, 1, 21), (75, 0, 3)] : zW)) (w1 := ([(0, 9, 3)] : zW)) rfl rfl rfl rfl rfl rfl rfl (Zu.imp h (fun v1 s2 h => ?_))
      obtain ⟨rfl, h⟩ := h
      change Zn _ _ _ _ _ _ _ _ _ _ _ [] _ _
      refine zn_ld rfl rfl rfl ?_
      refine zn_get (v := .ref 197) rfl (zv_R (a := 0) rfl rfl) ?_
      refine zn_ld rfl rfl rfl ?_
      refine zn_get (v := .ref 3) rfl (zv_C (a := 0) (n := 3) rfl rfl rfl) ?_
      refine zn_zu [.ref 197, .ref 3] [] (c := ([(75, 0, 3), (75, 1, 21), (75, 2, 25)] : zW)) (c' := ([(197, 6, 21), (197, 5, 3), (75, 0, 3), (75, 1, 21), (75, 2, 25)] : zW)) (w1 := ([(75, 2, 25), (75, 1, 21), (75, 0, 3), (0, 9, 3)] : zW)) rfl rfl rfl rfl rfl rfl rfl (Zu.imp h (fun v3 s4 h => ?_))
      obtain ⟨rfl, h⟩ := h
      change Zn _ _ _ _ _ _ _ _ _ _ _ [] _ _
      refine zn_wk (c := ([(0, 9, 3)] : zW)) rfl ?_
      exact m_145_20_3 hd  h
  · replace h := h.2 ((i_eq (x := s.1 0 11) (y := 0) rfl (show (0 : Int32).toInt = 0 by decide)).mp hcn)
    refine zn_c [.int (-1)] (xo_push (.int (-1))) rfl rfl ?_
    refine zn_wk (c := []) rfl ?_
    exact zn_retI rfl h
theorem zq_145_3 {d : Nat}  {s : zS} {Q : Option Value → zS → Prop} (h : v_145_0 (fun j => Zt (d + 8) (wd2 3 j) j) 3 (d + 8)  s Q) : Zu (d + 9) [(75, 0), (75, 1), (75, 2), (197, 5), (197, 6)] ([(0, 9, 3)] : zW) ([] : zW) 145 [.ref 0] s Q := zu_of (E := xE_145) (L := xL_11) (ml := 1) (ret := some .int) rfl rfl rfl (m_145_0_3 rfl h)
set_option maxRecDepth 20000 in
theorem m_145_20_39 {d d0 : Nat} (hd : d = d0 + 8)   {s : zS} {Q : Option Value → zS → Prop}  (h : v_145_20 (fun j => Zt d (wd2 39 j) j) 39 d   s Q) : Zn d [(75, 0), (75, 1), (75, 2), (197, 5), (197, 6)] [(39, 98), (0, 198)] ([(0, 9, 39)] : zW) ([] : zW) xL_11 1 (some .int) xE_145 (xE_145.drop 20) [.ref 0, .null] [] s Q := by
  unfold v_145_20 at h
  refine zn_ld rfl rfl rfl ?_
  refine zn_c [.int 2, .ref 0] (xo_push (.int 2)) rfl rfl ?_
  refine zn_zu [.ref 0, .int 2] [] (c := ([(0, 9, 39)] : zW)) (c' := ([] : zW)) (w1 := ([(0, 9, 39)] : zW)) rfl rfl rfl rfl rfl rfl rfl (Zu.imp h (fun v1 s2 h => ?_))
  obtain ⟨x3, rfl, h⟩ := h
  change Zn _ _ _ _ _ _ _ _ _ _ _ [.int x3] _ _
  refine zn_wk (c := []) rfl ?_
  exact zn_retI rfl h
set_option maxRecDepth 20000 in
theorem m_145_0_39 {d d0 : Nat} (hd : d = d0 + 8)   {s : zS} {Q : Option Value → zS → Prop}  (h : v_145_0 (fun j => Zt d (wd2 39 j) j) 39 d   s Q) : Zn d [(75, 0), (75, 1), (75, 2), (197, 5), (197, 6)] [(39, 98), (0, 198)] ([(0, 9, 39)] : zW) ([] : zW) xL_11 1 (some .int) xE_145 (xE_145.drop 0) [.ref 0, .null] [] s Q := by
  unfold v_145_0 at h
  refine zn_ld rfl rfl rfl ?_
  refine zn_get (v := .int (s.1 0 11)) rfl (zv_I (a := 0) rfl rfl) ?_
  refine zn_brN rfl rfl ⟨fun hcn => ?_, fun hcn => ?_⟩
  · replace h := h.1 (fun q => hcn ((i_eq (x := s.1 0 11) (y := 0) rfl (show (0 : Int32).toInt = 0 by decide)).mpr q))
    refine zn_ld rfl rfl rfl ?_
    refine zn_get (v := .ref 197) rfl (zv_R (a := 0) rfl rfl) ?_
    refine zn_get (v := .int (s.1 197 8)) rfl (zv_I (a := 197) rfl rfl) ?_
    refine zn_brN rfl rfl ⟨fun hcn => ?_, fun hcn => ?_⟩
    · replace h := h.1 (fun q => hcn ((i_eq (x := s.1 197 8) (y := 0) rfl (show (0 : Int32).toInt = 0 by decide)).mpr q))
      exact m_145_20_39 hd  h
    · replace h := h.2 ((i_eq (x := s.1 197 8) (y := 0) rfl (show (0 : Int32).toInt = 0 by decide)).mp hcn)
      refine zn_ld rfl rfl rfl ?_
      refine zn_get (v := .ref 75) rfl (zv_R (a := 0) rfl rfl) ?_
      refine zn_ld rfl rfl rfl ?_
      refine zn_get (v := .ref 39) rfl (zv_C (a := 0) (n := 0) rfl rfl rfl) ?_
      refine zn_c [.int 18, .ref 39, .ref 75] (xo_push (.int 18)) rfl rfl ?_
      refine zn_zu [.ref 75, .ref 39, .int 18] [] (c := ([] : zW)) (c' := ([(75, 2, 61), (75, 1, 57), (75, 0, 39)] : zW)) (w1 := ([(0, 9, 39)] : zW)) rfl rfl rfl rfl rfl rfl rfl (Zu.imp h (fun v1 s2 h => ?_))
      obtain ⟨rfl, h⟩ := h
      change Zn _ _ _ _ _ _ _ _ _ _ _ [] _ _
      refine zn_ld rfl rfl rfl ?_
      refine zn_get (v := .ref 197) rfl (zv_R (a := 0) rfl rfl) ?_
      refine zn_ld rfl rfl rfl ?_
      refine zn_get (v := .ref 39) rfl (zv_C (a := 0) (n := 3) rfl rfl rfl) ?_
      refine zn_zu [.ref 197, .ref 39] [] (c := ([(75, 0, 39), (75, 1, 57), (75, 2, 61)] : zW)) (c' := ([(197, 6, 57), (197, 5, 39), (75, 0, 39), (75, 1, 57), (75, 2, 61)] : zW)) (w1 := ([(75, 2, 61), (75, 1, 57), (75, 0, 39), (0, 9, 39)] : zW)) rfl rfl rfl rfl rfl rfl rfl (Zu.imp h (fun v3 s4 h => ?_))
      obtain ⟨rfl, h⟩ := h
      change Zn _ _ _ _ _ _ _ _ _ _ _ [] _ _
      refine zn_wk (c := ([(0, 9, 39)] : zW)) rfl ?_
      exact m_145_20_39 hd  h
  · replace h := h.2 ((i_eq (x := s.1 0 11) (y := 0) rfl (show (0 : Int32).toInt = 0 by decide)).mp hcn)
    refine zn_c [.int (-1)] (xo_push (.int (-1))) rfl rfl ?_
    refine zn_wk (c := []) rfl ?_
    exact zn_retI rfl h
theorem zq_145_39 {d : Nat}  {s : zS} {Q : Option Value → zS → Prop} (h : v_145_0 (fun j => Zt (d + 8) (wd2 39 j) j) 39 (d + 8)  s Q) : Zu (d + 9) [(75, 0), (75, 1), (75, 2), (197, 5), (197, 6)] ([(0, 9, 39)] : zW) ([] : zW) 145 [.ref 0] s Q := zu_of (E := xE_145) (L := xL_11) (ml := 1) (ret := some .int) rfl rfl rfl (m_145_0_39 rfl h)
theorem zc_145 {d P : Nat} (hP : P = 3 ∨ P = 39)  {s : zS} {Q : Option Value → zS → Prop} (h : v_145_0 (fun j => Zt (d + 8) (wd2 P j) j) P (d + 8)  s Q) : Zu (d + 9) [(75, 0), (75, 1), (75, 2), (197, 5), (197, 6)] [(0, 9, P)] [] 145 [.ref 0] s Q := by
  rcases hP with rfl | rfl
  · exact zq_145_3 h
  · exact zq_145_39 h
/-! FeatherBench.failed -/
def v_143_10 (T : Nat → List Value → zS → (Option Value → zS → Prop) → Prop) (P : Nat)  (t0 : Int32) (s : zS) (Q : Option Value → zS → Prop) : Prop :=
  Q (some (.int t0)) s
def v_143_0 (T : Nat → List Value → zS → (Option Value → zS → Prop) → Prop) (P : Nat)   (s : zS) (Q : Option Value → zS → Prop) : Prop :=
  (¬ ((s.1 105 13).toInt = 1) → v_143_10 T P  (-1) s Q) ∧ ((s.1 105 13).toInt = 1 → v_143_10 T P  (s.1 105 12) s Q)
set_option maxRecDepth 20000 in
theorem m_143_10_3 {d d0 : Nat} (hd : d = d0 + 8)  {t0 : Int32} {s : zS} {Q : Option Value → zS → Prop}  (h : v_143_10 (fun j => Zt d (wd2 3 j) j) 3  t0 s Q) : Zn d [] [] ([(0, 9, 3)] : zW) ([] : zW) xL_11 1 (some .int) xE_143 (xE_143.drop 10) [.ref 0, .null] [.int t0] s Q := by
  unfold v_143_10 at h
  refine zn_wk (c := []) rfl ?_
  exact zn_retI rfl h
set_option maxRecDepth 20000 in
theorem m_143_0_3 {d d0 : Nat} (hd : d = d0 + 8)   {s : zS} {Q : Option Value → zS → Prop}  (h : v_143_0 (fun j => Zt d (wd2 3 j) j) 3   s Q) : Zn d [] [] ([(0, 9, 3)] : zW) ([] : zW) xL_11 1 (some .int) xE_143 (xE_143.drop 0) [.ref 0, .null] [] s Q := by
  unfold v_143_0 at h
  refine zn_ld rfl rfl rfl ?_
  refine zn_get (v := .ref 105) rfl (zv_R (a := 0) rfl rfl) ?_
  refine zn_get (v := .int (s.1 105 13)) rfl (zv_I (a := 105) rfl rfl) ?_
  refine zn_c [.int 1, .int (s.1 105 13)] (xo_push (.int 1)) rfl rfl ?_
  refine zn_brN rfl rfl ⟨fun hcn => ?_, fun hcn => ?_⟩
  · replace h := h.1 (fun q => hcn ((i_eq (x := s.1 105 13) (y := 1) rfl (show (1 : Int32).toInt = 1 by decide)).mpr q))
    refine zn_c [.int (-1)] (xo_push (.int (-1))) rfl rfl ?_
    exact m_143_10_3 hd  h
  · replace h := h.2 ((i_eq (x := s.1 105 13) (y := 1) rfl (show (1 : Int32).toInt = 1 by decide)).mp hcn)
    refine zn_ld rfl rfl rfl ?_
    refine zn_get (v := .ref 105) rfl (zv_R (a := 0) rfl rfl) ?_
    refine zn_get (v := .int (s.1 105 12)) rfl (zv_I (a := 105) rfl rfl) ?_
    refine zn_go rfl ?_
    exact m_143_10_3 hd  h
theorem zq_143_3 {d : Nat}  {s : zS} {Q : Option Value → zS → Prop} (h : v_143_0 (fun j => Zt (d + 8) (wd2 3 j) j) 3  s Q) : Zu (d + 9) [] ([(0, 9, 3)] : zW) ([] : zW) 143 [.ref 0] s Q := zu_of (E := xE_143) (L := xL_11) (ml := 1) (ret := some .int) rfl rfl rfl (m_143_0_3 rfl h)
set_option maxRecDepth 20000 in
theorem m_143_10_39 {d d0 : Nat} (hd : d = d0 + 8)  {t0 : Int32} {s : zS} {Q : Option Value → zS → Prop}  (h : v_143_10 (fun j => Zt d (wd2 39 j) j) 39  t0 s Q) : Zn d [] [] ([(0, 9, 39)] : zW) ([] : zW) xL_11 1 (some .int) xE_143 (xE_143.drop 10) [.ref 0, .null] [.int t0] s Q := by
  unfold v_143_10 at h
  refine zn_wk (c := []) rfl ?_
  exact zn_retI rfl h
set_option maxRecDepth 20000 in
theorem m_143_0_39 {d d0 : Nat} (hd : d = d0 + 8)   {s : zS} {Q : Option Value → zS → Prop}  (h : v_143_0 (fun j => Zt d (wd2 39 j) j) 39   s Q) : Zn d [] [] ([(0, 9, 39)] : zW) ([] : zW) xL_11 1 (some .int) xE_143 (xE_143.drop 0) [.ref 0, .null] [] s Q := by
  unfold v_143_0 at h
  refine zn_ld rfl rfl rfl ?_
  refine zn_get (v := .ref 105) rfl (zv_R (a := 0) rfl rfl) ?_
  refine zn_get (v := .int (s.1 105 13)) rfl (zv_I (a := 105) rfl rfl) ?_
  refine zn_c [.int 1, .int (s.1 105 13)] (xo_push (.int 1)) rfl rfl ?_
  refine zn_brN rfl rfl ⟨fun hcn => ?_, fun hcn => ?_⟩
  · replace h := h.1 (fun q => hcn ((i_eq (x := s.1 105 13) (y := 1) rfl (show (1 : Int32).toInt = 1 by decide)).mpr q))
    refine zn_c [.int (-1)] (xo_push (.int (-1))) rfl rfl ?_
    exact m_143_10_39 hd  h
  · replace h := h.2 ((i_eq (x := s.1 105 13) (y := 1) rfl (show (1 : Int32).toInt = 1 by decide)).mp hcn)
    refine zn_ld rfl rfl rfl ?_
    refine zn_get (v := .ref 105) rfl (zv_R (a := 0) rfl rfl) ?_
    refine zn_get (v := .int (s.1 105 12)) rfl (zv_I (a := 105) rfl rfl) ?_
    refine zn_go rfl ?_
    exact m_143_10_39 hd  h
theorem zq_143_39 {d : Nat}  {s : zS} {Q : Option Value → zS → Prop} (h : v_143_0 (fun j => Zt (d + 8) (wd2 39 j) j) 39  s Q) : Zu (d + 9) [] ([(0, 9, 39)] : zW) ([] : zW) 143 [.ref 0] s Q := zu_of (E := xE_143) (L := xL_11) (ml := 1) (ret := some .int) rfl rfl rfl (m_143_0_39 rfl h)
theorem zc_143 {d P : Nat} (hP : P = 3 ∨ P = 39)  {s : zS} {Q : Option Value → zS → Prop} (h : v_143_0 (fun j => Zt (d + 8) (wd2 P j) j) P  s Q) : Zu (d + 9) [] [(0, 9, P)] [] 143 [.ref 0] s Q := by
  rcases hP with rfl | rfl
  · exact zq_143_3 h
  · exact zq_143_39 h
/-! FeatherBench.calls -/
def v_144_0 (T : Nat → List Value → zS → (Option Value → zS → Prop) → Prop) (P : Nat)   (s : zS) (Q : Option Value → zS → Prop) : Prop :=
  Q (some (.int (s.1 105 11))) s
set_option maxRecDepth 20000 in
theorem m_144_0_3 {d d0 : Nat} (hd : d = d0 + 8)   {s : zS} {Q : Option Value → zS → Prop}  (h : v_144_0 (fun j => Zt d (wd2 3 j) j) 3   s Q) : Zn d [] [] ([(0, 9, 3)] : zW) ([] : zW) xL_11 1 (some .int) xE_144 (xE_144.drop 0) [.ref 0, .null] [] s Q := by
  unfold v_144_0 at h
  refine zn_ld rfl rfl rfl ?_
  refine zn_get (v := .ref 105) rfl (zv_R (a := 0) rfl rfl) ?_
  refine zn_get (v := .int (s.1 105 11)) rfl (zv_I (a := 105) rfl rfl) ?_
  refine zn_wk (c := []) rfl ?_
  exact zn_retI rfl h
theorem zq_144_3 {d : Nat}  {s : zS} {Q : Option Value → zS → Prop} (h : v_144_0 (fun j => Zt (d + 8) (wd2 3 j) j) 3  s Q) : Zu (d + 9) [] ([(0, 9, 3)] : zW) ([] : zW) 144 [.ref 0] s Q := zu_of (E := xE_144) (L := xL_11) (ml := 1) (ret := some .int) rfl rfl rfl (m_144_0_3 rfl h)
set_option maxRecDepth 20000 in
theorem m_144_0_39 {d d0 : Nat} (hd : d = d0 + 8)   {s : zS} {Q : Option Value → zS → Prop}  (h : v_144_0 (fun j => Zt d (wd2 39 j) j) 39   s Q) : Zn d [] [] ([(0, 9, 39)] : zW) ([] : zW) xL_11 1 (some .int) xE_144 (xE_144.drop 0) [.ref 0, .null] [] s Q := by
  unfold v_144_0 at h
  refine zn_ld rfl rfl rfl ?_
  refine zn_get (v := .ref 105) rfl (zv_R (a := 0) rfl rfl) ?_
  refine zn_get (v := .int (s.1 105 11)) rfl (zv_I (a := 105) rfl rfl) ?_
  refine zn_wk (c := []) rfl ?_
  exact zn_retI rfl h
theorem zq_144_39 {d : Nat}  {s : zS} {Q : Option Value → zS → Prop} (h : v_144_0 (fun j => Zt (d + 8) (wd2 39 j) j) 39  s Q) : Zu (d + 9) [] ([(0, 9, 39)] : zW) ([] : zW) 144 [.ref 0] s Q := zu_of (E := xE_144) (L := xL_11) (ml := 1) (ret := some .int) rfl rfl rfl (m_144_0_39 rfl h)
theorem zc_144 {d P : Nat} (hP : P = 3 ∨ P = 39)  {s : zS} {Q : Option Value → zS → Prop} (h : v_144_0 (fun j => Zt (d + 8) (wd2 P j) j) P  s Q) : Zu (d + 9) [] [(0, 9, P)] [] 144 [.ref 0] s Q := by
  rcases hP with rfl | rfl
  · exact zq_144_3 h
  · exact zq_144_39 h
/-! FeatherBench.out -/
def v_149_15 (T : Nat → List Value → zS → (Option Value → zS → Prop) → Prop) (P : Nat)  (a1 : Int32) (t0 : Int32) (s : zS) (Q : Option Value → zS → Prop) : Prop :=
  Q (some (.int t0)) s
def v_149_14 (T : Nat → List Value → zS → (Option Value → zS → Prop) → Prop) (P : Nat)  (a1 : Int32) (s : zS) (Q : Option Value → zS → Prop) : Prop :=
  v_149_15 T P  a1 (-1) s Q
def v_149_0 (T : Nat → List Value → zS → (Option Value → zS → Prop) → Prop) (P : Nat)  (a1 : Int32) (s : zS) (Q : Option Value → zS → Prop) : Prop :=
  (a1.toInt < 0 → v_149_14 T P  a1 s Q) ∧ (¬ (a1.toInt < 0) → ((s.1 207 2).toInt ≤ a1.toInt → v_149_14 T P  a1 s Q) ∧ (¬ ((s.1 207 2).toInt ≤ a1.toInt) → v_149_15 T P  a1 (zg s 207 a1) s Q))
set_option maxRecDepth 20000 in
theorem m_149_15_3 {d d0 : Nat} (hd : d = d0 + 8)  {a1 : Int32} {t0 : Int32} {s : zS} {Q : Option Value → zS → Prop}  (h : v_149_15 (fun j => Zt d (wd2 3 j) j) 3  a1 t0 s Q) : Zn d [] [] ([(0, 9, 3)] : zW) ([] : zW) xL_11 2 (some .int) xE_149 (xE_149.drop 15) [.ref 0, .int a1, .null, .null] [.int t0] s Q := by
  unfold v_149_15 at h
  refine zn_wk (c := []) rfl ?_
  exact zn_retI rfl h
set_option maxRecDepth 20000 in
theorem m_149_14_3 {d d0 : Nat} (hd : d = d0 + 8)  {a1 : Int32} {s : zS} {Q : Option Value → zS → Prop}  (h : v_149_14 (fun j => Zt d (wd2 3 j) j) 3  a1 s Q) : Zn d [] [] ([(0, 9, 3)] : zW) ([] : zW) xL_11 2 (some .int) xE_149 (xE_149.drop 14) [.ref 0, .int a1, .null, .null] [] s Q := by
  unfold v_149_14 at h
  refine zn_c [.int (-1)] (xo_push (.int (-1))) rfl rfl ?_
  exact m_149_15_3 hd  h
set_option maxRecDepth 20000 in
theorem m_149_0_3 {d d0 : Nat} (hd : d = d0 + 8)  {a1 : Int32} {s : zS} {Q : Option Value → zS → Prop}  (h : v_149_0 (fun j => Zt d (wd2 3 j) j) 3  a1 s Q) : Zn d [] [] ([(0, 9, 3)] : zW) ([] : zW) xL_11 2 (some .int) xE_149 (xE_149.drop 0) [.ref 0, .int a1, .null, .null] [] s Q := by
  unfold v_149_0 at h
  refine zn_ld rfl rfl rfl ?_
  refine zn_brP rfl rfl ⟨fun hcn => ?_, fun hcn => ?_⟩
  · replace h := h.1 ((i_lt (x := a1) (y := 0) rfl (show (0 : Int32).toInt = 0 by decide)).mp hcn)
    exact m_149_14_3 hd  h
  · replace h := h.2 (fun q => hcn ((i_lt (x := a1) (y := 0) rfl (show (0 : Int32).toInt = 0 by decide)).mpr q))
    refine zn_ld rfl rfl rfl ?_
    refine zn_ld rfl rfl rfl ?_
    refine zn_get (v := .ref 206) rfl (zv_R (a := 0) rfl rfl) ?_
    refine zn_get (v := .ref 207) rfl (zv_R (a := 206) rfl rfl) ?_
    refine zn_get (v := .int (s.1 207 2)) rfl (zv_I (a := 207) rfl rfl) ?_
    refine zn_brP rfl rfl ⟨fun hcn => ?_, fun hcn => ?_⟩
    · replace h := h.1 ((i_le (x := s.1 207 2) (y := a1) rfl rfl).mp hcn)
      exact m_149_14_3 hd  h
    · replace h := h.2 (fun q => hcn ((i_le (x := s.1 207 2) (y := a1) rfl rfl).mpr q))
      refine zn_ld rfl rfl rfl ?_
      refine zn_get (v := .ref 206) rfl (zv_R (a := 0) rfl rfl) ?_
      refine zn_get (v := .ref 207) rfl (zv_R (a := 206) rfl rfl) ?_
      refine zn_ld rfl rfl rfl ?_
      refine zn_row a1 [] (a := 207) hd rfl rfl rfl rfl ?_
      change Zn _ _ _ _ _ _ _ _ _ _ _ [.int (zg s 207 a1)] _ _
      refine zn_go rfl ?_
      exact m_149_15_3 hd  h
theorem zq_149_3 {d : Nat} {a1 : Int32} {s : zS} {Q : Option Value → zS → Prop} (h : v_149_0 (fun j => Zt (d + 8) (wd2 3 j) j) 3 a1 s Q) : Zu (d + 9) [] ([(0, 9, 3)] : zW) ([] : zW) 149 [.ref 0, .int a1] s Q := zu_of (E := xE_149) (L := xL_11) (ml := 2) (ret := some .int) rfl rfl rfl (m_149_0_3 rfl h)
set_option maxRecDepth 20000 in
theorem m_149_15_39 {d d0 : Nat} (hd : d = d0 + 8)  {a1 : Int32} {t0 : Int32} {s : zS} {Q : Option Value → zS → Prop}  (h : v_149_15 (fun j => Zt d (wd2 39 j) j) 39  a1 t0 s Q) : Zn d [] [] ([(0, 9, 39)] : zW) ([] : zW) xL_11 2 (some .int) xE_149 (xE_149.drop 15) [.ref 0, .int a1, .null, .null] [.int t0] s Q := by
  unfold v_149_15 at h
  refine zn_wk (c := []) rfl ?_
  exact zn_retI rfl h
set_option maxRecDepth 20000 in
theorem m_149_14_39 {d d0 : Nat} (hd : d = d0 + 8)  {a1 : Int32} {s : zS} {Q : Option Value → zS → Prop}  (h : v_149_14 (fun j => Zt d (wd2 39 j) j) 39  a1 s Q) : Zn d [] [] ([(0, 9, 39)] : zW) ([] : zW) xL_11 2 (some .int) xE_149 (xE_149.drop 14) [.ref 0, .int a1, .null, .null] [] s Q := by
  unfold v_149_14 at h
  refine zn_c [.int (-1)] (xo_push (.int (-1))) rfl rfl ?_
  exact m_149_15_39 hd  h
set_option maxRecDepth 20000 in
theorem m_149_0_39 {d d0 : Nat} (hd : d = d0 + 8)  {a1 : Int32} {s : zS} {Q : Option Value → zS → Prop}  (h : v_149_0 (fun j => Zt d (wd2 39 j) j) 39  a1 s Q) : Zn d [] [] ([(0, 9, 39)] : zW) ([] : zW) xL_11 2 (some .int) xE_149 (xE_149.drop 0) [.ref 0, .int a1, .null, .null] [] s Q := by
  unfold v_149_0 at h
  refine zn_ld rfl rfl rfl ?_
  refine zn_brP rfl rfl ⟨fun hcn => ?_, fun hcn => ?_⟩
  · replace h := h.1 ((i_lt (x := a1) (y := 0) rfl (show (0 : Int32).toInt = 0 by decide)).mp hcn)
    exact m_149_14_39 hd  h
  · replace h := h.2 (fun q => hcn ((i_lt (x := a1) (y := 0) rfl (show (0 : Int32).toInt = 0 by decide)).mpr q))
    refine zn_ld rfl rfl rfl ?_
    refine zn_ld rfl rfl rfl ?_
    refine zn_get (v := .ref 206) rfl (zv_R (a := 0) rfl rfl) ?_
    refine zn_get (v := .ref 207) rfl (zv_R (a := 206) rfl rfl) ?_
    refine zn_get (v := .int (s.1 207 2)) rfl (zv_I (a := 207) rfl rfl) ?_
    refine zn_brP rfl rfl ⟨fun hcn => ?_, fun hcn => ?_⟩
    · replace h := h.1 ((i_le (x := s.1 207 2) (y := a1) rfl rfl).mp hcn)
      exact m_149_14_39 hd  h
    · replace h := h.2 (fun q => hcn ((i_le (x := s.1 207 2) (y := a1) rfl rfl).mpr q))
      refine zn_ld rfl rfl rfl ?_
      refine zn_get (v := .ref 206) rfl (zv_R (a := 0) rfl rfl) ?_
      refine zn_get (v := .ref 207) rfl (zv_R (a := 206) rfl rfl) ?_
      refine zn_ld rfl rfl rfl ?_
      refine zn_row a1 [] (a := 207) hd rfl rfl rfl rfl ?_
      change Zn _ _ _ _ _ _ _ _ _ _ _ [.int (zg s 207 a1)] _ _
      refine zn_go rfl ?_
      exact m_149_15_39 hd  h
theorem zq_149_39 {d : Nat} {a1 : Int32} {s : zS} {Q : Option Value → zS → Prop} (h : v_149_0 (fun j => Zt (d + 8) (wd2 39 j) j) 39 a1 s Q) : Zu (d + 9) [] ([(0, 9, 39)] : zW) ([] : zW) 149 [.ref 0, .int a1] s Q := zu_of (E := xE_149) (L := xL_11) (ml := 2) (ret := some .int) rfl rfl rfl (m_149_0_39 rfl h)
theorem zc_149 {d P : Nat} (hP : P = 3 ∨ P = 39) {a1 : Int32} {s : zS} {Q : Option Value → zS → Prop} (h : v_149_0 (fun j => Zt (d + 8) (wd2 P j) j) P a1 s Q) : Zu (d + 9) [] [(0, 9, P)] [] 149 [.ref 0, .int a1] s Q := by
  rcases hP with rfl | rfl
  · exact zq_149_3 h
  · exact zq_149_39 h
/-! FeatherBench.count -/
def v_150_37 (T : Nat → List Value → zS → (Option Value → zS → Prop) → Prop) (P : Nat)  (a1 : Int32) (t0 : Int32) (s : zS) (Q : Option Value → zS → Prop) : Prop :=
  Q (some (.int t0)) s
def v_150_19 (T : Nat → List Value → zS → (Option Value → zS → Prop) → Prop) (P : Nat)  (a1 : Int32) (t0 : Int32) (s : zS) (Q : Option Value → zS → Prop) : Prop :=
  Q (some (.int t0)) s
def v_150_10 (T : Nat → List Value → zS → (Option Value → zS → Prop) → Prop) (P : Nat)  (a1 : Int32) (t0 : Int32) (s : zS) (Q : Option Value → zS → Prop) : Prop :=
  Q (some (.int t0)) s
def v_150_0 (T : Nat → List Value → zS → (Option Value → zS → Prop) → Prop) (P : Nat)  (a1 : Int32) (s : zS) (Q : Option Value → zS → Prop) : Prop :=
  (¬ Int32.toInt a1 = 0 ∧ ¬ Int32.toInt a1 = 1 ∧ ¬ Int32.toInt a1 = 2 ∧ ¬ Int32.toInt a1 = 3 ∧ ¬ Int32.toInt a1 = 4 ∧ ¬ Int32.toInt a1 = 5 → Q (some (.int (-1))) s) ∧ (Int32.toInt a1 = 0 → ((s.1 0 11).toInt = 0 → v_150_10 T P  a1 0 s Q) ∧ (¬ ((s.1 0 11).toInt = 0) → v_150_10 T P  a1 (s.1 (P + 24) 2 / 6) s Q)) ∧ (Int32.toInt a1 = 1 → ((s.1 0 11).toInt = 0 → v_150_19 T P  a1 0 s Q) ∧ (¬ ((s.1 0 11).toInt = 0) → v_150_19 T P  a1 (s.1 (P + 26) 2 / 10) s Q)) ∧ (Int32.toInt a1 = 2 → Q (some (.int (s.1 0 12))) s) ∧ (Int32.toInt a1 = 3 → Q (some (.int (s.1 105 10))) s) ∧ (Int32.toInt a1 = 4 → Q (some (.int (s.1 1 2))) s) ∧ (Int32.toInt a1 = 5 → ((s.1 0 11).toInt = 0 → v_150_37 T P  a1 0 s Q) ∧ (¬ ((s.1 0 11).toInt = 0) → v_150_37 T P  a1 1 s Q))
set_option maxRecDepth 20000 in
theorem m_150_37_3 {d d0 : Nat} (hd : d = d0 + 8)  {a1 : Int32} {t0 : Int32} {s : zS} {Q : Option Value → zS → Prop}  (h : v_150_37 (fun j => Zt d (wd2 3 j) j) 3  a1 t0 s Q) : Zn d [] [] ([(0, 9, 3)] : zW) ([] : zW) xL_11 2 (some .int) xE_150 (xE_150.drop 37) [.ref 0, .int a1, .null, .null] [.int t0] s Q := by
  unfold v_150_37 at h
  refine zn_wk (c := []) rfl ?_
  exact zn_retI rfl h
set_option maxRecDepth 20000 in
theorem m_150_19_3 {d d0 : Nat} (hd : d = d0 + 8)  {a1 : Int32} {t0 : Int32} {s : zS} {Q : Option Value → zS → Prop}  (h : v_150_19 (fun j => Zt d (wd2 3 j) j) 3  a1 t0 s Q) : Zn d [] [] ([(0, 9, 3)] : zW) ([] : zW) xL_11 2 (some .int) xE_150 (xE_150.drop 19) [.ref 0, .int a1, .null, .null] [.int t0] s Q := by
  unfold v_150_19 at h
  refine zn_wk (c := []) rfl ?_
  exact zn_retI rfl h
set_option maxRecDepth 20000 in
theorem m_150_10_3 {d d0 : Nat} (hd : d = d0 + 8)  {a1 : Int32} {t0 : Int32} {s : zS} {Q : Option Value → zS → Prop}  (h : v_150_10 (fun j => Zt d (wd2 3 j) j) 3  a1 t0 s Q) : Zn d [] [] ([(0, 9, 3)] : zW) ([] : zW) xL_11 2 (some .int) xE_150 (xE_150.drop 10) [.ref 0, .int a1, .null, .null] [.int t0] s Q := by
  unfold v_150_10 at h
  refine zn_wk (c := []) rfl ?_
  exact zn_retI rfl h
set_option maxRecDepth 20000 in
theorem m_150_0_3 {d d0 : Nat} (hd : d = d0 + 8)  {a1 : Int32} {s : zS} {Q : Option Value → zS → Prop}  (h : v_150_0 (fun j => Zt d (wd2 3 j) j) 3  a1 s Q) : Zn d [] [] ([(0, 9, 3)] : zW) ([] : zW) xL_11 2 (some .int) xE_150 (xE_150.drop 0) [.ref 0, .int a1, .null, .null] [] s Q := by
  unfold v_150_0 at h
  refine zn_ld rfl rfl rfl ?_
  by_cases hx : Int32.toInt a1 = 0 ∨ Int32.toInt a1 = 1 ∨ Int32.toInt a1 = 2 ∨ Int32.toInt a1 = 3 ∨ Int32.toInt a1 = 4 ∨ Int32.toInt a1 = 5
  · rcases hx with hy | hy | hy | hy | hy | hy
    · refine zn_sw ?_
      refine ⟨2, by rw [if_neg (by omega), hy]; rfl, ?_⟩
      replace h := h.2.1 hy
      refine zn_ld rfl rfl rfl ?_
      refine zn_get (v := .int (s.1 0 11)) rfl (zv_I (a := 0) rfl rfl) ?_
      refine zn_brP rfl rfl ⟨fun hcn => ?_, fun hcn => ?_⟩
      · replace h := h.1 ((i_eq (x := s.1 0 11) (y := 0) rfl (show (0 : Int32).toInt = 0 by decide)).mp hcn)
        refine zn_c [.int 0] (xo_push (.int 0)) rfl rfl ?_
        exact m_150_10_3 hd  h
      · replace h := h.2 (fun q => hcn ((i_eq (x := s.1 0 11) (y := 0) rfl (show (0 : Int32).toInt = 0 by decide)).mpr q))
        refine zn_ld rfl rfl rfl ?_
        refine zn_get (v := .ref 3) rfl (zv_C (a := 0) (n := 0) rfl rfl rfl) ?_
        refine zn_zt [.ref 3] [] (c := []) rfl rfl rfl rfl rfl (Zt.imp (zp_44 hd (Or.inl rfl)) (fun vq sq hq => ?_))
        obtain ⟨rfl, hq⟩ := hq
        rw [hq]
        change Zn _ _ _ _ _ _ _ _ _ _ _ [.int (s.1 27 2 / 6)] _ _
        refine zn_go rfl ?_
        exact m_150_10_3 hd  h
    · refine zn_sw ?_
      refine ⟨11, by rw [if_neg (by omega), hy]; rfl, ?_⟩
      replace h := h.2.2.1 hy
      refine zn_ld rfl rfl rfl ?_
      refine zn_get (v := .int (s.1 0 11)) rfl (zv_I (a := 0) rfl rfl) ?_
      refine zn_brP rfl rfl ⟨fun hcn => ?_, fun hcn => ?_⟩
      · replace h := h.1 ((i_eq (x := s.1 0 11) (y := 0) rfl (show (0 : Int32).toInt = 0 by decide)).mp hcn)
        refine zn_c [.int 0] (xo_push (.int 0)) rfl rfl ?_
        exact m_150_19_3 hd  h
      · replace h := h.2 (fun q => hcn ((i_eq (x := s.1 0 11) (y := 0) rfl (show (0 : Int32).toInt = 0 by decide)).mpr q))
        refine zn_ld rfl rfl rfl ?_
        refine zn_get (v := .ref 3) rfl (zv_C (a := 0) (n := 0) rfl rfl rfl) ?_
        refine zn_zt [.ref 3] [] (c := []) rfl rfl rfl rfl rfl (Zt.imp (zp_45 hd (Or.inl rfl)) (fun vq sq hq => ?_))
        obtain ⟨rfl, hq⟩ := hq
        rw [hq]
        change Zn _ _ _ _ _ _ _ _ _ _ _ [.int (s.1 29 2 / 10)] _ _
        refine zn_go rfl ?_
        exact m_150_19_3 hd  h
    · refine zn_sw ?_
      refine ⟨20, by rw [if_neg (by omega), hy]; rfl, ?_⟩
      replace h := h.2.2.2.1 hy
      refine zn_ld rfl rfl rfl ?_
      refine zn_get (v := .int (s.1 0 12)) rfl (zv_I (a := 0) rfl rfl) ?_
      refine zn_wk (c := []) rfl ?_
      exact zn_retI rfl h
    · refine zn_sw ?_
      refine ⟨23, by rw [if_neg (by omega), hy]; rfl, ?_⟩
      replace h := h.2.2.2.2.1 hy
      refine zn_ld rfl rfl rfl ?_
      refine zn_get (v := .ref 105) rfl (zv_R (a := 0) rfl rfl) ?_
      refine zn_get (v := .int (s.1 105 10)) rfl (zv_I (a := 105) rfl rfl) ?_
      refine zn_wk (c := []) rfl ?_
      exact zn_retI rfl h
    · refine zn_sw ?_
      refine ⟨27, by rw [if_neg (by omega), hy]; rfl, ?_⟩
      replace h := h.2.2.2.2.2.1 hy
      refine zn_ld rfl rfl rfl ?_
      refine zn_get (v := .ref 1) rfl (zv_R (a := 0) rfl rfl) ?_
      refine zn_get (v := .int (s.1 1 2)) rfl (zv_I (a := 1) rfl rfl) ?_
      refine zn_wk (c := []) rfl ?_
      exact zn_retI rfl h
    · refine zn_sw ?_
      refine ⟨31, by rw [if_neg (by omega), hy]; rfl, ?_⟩
      replace h := h.2.2.2.2.2.2 hy
      refine zn_ld rfl rfl rfl ?_
      refine zn_get (v := .int (s.1 0 11)) rfl (zv_I (a := 0) rfl rfl) ?_
      refine zn_brP rfl rfl ⟨fun hcn => ?_, fun hcn => ?_⟩
      · replace h := h.1 ((i_eq (x := s.1 0 11) (y := 0) rfl (show (0 : Int32).toInt = 0 by decide)).mp hcn)
        refine zn_c [.int 0] (xo_push (.int 0)) rfl rfl ?_
        exact m_150_37_3 hd  h
      · replace h := h.2 (fun q => hcn ((i_eq (x := s.1 0 11) (y := 0) rfl (show (0 : Int32).toInt = 0 by decide)).mpr q))
        refine zn_c [.int 1] (xo_push (.int 1)) rfl rfl ?_
        refine zn_go rfl ?_
        exact m_150_37_3 hd  h
  · have hy : ¬ Int32.toInt a1 = 0 ∧ ¬ Int32.toInt a1 = 1 ∧ ¬ Int32.toInt a1 = 2 ∧ ¬ Int32.toInt a1 = 3 ∧ ¬ Int32.toInt a1 = 4 ∧ ¬ Int32.toInt a1 = 5 := by omega
    replace h := h.1 hy
    by_cases hz : Int32.toInt a1 < 0 ∨ 5 < Int32.toInt a1
    · refine zn_sw ?_
      refine ⟨38, by rw [if_pos hz]; rfl, ?_⟩
      refine zn_c [.int (-1)] (xo_push (.int (-1))) rfl rfl ?_
      refine zn_wk (c := []) rfl ?_
      exact zn_retI rfl h
    · omega
theorem zq_150_3 {d : Nat} {a1 : Int32} {s : zS} {Q : Option Value → zS → Prop} (h : v_150_0 (fun j => Zt (d + 8) (wd2 3 j) j) 3 a1 s Q) : Zu (d + 9) [] ([(0, 9, 3)] : zW) ([] : zW) 150 [.ref 0, .int a1] s Q := zu_of (E := xE_150) (L := xL_11) (ml := 2) (ret := some .int) rfl rfl rfl (m_150_0_3 rfl h)
set_option maxRecDepth 20000 in
theorem m_150_37_39 {d d0 : Nat} (hd : d = d0 + 8)  {a1 : Int32} {t0 : Int32} {s : zS} {Q : Option Value → zS → Prop}  (h : v_150_37 (fun j => Zt d (wd2 39 j) j) 39  a1 t0 s Q) : Zn d [] [] ([(0, 9, 39)] : zW) ([] : zW) xL_11 2 (some .int) xE_150 (xE_150.drop 37) [.ref 0, .int a1, .null, .null] [.int t0] s Q := by
  unfold v_150_37 at h
  refine zn_wk (c := []) rfl ?_
  exact zn_retI rfl h
set_option maxRecDepth 20000 in
theorem m_150_19_39 {d d0 : Nat} (hd : d = d0 + 8)  {a1 : Int32} {t0 : Int32} {s : zS} {Q : Option Value → zS → Prop}  (h : v_150_19 (fun j => Zt d (wd2 39 j) j) 39  a1 t0 s Q) : Zn d [] [] ([(0, 9, 39)] : zW) ([] : zW) xL_11 2 (some .int) xE_150 (xE_150.drop 19) [.ref 0, .int a1, .null, .null] [.int t0] s Q := by
  unfold v_150_19 at h
  refine zn_wk (c := []) rfl ?_
  exact zn_retI rfl h
set_option maxRecDepth 20000 in
theorem m_150_10_39 {d d0 : Nat} (hd : d = d0 + 8)  {a1 : Int32} {t0 : Int32} {s : zS} {Q : Option Value → zS → Prop}  (h : v_150_10 (fun j => Zt d (wd2 39 j) j) 39  a1 t0 s Q) : Zn d [] [] ([(0, 9, 39)] : zW) ([] : zW) xL_11 2 (some .int) xE_150 (xE_150.drop 10) [.ref 0, .int a1, .null, .null] [.int t0] s Q := by
  unfold v_150_10 at h
  refine zn_wk (c := []) rfl ?_
  exact zn_retI rfl h
set_option maxRecDepth 20000 in
theorem m_150_0_39 {d d0 : Nat} (hd : d = d0 + 8)  {a1 : Int32} {s : zS} {Q : Option Value → zS → Prop}  (h : v_150_0 (fun j => Zt d (wd2 39 j) j) 39  a1 s Q) : Zn d [] [] ([(0, 9, 39)] : zW) ([] : zW) xL_11 2 (some .int) xE_150 (xE_150.drop 0) [.ref 0, .int a1, .null, .null] [] s Q := by
  unfold v_150_0 at h
  refine zn_ld rfl rfl rfl ?_
  by_cases hx : Int32.toInt a1 = 0 ∨ Int32.toInt a1 = 1 ∨ Int32.toInt a1 = 2 ∨ Int32.toInt a1 = 3 ∨ Int32.toInt a1 = 4 ∨ Int32.toInt a1 = 5
  · rcases hx with hy | hy | hy | hy | hy | hy
    · refine zn_sw ?_
      refine ⟨2, by rw [if_neg (by omega), hy]; rfl, ?_⟩
      replace h := h.2.1 hy
      refine zn_ld rfl rfl rfl ?_
      refine zn_get (v := .int (s.1 0 11)) rfl (zv_I (a := 0) rfl rfl) ?_
      refine zn_brP rfl rfl ⟨fun hcn => ?_, fun hcn => ?_⟩
      · replace h := h.1 ((i_eq (x := s.1 0 11) (y := 0) rfl (show (0 : Int32).toInt = 0 by decide)).mp hcn)
        refine zn_c [.int 0] (xo_push (.int 0)) rfl rfl ?_
        exact m_150_10_39 hd  h
      · replace h := h.2 (fun q => hcn ((i_eq (x := s.1 0 11) (y := 0) rfl (show (0 : Int32).toInt = 0 by decide)).mpr q))
        refine zn_ld rfl rfl rfl ?_
        refine zn_get (v := .ref 39) rfl (zv_C (a := 0) (n := 0) rfl rfl rfl) ?_
        refine zn_zt [.ref 39] [] (c := []) rfl rfl rfl rfl rfl (Zt.imp (zp_44 hd (Or.inr rfl)) (fun vq sq hq => ?_))
        obtain ⟨rfl, hq⟩ := hq
        rw [hq]
        change Zn _ _ _ _ _ _ _ _ _ _ _ [.int (s.1 63 2 / 6)] _ _
        refine zn_go rfl ?_
        exact m_150_10_39 hd  h
    · refine zn_sw ?_
      refine ⟨11, by rw [if_neg (by omega), hy]; rfl, ?_⟩
      replace h := h.2.2.1 hy
      refine zn_ld rfl rfl rfl ?_
      refine zn_get (v := .int (s.1 0 11)) rfl (zv_I (a := 0) rfl rfl) ?_
      refine zn_brP rfl rfl ⟨fun hcn => ?_, fun hcn => ?_⟩
      · replace h := h.1 ((i_eq (x := s.1 0 11) (y := 0) rfl (show (0 : Int32).toInt = 0 by decide)).mp hcn)
        refine zn_c [.int 0] (xo_push (.int 0)) rfl rfl ?_
        exact m_150_19_39 hd  h
      · replace h := h.2 (fun q => hcn ((i_eq (x := s.1 0 11) (y := 0) rfl (show (0 : Int32).toInt = 0 by decide)).mpr q))
        refine zn_ld rfl rfl rfl ?_
        refine zn_get (v := .ref 39) rfl (zv_C (a := 0) (n := 0) rfl rfl rfl) ?_
        refine zn_zt [.ref 39] [] (c := []) rfl rfl rfl rfl rfl (Zt.imp (zp_45 hd (Or.inr rfl)) (fun vq sq hq => ?_))
        obtain ⟨rfl, hq⟩ := hq
        rw [hq]
        change Zn _ _ _ _ _ _ _ _ _ _ _ [.int (s.1 65 2 / 10)] _ _
        refine zn_go rfl ?_
        exact m_150_19_39 hd  h
    · refine zn_sw ?_
      refine ⟨20, by rw [if_neg (by omega), hy]; rfl, ?_⟩
      replace h := h.2.2.2.1 hy
      refine zn_ld rfl rfl rfl ?_
      refine zn_get (v := .int (s.1 0 12)) rfl (zv_I (a := 0) rfl rfl) ?_
      refine zn_wk (c := []) rfl ?_
      exact zn_retI rfl h
    · refine zn_sw ?_
      refine ⟨23, by rw [if_neg (by omega), hy]; rfl, ?_⟩
      replace h := h.2.2.2.2.1 hy
      refine zn_ld rfl rfl rfl ?_
      refine zn_get (v := .ref 105) rfl (zv_R (a := 0) rfl rfl) ?_
      refine zn_get (v := .int (s.1 105 10)) rfl (zv_I (a := 105) rfl rfl) ?_
      refine zn_wk (c := []) rfl ?_
      exact zn_retI rfl h
    · refine zn_sw ?_
      refine ⟨27, by rw [if_neg (by omega), hy]; rfl, ?_⟩
      replace h := h.2.2.2.2.2.1 hy
      refine zn_ld rfl rfl rfl ?_
      refine zn_get (v := .ref 1) rfl (zv_R (a := 0) rfl rfl) ?_
      refine zn_get (v := .int (s.1 1 2)) rfl (zv_I (a := 1) rfl rfl) ?_
      refine zn_wk (c := []) rfl ?_
      exact zn_retI rfl h
    · refine zn_sw ?_
      refine ⟨31, by rw [if_neg (by omega), hy]; rfl, ?_⟩
      replace h := h.2.2.2.2.2.2 hy
      refine zn_ld rfl rfl rfl ?_
      refine zn_get (v := .int (s.1 0 11)) rfl (zv_I (a := 0) rfl rfl) ?_
      refine zn_brP rfl rfl ⟨fun hcn => ?_, fun hcn => ?_⟩
      · replace h := h.1 ((i_eq (x := s.1 0 11) (y := 0) rfl (show (0 : Int32).toInt = 0 by decide)).mp hcn)
        refine zn_c [.int 0] (xo_push (.int 0)) rfl rfl ?_
        exact m_150_37_39 hd  h
      · replace h := h.2 (fun q => hcn ((i_eq (x := s.1 0 11) (y := 0) rfl (show (0 : Int32).toInt = 0 by decide)).mpr q))
        refine zn_c [.int 1] (xo_push (.int 1)) rfl rfl ?_
        refine zn_go rfl ?_
        exact m_150_37_39 hd  h
  · have hy : ¬ Int32.toInt a1 = 0 ∧ ¬ Int32.toInt a1 = 1 ∧ ¬ Int32.toInt a1 = 2 ∧ ¬ Int32.toInt a1 = 3 ∧ ¬ Int32.toInt a1 = 4 ∧ ¬ Int32.toInt a1 = 5 := by omega
    replace h := h.1 hy
    by_cases hz : Int32.toInt a1 < 0 ∨ 5 < Int32.toInt a1
    · refine zn_sw ?_
      refine ⟨38, by rw [if_pos hz]; rfl, ?_⟩
      refine zn_c [.int (-1)] (xo_push (.int (-1))) rfl rfl ?_
      refine zn_wk (c := []) rfl ?_
      exact zn_retI rfl h
    · omega
theorem zq_150_39 {d : Nat} {a1 : Int32} {s : zS} {Q : Option Value → zS → Prop} (h : v_150_0 (fun j => Zt (d + 8) (wd2 39 j) j) 39 a1 s Q) : Zu (d + 9) [] ([(0, 9, 39)] : zW) ([] : zW) 150 [.ref 0, .int a1] s Q := zu_of (E := xE_150) (L := xL_11) (ml := 2) (ret := some .int) rfl rfl rfl (m_150_0_39 rfl h)
theorem zc_150 {d P : Nat} (hP : P = 3 ∨ P = 39) {a1 : Int32} {s : zS} {Q : Option Value → zS → Prop} (h : v_150_0 (fun j => Zt (d + 8) (wd2 P j) j) P a1 s Q) : Zu (d + 9) [] [(0, 9, P)] [] 150 [.ref 0, .int a1] s Q := by
  rcases hP with rfl | rfl
  · exact zq_150_3 h
  · exact zq_150_39 h
section ZZZK
variable {d P : Nat} {s u : zS} {a1 a2 : Int32}
theorem zw_81 (hP : P = 3 ∨ P = 39) : Zu (d + 18) [(75, 0), (75, 1), (75, 2)] [] [(75, 2, P + 22), (75, 1, P + 18), (75, 0, P)] 81 [.ref 75, .ref P, .int a2] s (fun v s' => v = none ∧ s'.2 = s.2 ∧ s'.1 75 3 = a2 ∧ ∀ b q, ¬ (b = 75 ∧ (q = 3 ∨ q = 4 ∨ q = 5 ∨ q = 6)) → s'.1 b q = s.1 b q) := by
  refine zc_81 (d := d + 9) hP ?_
  unfold v_81_0
  rintro s1 rfl
  refine zc_82 (d := d + 8) hP ?_
  unfold v_82_0
  rintro s2 rfl s3 rfl s4 rfl
  refine ⟨rfl, rfl, rfl, ?_, fun b q hb => ?_⟩
  · rw [zf_1, if_neg (by omega), zf_1, if_neg (by omega), zf_1, if_neg (by omega), zf_1, if_pos ⟨rfl, rfl⟩]
  · rw [zf_1, if_neg (fun w => hb ⟨w.1, Or.inr (Or.inr (Or.inr w.2))⟩), zf_1, if_neg (fun w => hb ⟨w.1, Or.inr (Or.inr (Or.inl w.2))⟩), zf_1, if_neg (fun w => hb ⟨w.1, Or.inr (Or.inl w.2)⟩), zf_1, if_neg (fun w => hb ⟨w.1, Or.inl w.2⟩)]
/-- start -/
theorem zw_18 (hP : P = 3 ∨ P = 39) : Zu (d + 18) [(105, 5)] [(75, 0, P), (75, 1, P + 18), (75, 2, P + 22)] [(105, 5, P), (75, 0, P), (75, 1, P + 18), (75, 2, P + 22)] 18 [.ref 105, .ref P, .int a2] s (fun v s' => v = none ∧ s'.2 = s.2 ∧ s'.1 75 3 = s.1 75 3 ∧ s'.1 105 9 = a2) := by
  refine zc_18 (d := d + 9) hP ?_
  unfold v_18_0
  refine zc_17 (d := d + 8) hP ?_
  unfold v_17_0
  intro s1 hs1 s2 hs2 s3 hs3
  refine ⟨rfl, fun s4 hs4 s5 hs5 s6 hs6 s7 hs7 s8 hs8 => ⟨rfl, ?_, ?_, ?_⟩⟩
  · rw [hs8, zf_2, hs7, zf_2, hs6, zf_2, hs5, zf_2, hs4, zf_2, hs3, zf_2, hs2, zf_2, hs1, zf_2]
  · rw [hs8, zf_1, if_neg (by decide), hs7, zf_1, if_neg (by decide), hs6, zf_1, if_neg (by decide), hs5, zf_1, if_neg (by decide), hs4, zf_1, if_neg (by decide), hs3, zf_1, if_neg (by decide), hs2, zf_1, if_neg (by decide), hs1, zf_1, if_neg (by decide)]
  · rw [hs8, zf_1, if_neg (by decide), hs7, zf_1, if_neg (by decide), hs6, zf_1, if_neg (by decide), hs5, zf_1, if_neg (by decide), hs4, zf_1, if_pos ⟨rfl, rfl⟩]
/-- run -/
theorem zw_142 (hP : P = 3 ∨ P = 39) (hN : SNz s) : Zu (d + 63) [(75, 0), (75, 1), (75, 2), (105, 5)] [(0, 9, P)] [] 142 [.ref 0, .int a1] s (fun _ _ => True) := by
  refine zc_142 (d := d + 54) hP ?_
  unfold v_142_0 v_142_9
  refine ⟨fun _ => trivial, fun _ => ⟨fun _ => trivial, fun _ => ⟨fun y => ?_, fun _ => trivial⟩⟩⟩
  refine Zu.imp (Zu.mo (d := 18) (by omega) ((zw_81 (d := 0) hP).sn hN)) ?_
  rintro v1 s2 ⟨⟨rfl, f1, f2, -⟩, N2⟩
  refine ⟨rfl, fun x3 _ x4 hx4 => ?_⟩
  refine Zu.imp (Zu.mo (d := 18) (by omega) ((zw_18 (d := 0) hP).sn N2)) ?_
  rintro v5 s6 ⟨⟨rfl, g1, g2, g3⟩, N6⟩
  refine ⟨rfl, ?_⟩
  have M6 : MCz s6 := by
    unfold MCz PHq
    rw [g2, f2, g3, show (4218 : Int32).toInt = 4218 by decide]
    exact ⟨by omega, by omega, fun _ => ⟨fun _ => by omega, fun w => absurd w (by decide)⟩⟩
  refine Zt.imp (Zt.mo (d := 54) (by omega) (zw_19 (d := 0) hP N6 M6)) ?_
  rintro v7 s8 rfl
  exact ⟨rfl, fun _ _ _ _ => trivial⟩
theorem zw_146 (hP : P = 3 ∨ P = 39) : Zu (d + 18) [] [(0, 9, P)] [] 146 [.ref 0, .int a1] s (fun v _ => ∃ r : Int32, v = some (.int r)) := by
  refine zc_146 (d := d + 9) hP ?_
  unfold v_146_0
  refine ⟨fun _ => ⟨fun _ => ⟨_, rfl⟩, fun _ => ⟨_, rfl⟩, fun _ => ?_, fun _ => ?_⟩, fun _ => ⟨_, rfl⟩⟩
  · refine Zt.imp (Zt.mo (d := 9) (by omega) (zw_95 (d := 0) hP)) ?_
    rintro v1 s2 ⟨-, r, rfl, -⟩
    exact ⟨r, rfl, r, rfl⟩
  · refine Zt.imp (Zt.mo (d := 9) (by omega) (zw_96 (d := 0) hP)) ?_
    rintro v1 s2 ⟨-, r, rfl, -⟩
    exact ⟨r, rfl, r, rfl⟩
/-- instances -/
theorem zw_145 (hP : P = 3 ∨ P = 39) (hN : SNz s) : Zu (d + 72) [(75, 0), (75, 1), (75, 2), (197, 5), (197, 6)] [(0, 9, P)] [] 145 [.ref 0] s (fun _ _ => True) := by
  refine zc_145 (d := d + 63) hP ?_
  have fin : ∀ w : zS, v_145_20 (fun j => Zt (d + 63 + 8) (wd2 P j) j) P (d + 63 + 8) w (fun _ _ => True) := fun w => by
    unfold v_145_20
    refine Zu.imp (Zu.mo (d := 18) (by omega) (zw_146 (d := 0) hP)) ?_
    rintro v1 s2 ⟨r, rfl⟩
    exact ⟨r, rfl, trivial⟩
  unfold v_145_0
  refine ⟨fun _ => ⟨fun _ => fin _, fun _ => ?_⟩, fun _ => trivial⟩
  refine Zu.imp (Zu.mo (d := 18) (by omega) ((zw_81 (d := 0) hP).sn hN)) ?_
  rintro v1 s2 ⟨⟨rfl, -, f2, -⟩, N2⟩
  refine ⟨rfl, ?_⟩
  refine Zu.imp (Zu.mo (d := 63) (by omega) (zw_97 (d := 0) hP N2 (by rw [f2]; decide))) ?_
  rintro v3 s4 rfl
  exact ⟨rfl, fin _⟩
theorem zw_143 (hP : P = 3 ∨ P = 39) : Zu (d + 9) [] [(0, 9, P)] [] 143 [.ref 0] s (fun _ _ => True) := by
  refine zc_143 hP ?_
  unfold v_143_0 v_143_10
  exact ⟨fun _ => trivial, fun _ => trivial⟩
theorem zw_144 (hP : P = 3 ∨ P = 39) : Zu (d + 9) [] [(0, 9, P)] [] 144 [.ref 0] s (fun _ _ => True) := by
  refine zc_144 hP ?_
  unfold v_144_0
  trivial
theorem zw_149 (hP : P = 3 ∨ P = 39) : Zu (d + 9) [] [(0, 9, P)] [] 149 [.ref 0, .int a1] s (fun _ _ => True) := by
  refine zc_149 hP ?_
  unfold v_149_0 v_149_14 v_149_15
  exact ⟨fun _ => trivial, fun _ => ⟨fun _ => trivial, fun _ => trivial⟩⟩
theorem zw_150 (hP : P = 3 ∨ P = 39) : Zu (d + 9) [] [(0, 9, P)] [] 150 [.ref 0, .int a1] s (fun _ _ => True) := by
  refine zc_150 hP ?_
  unfold v_150_0 v_150_10 v_150_19 v_150_37
  exact ⟨fun _ => trivial, fun _ => ⟨fun _ => trivial, fun _ => trivial⟩, fun _ => ⟨fun _ => trivial, fun _ => trivial⟩, fun _ => trivial, fun _ => trivial, fun _ => trivial, fun _ => ⟨fun _ => trivial, fun _ => trivial⟩⟩
end ZZZK
