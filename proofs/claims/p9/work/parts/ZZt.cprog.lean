/-! ===== the class: program, its run ===== -/
def v_17_0 (T : Nat → List Value → zS → (Option Value → zS → Prop) → Prop) (P : Nat)   (s : zS) (Q : Option Value → zS → Prop) : Prop :=
  ∀ s1, s1 = zf s 105 10 0 → ∀ s2, s2 = zf s1 105 11 0 → ∀ s3, s3 = zf s2 105 13 5 → Q none s3
set_option maxRecDepth 20000 in
theorem m_17_0_3 {d d0 : Nat} (hd : d = d0 + 8)   {s : zS} {Q : Option Value → zS → Prop}  (h : v_17_0 (fun j => Zt d (wd 3 j) j) 3   s Q) : Zn d [] [] ([] : zW) ([] : zW) xL_2 1 (none) xE_17 (xE_17.drop 0) [.ref 105, .null] [] s Q := by
  unfold v_17_0 at h
  refine zn_ld rfl rfl rfl ?_
  refine zn_c [.int 0, .ref 105] (xo_push (.int 0)) rfl rfl ?_
  refine zn_putI (a := 105) rfl rfl rfl rfl ⟨Int32.le_toInt _, Int.le_of_lt_add_one (Int32.toInt_lt _)⟩ rfl rfl rfl ?_
  replace h := h _ rfl
  refine zn_ld rfl rfl rfl ?_
  refine zn_c [.int 0, .ref 105] (xo_push (.int 0)) rfl rfl ?_
  refine zn_putI (a := 105) rfl rfl rfl rfl ⟨Int32.le_toInt _, Int.le_of_lt_add_one (Int32.toInt_lt _)⟩ rfl rfl rfl ?_
  replace h := h _ rfl
  refine zn_ld rfl rfl rfl ?_
  refine zn_c [.int 5, .ref 105] (xo_push (.int 5)) rfl rfl ?_
  refine zn_putI (a := 105) rfl rfl rfl rfl ⟨Int32.le_toInt _, Int.le_of_lt_add_one (Int32.toInt_lt _)⟩ rfl rfl rfl ?_
  replace h := h _ rfl
  exact zn_ret0 rfl h
theorem zq_17_3 {d : Nat}  {s : zS} {Q : Option Value → zS → Prop} (h : v_17_0 (fun j => Zt (d + 8) (wd 3 j) j) 3  s Q) : Zt (d + 9) ([] : zW) 17 [.ref 105] s Q := zt_of (E := xE_17) (L := xL_2) (ml := 1) (ret := none) rfl rfl rfl (m_17_0_3 rfl h)
set_option maxRecDepth 20000 in
theorem m_17_0_39 {d d0 : Nat} (hd : d = d0 + 8)   {s : zS} {Q : Option Value → zS → Prop}  (h : v_17_0 (fun j => Zt d (wd 39 j) j) 39   s Q) : Zn d [] [] ([] : zW) ([] : zW) xL_2 1 (none) xE_17 (xE_17.drop 0) [.ref 105, .null] [] s Q := by
  unfold v_17_0 at h
  refine zn_ld rfl rfl rfl ?_
  refine zn_c [.int 0, .ref 105] (xo_push (.int 0)) rfl rfl ?_
  refine zn_putI (a := 105) rfl rfl rfl rfl ⟨Int32.le_toInt _, Int.le_of_lt_add_one (Int32.toInt_lt _)⟩ rfl rfl rfl ?_
  replace h := h _ rfl
  refine zn_ld rfl rfl rfl ?_
  refine zn_c [.int 0, .ref 105] (xo_push (.int 0)) rfl rfl ?_
  refine zn_putI (a := 105) rfl rfl rfl rfl ⟨Int32.le_toInt _, Int.le_of_lt_add_one (Int32.toInt_lt _)⟩ rfl rfl rfl ?_
  replace h := h _ rfl
  refine zn_ld rfl rfl rfl ?_
  refine zn_c [.int 5, .ref 105] (xo_push (.int 5)) rfl rfl ?_
  refine zn_putI (a := 105) rfl rfl rfl rfl ⟨Int32.le_toInt _, Int.le_of_lt_add_one (Int32.toInt_lt _)⟩ rfl rfl rfl ?_
  replace h := h _ rfl
  exact zn_ret0 rfl h
theorem zq_17_39 {d : Nat}  {s : zS} {Q : Option Value → zS → Prop} (h : v_17_0 (fun j => Zt (d + 8) (wd 39 j) j) 39  s Q) : Zt (d + 9) ([] : zW) 17 [.ref 105] s Q := zt_of (E := xE_17) (L := xL_2) (ml := 1) (ret := none) rfl rfl rfl (m_17_0_39 rfl h)
theorem zc_17 {d P : Nat} (hP : P = 3 ∨ P = 39)  {s : zS} {Q : Option Value → zS → Prop} (h : v_17_0 (fun j => Zt (d + 8) (wd P j) j) P  s Q) : Zt (d + 9) (wd P 17) 17 [.ref 105] s Q := by
  rcases hP with rfl | rfl
  · exact zq_17_3 h
  · exact zq_17_39 h
def v_94_0 (T : Nat → List Value → zS → (Option Value → zS → Prop) → Prop) (P : Nat)   (s : zS) (Q : Option Value → zS → Prop) : Prop :=
  ∀ s1, s1 = zf s 197 8 0 → ∀ s2, s2 = zf s1 197 9 0 → Q none s2
set_option maxRecDepth 20000 in
theorem m_94_0_3 {d d0 : Nat} (hd : d = d0 + 8)   {s : zS} {Q : Option Value → zS → Prop}  (h : v_94_0 (fun j => Zt d (wd 3 j) j) 3   s Q) : Zn d [] [] ([] : zW) ([] : zW) xL_8 1 (none) xE_94 (xE_94.drop 0) [.ref 197, .null] [] s Q := by
  unfold v_94_0 at h
  refine zn_ld rfl rfl rfl ?_
  refine zn_c [.int 0, .ref 197] (xo_push (.int 0)) rfl rfl ?_
  refine zn_putI (a := 197) rfl rfl rfl rfl (by decide) rfl rfl rfl ?_
  replace h := h _ rfl
  refine zn_ld rfl rfl rfl ?_
  refine zn_c [.int 0, .ref 197] (xo_push (.int 0)) rfl rfl ?_
  refine zn_putI (a := 197) rfl rfl rfl rfl (by decide) rfl rfl rfl ?_
  replace h := h _ rfl
  exact zn_ret0 rfl h
theorem zq_94_3 {d : Nat}  {s : zS} {Q : Option Value → zS → Prop} (h : v_94_0 (fun j => Zt (d + 8) (wd 3 j) j) 3  s Q) : Zt (d + 9) ([] : zW) 94 [.ref 197] s Q := zt_of (E := xE_94) (L := xL_8) (ml := 1) (ret := none) rfl rfl rfl (m_94_0_3 rfl h)
set_option maxRecDepth 20000 in
theorem m_94_0_39 {d d0 : Nat} (hd : d = d0 + 8)   {s : zS} {Q : Option Value → zS → Prop}  (h : v_94_0 (fun j => Zt d (wd 39 j) j) 39   s Q) : Zn d [] [] ([] : zW) ([] : zW) xL_8 1 (none) xE_94 (xE_94.drop 0) [.ref 197, .null] [] s Q := by
  unfold v_94_0 at h
  refine zn_ld rfl rfl rfl ?_
  refine zn_c [.int 0, .ref 197] (xo_push (.int 0)) rfl rfl ?_
  refine zn_putI (a := 197) rfl rfl rfl rfl (by decide) rfl rfl rfl ?_
  replace h := h _ rfl
  refine zn_ld rfl rfl rfl ?_
  refine zn_c [.int 0, .ref 197] (xo_push (.int 0)) rfl rfl ?_
  refine zn_putI (a := 197) rfl rfl rfl rfl (by decide) rfl rfl rfl ?_
  replace h := h _ rfl
  exact zn_ret0 rfl h
theorem zq_94_39 {d : Nat}  {s : zS} {Q : Option Value → zS → Prop} (h : v_94_0 (fun j => Zt (d + 8) (wd 39 j) j) 39  s Q) : Zt (d + 9) ([] : zW) 94 [.ref 197] s Q := zt_of (E := xE_94) (L := xL_8) (ml := 1) (ret := none) rfl rfl rfl (m_94_0_39 rfl h)
theorem zc_94 {d P : Nat} (hP : P = 3 ∨ P = 39)  {s : zS} {Q : Option Value → zS → Prop} (h : v_94_0 (fun j => Zt (d + 8) (wd P j) j) P  s Q) : Zt (d + 9) (wd P 94) 94 [.ref 197] s Q := by
  rcases hP with rfl | rfl
  · exact zq_94_3 h
  · exact zq_94_39 h
def v_140_0 (d P : Nat) (s : zS) (Q : Int32 → Prop) : Prop := Zt (d + 73) (wd P 37) 37 [.ref P, .ref 1] s (fun v1 s1 => v1 = none ∧ 18 ≤ (s1.1 P 10).toInt ∧ Zu (d + 73) [(75, 0), (75, 1), (75, 2)] [] [(75, 2, P + 22), (75, 1, P + 18), (75, 0, P)] 81 [.ref 75, .ref P, .int 18] (zf s1 1 2 0) (fun v2 s2 => v2 = none ∧ Zu (d + 73) [(82, 0), (82, 1), (82, 2)] [] [(82, 2, P + 4), (82, 1, P + 1), (82, 0, P)] 61 [.ref 82, .ref P] s2 (fun v3 s3 => v3 = none ∧ Zu (d + 73) [(83, 1), (83, 2)] [(75, 0, P), (75, 1, P + 18), (75, 2, P + 22)] [(83, 2, P + 1), (83, 1, P), (75, 0, P), (75, 1, P + 18), (75, 2, P + 22)] 122 [.ref 83, .ref P] s3 (fun v4 s4 => v4 = none ∧ Zu (d + 73) [(83, 1), (83, 2)] [(75, 0, P), (75, 1, P + 18), (75, 2, P + 22)] [(83, 2, P + 1), (83, 1, P), (75, 0, P), (75, 1, P + 18), (75, 2, P + 22)] 128 [.ref 83, .ref P] s4 (fun v5 s5 => v5 = none ∧ Zu (d + 73) [(83, 1), (83, 2)] [(75, 0, P), (75, 1, P + 18), (75, 2, P + 22)] [(83, 2, P + 1), (83, 1, P), (75, 0, P), (75, 1, P + 18), (75, 2, P + 22)] 134 [.ref 83, .ref P] s5 (fun v6 s6 => v6 = none ∧ Zu (d + 73) [(83, 1), (83, 2)] [(75, 0, P), (75, 1, P + 18), (75, 2, P + 22)] [(83, 2, P + 1), (83, 1, P), (75, 0, P), (75, 1, P + 18), (75, 2, P + 22)] 136 [.ref 83, .ref P] s6 (fun v7 s7 => v7 = none ∧ Zu (d + 73) [(84, 2), (84, 3), (84, 4), (83, 1), (83, 2)] [(75, 0, P), (75, 1, P + 18), (75, 2, P + 22)] [(83, 2, P + 1), (83, 1, P), (84, 4, P + 4), (84, 3, P + 1), (84, 2, P), (75, 0, P), (75, 1, P + 18), (75, 2, P + 22)] 5 [.ref 84, .ref P] s7 (fun v8 s8 => v8 = none ∧ Q (s8.1 P 14)))))))))
def v_140x (d P : Nat) (s : zS) (Q : zS → Prop) : Prop := Zt (d + 73) (wd P 37) 37 [.ref P, .ref 1] s (fun v1 s1 => v1 = none ∧ 18 ≤ (s1.1 P 10).toInt ∧ Zu (d + 73) [(75, 0), (75, 1), (75, 2)] [] [(75, 2, P + 22), (75, 1, P + 18), (75, 0, P)] 81 [.ref 75, .ref P, .int 18] (zf s1 1 2 0) (fun v2 s2 => v2 = none ∧ Zu (d + 73) [(82, 0), (82, 1), (82, 2)] [] [(82, 2, P + 4), (82, 1, P + 1), (82, 0, P)] 61 [.ref 82, .ref P] s2 (fun v3 s3 => v3 = none ∧ Zu (d + 73) [(83, 1), (83, 2)] [(75, 0, P), (75, 1, P + 18), (75, 2, P + 22)] [(83, 2, P + 1), (83, 1, P), (75, 0, P), (75, 1, P + 18), (75, 2, P + 22)] 122 [.ref 83, .ref P] s3 (fun v4 s4 => v4 = none ∧ Zu (d + 73) [(83, 1), (83, 2)] [(75, 0, P), (75, 1, P + 18), (75, 2, P + 22)] [(83, 2, P + 1), (83, 1, P), (75, 0, P), (75, 1, P + 18), (75, 2, P + 22)] 128 [.ref 83, .ref P] s4 (fun v5 s5 => v5 = none ∧ Zu (d + 73) [(83, 1), (83, 2)] [(75, 0, P), (75, 1, P + 18), (75, 2, P + 22)] [(83, 2, P + 1), (83, 1, P), (75, 0, P), (75, 1, P + 18), (75, 2, P + 22)] 134 [.ref 83, .ref P] s5 (fun v6 s6 => v6 = none ∧ Zu (d + 73) [(83, 1), (83, 2)] [(75, 0, P), (75, 1, P + 18), (75, 2, P + 22)] [(83, 2, P + 1), (83, 1, P), (75, 0, P), (75, 1, P + 18), (75, 2, P + 22)] 136 [.ref 83, .ref P] s6 (fun v7 s7 => v7 = none ∧ Zu (d + 73) [(84, 2), (84, 3), (84, 4), (83, 1), (83, 2)] [(75, 0, P), (75, 1, P + 18), (75, 2, P + 22)] [(83, 2, P + 1), (83, 1, P), (84, 4, P + 4), (84, 3, P + 1), (84, 2, P), (75, 0, P), (75, 1, P + 18), (75, 2, P + 22)] 5 [.ref 84, .ref P] s7 (fun v8 s8 => v8 = none ∧ Q s8))))))))
set_option maxRecDepth 20000 in
theorem zq_140_3_3 {d : Nat} {s : zS} {Q : Int32 → Prop} (h : v_140_0 d 3 s Q) : Zu (d + 74) [(84, 2), (84, 3), (84, 4), (83, 1), (83, 2), (82, 0), (82, 1), (82, 2), (75, 0), (75, 1), (75, 2), (0, 9), (0, 10)] ([(0, 10, 3), (0, 9, 3)] : zW) ([] : zW) 140 [.ref 0] s (fun v _ => ∃ r : Int32, v = some (.int r) ∧ Q r) := by
  unfold v_140_0 at h
  refine zu_of (E := xE_140) (L := xL_11) (ml := 2) (ret := some .int) rfl rfl rfl ?_
  refine zn_ld rfl rfl rfl ?_
  refine zn_get (v := .ref 3) rfl (zv_C (a := 0) (n := 0) rfl rfl rfl) ?_
  refine zn_st [.ref 0, .ref 3, .null] rfl rfl rfl ?_
  refine zn_ld rfl rfl rfl ?_
  refine zn_ld rfl rfl rfl ?_
  refine zn_get (v := .ref 1) rfl (zv_R (a := 0) rfl rfl) ?_
  refine zn_zt [.ref 3, .ref 1] [] (c := []) rfl rfl rfl rfl rfl (Zt.imp h (fun v1 s1 h => ?_))
  obtain ⟨rfl, hk, h⟩ := h
  change Zn _ _ _ _ _ _ _ _ _ _ _ [] _ _
  refine zn_ld rfl rfl rfl ?_
  refine zn_get (v := .ref 1) rfl (zv_R (a := 0) rfl rfl) ?_
  refine zn_clr [] (a := 1) (d' := d + 72) rfl rfl rfl rfl rfl rfl ?_
  replace hk : 18 ≤ ((zf s1 1 2 0).1 3 10).toInt := by rw [zf_1, if_neg (by decide)]; exact hk
  refine zn_ld rfl rfl rfl ?_
  refine zn_get (v := .ref 75) rfl (zv_R (a := 0) rfl rfl) ?_
  refine zn_ld rfl rfl rfl ?_
  refine zn_c [.int 18, .ref 3, .ref 75] (xo_push (.int 18)) rfl rfl ?_
  refine zn_zu [.ref 75, .ref 3, .int 18] [] (c := ([] : zW)) (c' := ([(75, 2, 25), (75, 1, 21), (75, 0, 3)] : zW)) (w1 := ([(0, 10, 3), (0, 9, 3)] : zW)) rfl rfl rfl rfl rfl rfl rfl (Zu.imp (Zu.kp (P := 3) h (by decide) hk) (fun v2 s2 h => ?_))
  obtain ⟨⟨rfl, h⟩, hk⟩ := h
  change Zn _ _ _ _ _ _ _ _ _ _ _ [] _ _
  refine zn_ld rfl rfl rfl ?_
  refine zn_get (v := .ref 82) rfl (zv_R (a := 0) rfl rfl) ?_
  refine zn_ld rfl rfl rfl ?_
  refine zn_zu [.ref 82, .ref 3] [] (c := ([] : zW)) (c' := ([(82, 2, 7), (82, 1, 4), (82, 0, 3)] : zW)) (w1 := ([(75, 2, 25), (75, 1, 21), (75, 0, 3), (0, 10, 3), (0, 9, 3)] : zW)) rfl rfl rfl rfl rfl rfl rfl (Zu.imp (Zu.kp (P := 3) h (by decide) hk) (fun v3 s3 h => ?_))
  obtain ⟨⟨rfl, h⟩, hk⟩ := h
  change Zn _ _ _ _ _ _ _ _ _ _ _ [] _ _
  refine zn_ld rfl rfl rfl ?_
  refine zn_get (v := .ref 83) rfl (zv_R (a := 0) rfl rfl) ?_
  refine zn_ld rfl rfl rfl ?_
  refine zn_zu [.ref 83, .ref 3] [] (c := ([(75, 0, 3), (75, 1, 21), (75, 2, 25)] : zW)) (c' := ([(83, 2, 4), (83, 1, 3), (75, 0, 3), (75, 1, 21), (75, 2, 25)] : zW)) (w1 := ([(0, 10, 3), (0, 9, 3)] : zW)) rfl rfl rfl rfl rfl rfl rfl (Zu.imp (Zu.kp (P := 3) h (by decide) hk) (fun v4 s4 h => ?_))
  obtain ⟨⟨rfl, h⟩, hk⟩ := h
  change Zn _ _ _ _ _ _ _ _ _ _ _ [] _ _
  refine zn_ld rfl rfl rfl ?_
  refine zn_get (v := .ref 83) rfl (zv_R (a := 0) rfl rfl) ?_
  refine zn_ld rfl rfl rfl ?_
  refine zn_zu [.ref 83, .ref 3] [] (c := ([(75, 0, 3), (75, 1, 21), (75, 2, 25)] : zW)) (c' := ([(83, 2, 4), (83, 1, 3), (75, 0, 3), (75, 1, 21), (75, 2, 25)] : zW)) (w1 := ([(0, 10, 3), (0, 9, 3)] : zW)) rfl rfl rfl rfl rfl rfl rfl (Zu.imp (Zu.kp (P := 3) h (by decide) hk) (fun v5 s5 h => ?_))
  obtain ⟨⟨rfl, h⟩, hk⟩ := h
  change Zn _ _ _ _ _ _ _ _ _ _ _ [] _ _
  refine zn_ld rfl rfl rfl ?_
  refine zn_get (v := .ref 83) rfl (zv_R (a := 0) rfl rfl) ?_
  refine zn_ld rfl rfl rfl ?_
  refine zn_zu [.ref 83, .ref 3] [] (c := ([(75, 0, 3), (75, 1, 21), (75, 2, 25)] : zW)) (c' := ([(83, 2, 4), (83, 1, 3), (75, 0, 3), (75, 1, 21), (75, 2, 25)] : zW)) (w1 := ([(0, 10, 3), (0, 9, 3)] : zW)) rfl rfl rfl rfl rfl rfl rfl (Zu.imp (Zu.kp (P := 3) h (by decide) hk) (fun v6 s6 h => ?_))
  obtain ⟨⟨rfl, h⟩, hk⟩ := h
  change Zn _ _ _ _ _ _ _ _ _ _ _ [] _ _
  refine zn_ld rfl rfl rfl ?_
  refine zn_get (v := .ref 83) rfl (zv_R (a := 0) rfl rfl) ?_
  refine zn_ld rfl rfl rfl ?_
  refine zn_zu [.ref 83, .ref 3] [] (c := ([(75, 0, 3), (75, 1, 21), (75, 2, 25)] : zW)) (c' := ([(83, 2, 4), (83, 1, 3), (75, 0, 3), (75, 1, 21), (75, 2, 25)] : zW)) (w1 := ([(0, 10, 3), (0, 9, 3)] : zW)) rfl rfl rfl rfl rfl rfl rfl (Zu.imp (Zu.kp (P := 3) h (by decide) hk) (fun v7 s7 h => ?_))
  obtain ⟨⟨rfl, h⟩, hk⟩ := h
  change Zn _ _ _ _ _ _ _ _ _ _ _ [] _ _
  refine zn_ld rfl rfl rfl ?_
  refine zn_get (v := .ref 84) rfl (zv_R (a := 0) rfl rfl) ?_
  refine zn_ld rfl rfl rfl ?_
  refine zn_zu [.ref 84, .ref 3] [] (c := ([(75, 0, 3), (75, 1, 21), (75, 2, 25)] : zW)) (c' := ([(83, 2, 4), (83, 1, 3), (84, 4, 7), (84, 3, 4), (84, 2, 3), (75, 0, 3), (75, 1, 21), (75, 2, 25)] : zW)) (w1 := ([(0, 10, 3), (0, 9, 3)] : zW)) rfl rfl rfl rfl rfl rfl rfl (Zu.imp (Zu.kp (P := 3) h (by decide) hk) (fun v8 s8 h => ?_))
  obtain ⟨⟨rfl, h⟩, hk⟩ := h
  change Zn _ _ _ _ _ _ _ _ _ _ _ [] _ _
  refine zn_ld rfl rfl rfl ?_
  refine zn_get (v := .int (s8.1 3 14)) rfl (zv_I (a := 3) rfl rfl) ?_
  refine zn_brP rfl rfl ⟨fun hcn => ?_, fun hcn => ?_⟩
  · refine zn_ld rfl rfl rfl ?_
    refine zn_ld rfl rfl rfl ?_
    refine zn_get (v := .ref 3) rfl (zv_C (a := 0) (n := 9) rfl rfl rfl) ?_
    refine zn_wk (c := []) rfl ?_
    refine zn_putR (a := 0) (b := 3) rfl rfl rfl rfl rfl rfl rfl rfl rfl ?_
    refine zn_ld rfl rfl rfl ?_
    refine zn_ld rfl rfl rfl ?_
    refine zn_putR (a := 0) (b := 3) rfl rfl rfl rfl rfl rfl rfl rfl rfl ?_ (hkr := Or.inr ⟨by decide, hk⟩)
    refine zn_ld rfl rfl rfl ?_
    refine zn_c [.int 1, .ref 0] (xo_push (.int 1)) rfl rfl ?_
    refine zn_putI (a := 0) rfl rfl rfl rfl (by decide) rfl rfl rfl ?_ (hkl := Or.inr (Or.inr ⟨⟨rfl, rfl⟩, 3, by decide, List.mem_cons_self, hk⟩))
    refine zn_ld rfl rfl rfl ?_
    refine zn_get (v := .ref 105) rfl (zv_R (a := 0) rfl rfl) ?_
    refine zn_zt [.ref 105] [] (c := []) rfl rfl rfl rfl rfl (Zt.imp (zq_17_3 (d := d + 64) (Q := fun v s' => v = none) (fun _ _ _ _ _ _ => rfl)) (fun v9 s9 h9 => ?_))
    subst h9
    change Zn _ _ _ _ _ _ _ _ _ _ _ [] _ _
    refine zn_ld rfl rfl rfl ?_
    refine zn_get (v := .ref 197) rfl (zv_R (a := 0) rfl rfl) ?_
    refine zn_zt [.ref 197] [] (c := []) rfl rfl rfl rfl rfl (Zt.imp (zq_94_3 (d := d + 64) (Q := fun v s' => v = none) (fun _ _ _ _ => rfl)) (fun v10 s10 h10 => ?_))
    subst h10
    change Zn _ _ _ _ _ _ _ _ _ _ _ [] _ _
    refine zn_c [.int 0] (xo_push (.int 0)) rfl rfl ?_
    refine zn_wk (c := []) rfl ?_
    exact zn_retI rfl ⟨0, rfl, by rw [hcn] at h; exact h⟩
  · refine zn_ld rfl rfl rfl ?_
    refine zn_get (v := .int (s8.1 3 14)) rfl (zv_I (a := 3) rfl rfl) ?_
    refine zn_wk (c := []) rfl ?_
    exact zn_retI rfl ⟨_, rfl, h⟩
set_option maxRecDepth 20000 in
theorem zq_140_3_39 {d : Nat} {s : zS} {Q : Int32 → Prop} (h : v_140_0 d 3 s Q) : Zu (d + 74) [(84, 2), (84, 3), (84, 4), (83, 1), (83, 2), (82, 0), (82, 1), (82, 2), (75, 0), (75, 1), (75, 2), (0, 9), (0, 10)] ([(0, 10, 3), (0, 9, 39)] : zW) ([] : zW) 140 [.ref 0] s (fun v _ => ∃ r : Int32, v = some (.int r) ∧ Q r) := by
  unfold v_140_0 at h
  refine zu_of (E := xE_140) (L := xL_11) (ml := 2) (ret := some .int) rfl rfl rfl ?_
  refine zn_ld rfl rfl rfl ?_
  refine zn_get (v := .ref 3) rfl (zv_C (a := 0) (n := 0) rfl rfl rfl) ?_
  refine zn_st [.ref 0, .ref 3, .null] rfl rfl rfl ?_
  refine zn_ld rfl rfl rfl ?_
  refine zn_ld rfl rfl rfl ?_
  refine zn_get (v := .ref 1) rfl (zv_R (a := 0) rfl rfl) ?_
  refine zn_zt [.ref 3, .ref 1] [] (c := []) rfl rfl rfl rfl rfl (Zt.imp h (fun v1 s1 h => ?_))
  obtain ⟨rfl, hk, h⟩ := h
  change Zn _ _ _ _ _ _ _ _ _ _ _ [] _ _
  refine zn_ld rfl rfl rfl ?_
  refine zn_get (v := .ref 1) rfl (zv_R (a := 0) rfl rfl) ?_
  refine zn_clr [] (a := 1) (d' := d + 72) rfl rfl rfl rfl rfl rfl ?_
  replace hk : 18 ≤ ((zf s1 1 2 0).1 3 10).toInt := by rw [zf_1, if_neg (by decide)]; exact hk
  refine zn_ld rfl rfl rfl ?_
  refine zn_get (v := .ref 75) rfl (zv_R (a := 0) rfl rfl) ?_
  refine zn_ld rfl rfl rfl ?_
  refine zn_c [.int 18, .ref 3, .ref 75] (xo_push (.int 18)) rfl rfl ?_
  refine zn_zu [.ref 75, .ref 3, .int 18] [] (c := ([] : zW)) (c' := ([(75, 2, 25), (75, 1, 21), (75, 0, 3)] : zW)) (w1 := ([(0, 10, 3), (0, 9, 39)] : zW)) rfl rfl rfl rfl rfl rfl rfl (Zu.imp (Zu.kp (P := 3) h (by decide) hk) (fun v2 s2 h => ?_))
  obtain ⟨⟨rfl, h⟩, hk⟩ := h
  change Zn _ _ _ _ _ _ _ _ _ _ _ [] _ _
  refine zn_ld rfl rfl rfl ?_
  refine zn_get (v := .ref 82) rfl (zv_R (a := 0) rfl rfl) ?_
  refine zn_ld rfl rfl rfl ?_
  refine zn_zu [.ref 82, .ref 3] [] (c := ([] : zW)) (c' := ([(82, 2, 7), (82, 1, 4), (82, 0, 3)] : zW)) (w1 := ([(75, 2, 25), (75, 1, 21), (75, 0, 3), (0, 10, 3), (0, 9, 39)] : zW)) rfl rfl rfl rfl rfl rfl rfl (Zu.imp (Zu.kp (P := 3) h (by decide) hk) (fun v3 s3 h => ?_))
  obtain ⟨⟨rfl, h⟩, hk⟩ := h
  change Zn _ _ _ _ _ _ _ _ _ _ _ [] _ _
  refine zn_ld rfl rfl rfl ?_
  refine zn_get (v := .ref 83) rfl (zv_R (a := 0) rfl rfl) ?_
  refine zn_ld rfl rfl rfl ?_
  refine zn_zu [.ref 83, .ref 3] [] (c := ([(75, 0, 3), (75, 1, 21), (75, 2, 25)] : zW)) (c' := ([(83, 2, 4), (83, 1, 3), (75, 0, 3), (75, 1, 21), (75, 2, 25)] : zW)) (w1 := ([(0, 10, 3), (0, 9, 39)] : zW)) rfl rfl rfl rfl rfl rfl rfl (Zu.imp (Zu.kp (P := 3) h (by decide) hk) (fun v4 s4 h => ?_))
  obtain ⟨⟨rfl, h⟩, hk⟩ := h
  change Zn _ _ _ _ _ _ _ _ _ _ _ [] _ _
  refine zn_ld rfl rfl rfl ?_
  refine zn_get (v := .ref 83) rfl (zv_R (a := 0) rfl rfl) ?_
  refine zn_ld rfl rfl rfl ?_
  refine zn_zu [.ref 83, .ref 3] [] (c := ([(75, 0, 3), (75, 1, 21), (75, 2, 25)] : zW)) (c' := ([(83, 2, 4), (83, 1, 3), (75, 0, 3), (75, 1, 21), (75, 2, 25)] : zW)) (w1 := ([(0, 10, 3), (0, 9, 39)] : zW)) rfl rfl rfl rfl rfl rfl rfl (Zu.imp (Zu.kp (P := 3) h (by decide) hk) (fun v5 s5 h => ?_))
  obtain ⟨⟨rfl, h⟩, hk⟩ := h
  change Zn _ _ _ _ _ _ _ _ _ _ _ [] _ _
  refine zn_ld rfl rfl rfl ?_
  refine zn_get (v := .ref 83) rfl (zv_R (a := 0) rfl rfl) ?_
  refine zn_ld rfl rfl rfl ?_
  refine zn_zu [.ref 83, .ref 3] [] (c := ([(75, 0, 3), (75, 1, 21), (75, 2, 25)] : zW)) (c' := ([(83, 2, 4), (83, 1, 3), (75, 0, 3), (75, 1, 21), (75, 2, 25)] : zW)) (w1 := ([(0, 10, 3), (0, 9, 39)] : zW)) rfl rfl rfl rfl rfl rfl rfl (Zu.imp (Zu.kp (P := 3) h (by decide) hk) (fun v6 s6 h => ?_))
  obtain ⟨⟨rfl, h⟩, hk⟩ := h
  change Zn _ _ _ _ _ _ _ _ _ _ _ [] _ _
  refine zn_ld rfl rfl rfl ?_
  refine zn_get (v := .ref 83) rfl (zv_R (a := 0) rfl rfl) ?_
  refine zn_ld rfl rfl rfl ?_
  refine zn_zu [.ref 83, .ref 3] [] (c := ([(75, 0, 3), (75, 1, 21), (75, 2, 25)] : zW)) (c' := ([(83, 2, 4), (83, 1, 3), (75, 0, 3), (75, 1, 21), (75, 2, 25)] : zW)) (w1 := ([(0, 10, 3), (0, 9, 39)] : zW)) rfl rfl rfl rfl rfl rfl rfl (Zu.imp (Zu.kp (P := 3) h (by decide) hk) (fun v7 s7 h => ?_))
  obtain ⟨⟨rfl, h⟩, hk⟩ := h
  change Zn _ _ _ _ _ _ _ _ _ _ _ [] _ _
  refine zn_ld rfl rfl rfl ?_
  refine zn_get (v := .ref 84) rfl (zv_R (a := 0) rfl rfl) ?_
  refine zn_ld rfl rfl rfl ?_
  refine zn_zu [.ref 84, .ref 3] [] (c := ([(75, 0, 3), (75, 1, 21), (75, 2, 25)] : zW)) (c' := ([(83, 2, 4), (83, 1, 3), (84, 4, 7), (84, 3, 4), (84, 2, 3), (75, 0, 3), (75, 1, 21), (75, 2, 25)] : zW)) (w1 := ([(0, 10, 3), (0, 9, 39)] : zW)) rfl rfl rfl rfl rfl rfl rfl (Zu.imp (Zu.kp (P := 3) h (by decide) hk) (fun v8 s8 h => ?_))
  obtain ⟨⟨rfl, h⟩, hk⟩ := h
  change Zn _ _ _ _ _ _ _ _ _ _ _ [] _ _
  refine zn_ld rfl rfl rfl ?_
  refine zn_get (v := .int (s8.1 3 14)) rfl (zv_I (a := 3) rfl rfl) ?_
  refine zn_brP rfl rfl ⟨fun hcn => ?_, fun hcn => ?_⟩
  · refine zn_ld rfl rfl rfl ?_
    refine zn_ld rfl rfl rfl ?_
    refine zn_get (v := .ref 39) rfl (zv_C (a := 0) (n := 9) rfl rfl rfl) ?_
    refine zn_wk (c := []) rfl ?_
    refine zn_putR (a := 0) (b := 39) rfl rfl rfl rfl rfl rfl rfl rfl rfl ?_
    refine zn_ld rfl rfl rfl ?_
    refine zn_ld rfl rfl rfl ?_
    refine zn_putR (a := 0) (b := 3) rfl rfl rfl rfl rfl rfl rfl rfl rfl ?_ (hkr := Or.inr ⟨by decide, hk⟩)
    refine zn_ld rfl rfl rfl ?_
    refine zn_c [.int 1, .ref 0] (xo_push (.int 1)) rfl rfl ?_
    refine zn_putI (a := 0) rfl rfl rfl rfl (by decide) rfl rfl rfl ?_ (hkl := Or.inr (Or.inr ⟨⟨rfl, rfl⟩, 3, by decide, List.mem_cons_self, hk⟩))
    refine zn_ld rfl rfl rfl ?_
    refine zn_get (v := .ref 105) rfl (zv_R (a := 0) rfl rfl) ?_
    refine zn_zt [.ref 105] [] (c := []) rfl rfl rfl rfl rfl (Zt.imp (zq_17_3 (d := d + 64) (Q := fun v s' => v = none) (fun _ _ _ _ _ _ => rfl)) (fun v9 s9 h9 => ?_))
    subst h9
    change Zn _ _ _ _ _ _ _ _ _ _ _ [] _ _
    refine zn_ld rfl rfl rfl ?_
    refine zn_get (v := .ref 197) rfl (zv_R (a := 0) rfl rfl) ?_
    refine zn_zt [.ref 197] [] (c := []) rfl rfl rfl rfl rfl (Zt.imp (zq_94_3 (d := d + 64) (Q := fun v s' => v = none) (fun _ _ _ _ => rfl)) (fun v10 s10 h10 => ?_))
    subst h10
    change Zn _ _ _ _ _ _ _ _ _ _ _ [] _ _
    refine zn_c [.int 0] (xo_push (.int 0)) rfl rfl ?_
    refine zn_wk (c := []) rfl ?_
    exact zn_retI rfl ⟨0, rfl, by rw [hcn] at h; exact h⟩
  · refine zn_ld rfl rfl rfl ?_
    refine zn_get (v := .int (s8.1 3 14)) rfl (zv_I (a := 3) rfl rfl) ?_
    refine zn_wk (c := []) rfl ?_
    exact zn_retI rfl ⟨_, rfl, h⟩
set_option maxRecDepth 20000 in
theorem zq_140_39_3 {d : Nat} {s : zS} {Q : Int32 → Prop} (h : v_140_0 d 39 s Q) : Zu (d + 74) [(84, 2), (84, 3), (84, 4), (83, 1), (83, 2), (82, 0), (82, 1), (82, 2), (75, 0), (75, 1), (75, 2), (0, 9), (0, 10)] ([(0, 10, 39), (0, 9, 3)] : zW) ([] : zW) 140 [.ref 0] s (fun v _ => ∃ r : Int32, v = some (.int r) ∧ Q r) := by
  unfold v_140_0 at h
  refine zu_of (E := xE_140) (L := xL_11) (ml := 2) (ret := some .int) rfl rfl rfl ?_
  refine zn_ld rfl rfl rfl ?_
  refine zn_get (v := .ref 39) rfl (zv_C (a := 0) (n := 0) rfl rfl rfl) ?_
  refine zn_st [.ref 0, .ref 39, .null] rfl rfl rfl ?_
  refine zn_ld rfl rfl rfl ?_
  refine zn_ld rfl rfl rfl ?_
  refine zn_get (v := .ref 1) rfl (zv_R (a := 0) rfl rfl) ?_
  refine zn_zt [.ref 39, .ref 1] [] (c := []) rfl rfl rfl rfl rfl (Zt.imp h (fun v1 s1 h => ?_))
  obtain ⟨rfl, hk, h⟩ := h
  change Zn _ _ _ _ _ _ _ _ _ _ _ [] _ _
  refine zn_ld rfl rfl rfl ?_
  refine zn_get (v := .ref 1) rfl (zv_R (a := 0) rfl rfl) ?_
  refine zn_clr [] (a := 1) (d' := d + 72) rfl rfl rfl rfl rfl rfl ?_
  replace hk : 18 ≤ ((zf s1 1 2 0).1 39 10).toInt := by rw [zf_1, if_neg (by decide)]; exact hk
  refine zn_ld rfl rfl rfl ?_
  refine zn_get (v := .ref 75) rfl (zv_R (a := 0) rfl rfl) ?_
  refine zn_ld rfl rfl rfl ?_
  refine zn_c [.int 18, .ref 39, .ref 75] (xo_push (.int 18)) rfl rfl ?_
  refine zn_zu [.ref 75, .ref 39, .int 18] [] (c := ([] : zW)) (c' := ([(75, 2, 61), (75, 1, 57), (75, 0, 39)] : zW)) (w1 := ([(0, 10, 39), (0, 9, 3)] : zW)) rfl rfl rfl rfl rfl rfl rfl (Zu.imp (Zu.kp (P := 39) h (by decide) hk) (fun v2 s2 h => ?_))
  obtain ⟨⟨rfl, h⟩, hk⟩ := h
  change Zn _ _ _ _ _ _ _ _ _ _ _ [] _ _
  refine zn_ld rfl rfl rfl ?_
  refine zn_get (v := .ref 82) rfl (zv_R (a := 0) rfl rfl) ?_
  refine zn_ld rfl rfl rfl ?_
  refine zn_zu [.ref 82, .ref 39] [] (c := ([] : zW)) (c' := ([(82, 2, 43), (82, 1, 40), (82, 0, 39)] : zW)) (w1 := ([(75, 2, 61), (75, 1, 57), (75, 0, 39), (0, 10, 39), (0, 9, 3)] : zW)) rfl rfl rfl rfl rfl rfl rfl (Zu.imp (Zu.kp (P := 39) h (by decide) hk) (fun v3 s3 h => ?_))
  obtain ⟨⟨rfl, h⟩, hk⟩ := h
  change Zn _ _ _ _ _ _ _ _ _ _ _ [] _ _
  refine zn_ld rfl rfl rfl ?_
  refine zn_get (v := .ref 83) rfl (zv_R (a := 0) rfl rfl) ?_
  refine zn_ld rfl rfl rfl ?_
  refine zn_zu [.ref 83, .ref 39] [] (c := ([(75, 0, 39), (75, 1, 57), (75, 2, 61)] : zW)) (c' := ([(83, 2, 40), (83, 1, 39), (75, 0, 39), (75, 1, 57), (75, 2, 61)] : zW)) (w1 := ([(0, 10, 39), (0, 9, 3)] : zW)) rfl rfl rfl rfl rfl rfl rfl (Zu.imp (Zu.kp (P := 39) h (by decide) hk) (fun v4 s4 h => ?_))
  obtain ⟨⟨rfl, h⟩, hk⟩ := h
  change Zn _ _ _ _ _ _ _ _ _ _ _ [] _ _
  refine zn_ld rfl rfl rfl ?_
  refine zn_get (v := .ref 83) rfl (zv_R (a := 0) rfl rfl) ?_
  refine zn_ld rfl rfl rfl ?_
  refine zn_zu [.ref 83, .ref 39] [] (c := ([(75, 0, 39), (75, 1, 57), (75, 2, 61)] : zW)) (c' := ([(83, 2, 40), (83, 1, 39), (75, 0, 39), (75, 1, 57), (75, 2, 61)] : zW)) (w1 := ([(0, 10, 39), (0, 9, 3)] : zW)) rfl rfl rfl rfl rfl rfl rfl (Zu.imp (Zu.kp (P := 39) h (by decide) hk) (fun v5 s5 h => ?_))
  obtain ⟨⟨rfl, h⟩, hk⟩ := h
  change Zn _ _ _ _ _ _ _ _ _ _ _ [] _ _
  refine zn_ld rfl rfl rfl ?_
  refine zn_get (v := .ref 83) rfl (zv_R (a := 0) rfl rfl) ?_
  refine zn_ld rfl rfl rfl ?_
  refine zn_zu [.ref 83, .ref 39] [] (c := ([(75, 0, 39), (75, 1, 57), (75, 2, 61)] : zW)) (c' := ([(83, 2, 40), (83, 1, 39), (75, 0, 39), (75, 1, 57), (75, 2, 61)] : zW)) (w1 := ([(0, 10, 39), (0, 9, 3)] : zW)) rfl rfl rfl rfl rfl rfl rfl (Zu.imp (Zu.kp (P := 39) h (by decide) hk) (fun v6 s6 h => ?_))
  obtain ⟨⟨rfl, h⟩, hk⟩ := h
  change Zn _ _ _ _ _ _ _ _ _ _ _ [] _ _
  refine zn_ld rfl rfl rfl ?_
  refine zn_get (v := .ref 83) rfl (zv_R (a := 0) rfl rfl) ?_
  refine zn_ld rfl rfl rfl ?_
  refine zn_zu [.ref 83, .ref 39] [] (c := ([(75, 0, 39), (75, 1, 57), (75, 2, 61)] : zW)) (c' := ([(83, 2, 40), (83, 1, 39), (75, 0, 39), (75, 1, 57), (75, 2, 61)] : zW)) (w1 := ([(0, 10, 39), (0, 9, 3)] : zW)) rfl rfl rfl rfl rfl rfl rfl (Zu.imp (Zu.kp (P := 39) h (by decide) hk) (fun v7 s7 h => ?_))
  obtain ⟨⟨rfl, h⟩, hk⟩ := h
  change Zn _ _ _ _ _ _ _ _ _ _ _ [] _ _
  refine zn_ld rfl rfl rfl ?_
  refine zn_get (v := .ref 84) rfl (zv_R (a := 0) rfl rfl) ?_
  refine zn_ld rfl rfl rfl ?_
  refine zn_zu [.ref 84, .ref 39] [] (c := ([(75, 0, 39), (75, 1, 57), (75, 2, 61)] : zW)) (c' := ([(83, 2, 40), (83, 1, 39), (84, 4, 43), (84, 3, 40), (84, 2, 39), (75, 0, 39), (75, 1, 57), (75, 2, 61)] : zW)) (w1 := ([(0, 10, 39), (0, 9, 3)] : zW)) rfl rfl rfl rfl rfl rfl rfl (Zu.imp (Zu.kp (P := 39) h (by decide) hk) (fun v8 s8 h => ?_))
  obtain ⟨⟨rfl, h⟩, hk⟩ := h
  change Zn _ _ _ _ _ _ _ _ _ _ _ [] _ _
  refine zn_ld rfl rfl rfl ?_
  refine zn_get (v := .int (s8.1 39 14)) rfl (zv_I (a := 39) rfl rfl) ?_
  refine zn_brP rfl rfl ⟨fun hcn => ?_, fun hcn => ?_⟩
  · refine zn_ld rfl rfl rfl ?_
    refine zn_ld rfl rfl rfl ?_
    refine zn_get (v := .ref 3) rfl (zv_C (a := 0) (n := 9) rfl rfl rfl) ?_
    refine zn_wk (c := []) rfl ?_
    refine zn_putR (a := 0) (b := 3) rfl rfl rfl rfl rfl rfl rfl rfl rfl ?_
    refine zn_ld rfl rfl rfl ?_
    refine zn_ld rfl rfl rfl ?_
    refine zn_putR (a := 0) (b := 39) rfl rfl rfl rfl rfl rfl rfl rfl rfl ?_ (hkr := Or.inr ⟨by decide, hk⟩)
    refine zn_ld rfl rfl rfl ?_
    refine zn_c [.int 1, .ref 0] (xo_push (.int 1)) rfl rfl ?_
    refine zn_putI (a := 0) rfl rfl rfl rfl (by decide) rfl rfl rfl ?_ (hkl := Or.inr (Or.inr ⟨⟨rfl, rfl⟩, 39, by decide, List.mem_cons_self, hk⟩))
    refine zn_ld rfl rfl rfl ?_
    refine zn_get (v := .ref 105) rfl (zv_R (a := 0) rfl rfl) ?_
    refine zn_zt [.ref 105] [] (c := []) rfl rfl rfl rfl rfl (Zt.imp (zq_17_3 (d := d + 64) (Q := fun v s' => v = none) (fun _ _ _ _ _ _ => rfl)) (fun v9 s9 h9 => ?_))
    subst h9
    change Zn _ _ _ _ _ _ _ _ _ _ _ [] _ _
    refine zn_ld rfl rfl rfl ?_
    refine zn_get (v := .ref 197) rfl (zv_R (a := 0) rfl rfl) ?_
    refine zn_zt [.ref 197] [] (c := []) rfl rfl rfl rfl rfl (Zt.imp (zq_94_3 (d := d + 64) (Q := fun v s' => v = none) (fun _ _ _ _ => rfl)) (fun v10 s10 h10 => ?_))
    subst h10
    change Zn _ _ _ _ _ _ _ _ _ _ _ [] _ _
    refine zn_c [.int 0] (xo_push (.int 0)) rfl rfl ?_
    refine zn_wk (c := []) rfl ?_
    exact zn_retI rfl ⟨0, rfl, by rw [hcn] at h; exact h⟩
  · refine zn_ld rfl rfl rfl ?_
    refine zn_get (v := .int (s8.1 39 14)) rfl (zv_I (a := 39) rfl rfl) ?_
    refine zn_wk (c := []) rfl ?_
    exact zn_retI rfl ⟨_, rfl, h⟩
set_option maxRecDepth 20000 in
theorem zq_140_39_39 {d : Nat} {s : zS} {Q : Int32 → Prop} (h : v_140_0 d 39 s Q) : Zu (d + 74) [(84, 2), (84, 3), (84, 4), (83, 1), (83, 2), (82, 0), (82, 1), (82, 2), (75, 0), (75, 1), (75, 2), (0, 9), (0, 10)] ([(0, 10, 39), (0, 9, 39)] : zW) ([] : zW) 140 [.ref 0] s (fun v _ => ∃ r : Int32, v = some (.int r) ∧ Q r) := by
  unfold v_140_0 at h
  refine zu_of (E := xE_140) (L := xL_11) (ml := 2) (ret := some .int) rfl rfl rfl ?_
  refine zn_ld rfl rfl rfl ?_
  refine zn_get (v := .ref 39) rfl (zv_C (a := 0) (n := 0) rfl rfl rfl) ?_
  refine zn_st [.ref 0, .ref 39, .null] rfl rfl rfl ?_
  refine zn_ld rfl rfl rfl ?_
  refine zn_ld rfl rfl rfl ?_
  refine zn_get (v := .ref 1) rfl (zv_R (a := 0) rfl rfl) ?_
  refine zn_zt [.ref 39, .ref 1] [] (c := []) rfl rfl rfl rfl rfl (Zt.imp h (fun v1 s1 h => ?_))
  obtain ⟨rfl, hk, h⟩ := h
  change Zn _ _ _ _ _ _ _ _ _ _ _ [] _ _
  refine zn_ld rfl rfl rfl ?_
  refine zn_get (v := .ref 1) rfl (zv_R (a := 0) rfl rfl) ?_
  refine zn_clr [] (a := 1) (d' := d + 72) rfl rfl rfl rfl rfl rfl ?_
  replace hk : 18 ≤ ((zf s1 1 2 0).1 39 10).toInt := by rw [zf_1, if_neg (by decide)]; exact hk
  refine zn_ld rfl rfl rfl ?_
  refine zn_get (v := .ref 75) rfl (zv_R (a := 0) rfl rfl) ?_
  refine zn_ld rfl rfl rfl ?_
  refine zn_c [.int 18, .ref 39, .ref 75] (xo_push (.int 18)) rfl rfl ?_
  refine zn_zu [.ref 75, .ref 39, .int 18] [] (c := ([] : zW)) (c' := ([(75, 2, 61), (75, 1, 57), (75, 0, 39)] : zW)) (w1 := ([(0, 10, 39), (0, 9, 39)] : zW)) rfl rfl rfl rfl rfl rfl rfl (Zu.imp (Zu.kp (P := 39) h (by decide) hk) (fun v2 s2 h => ?_))
  obtain ⟨⟨rfl, h⟩, hk⟩ := h
  change Zn _ _ _ _ _ _ _ _ _ _ _ [] _ _
  refine zn_ld rfl rfl rfl ?_
  refine zn_get (v := .ref 82) rfl (zv_R (a := 0) rfl rfl) ?_
  refine zn_ld rfl rfl rfl ?_
  refine zn_zu [.ref 82, .ref 39] [] (c := ([] : zW)) (c' := ([(82, 2, 43), (82, 1, 40), (82, 0, 39)] : zW)) (w1 := ([(75, 2, 61), (75, 1, 57), (75, 0, 39), (0, 10, 39), (0, 9, 39)] : zW)) rfl rfl rfl rfl rfl rfl rfl (Zu.imp (Zu.kp (P := 39) h (by decide) hk) (fun v3 s3 h => ?_))
  obtain ⟨⟨rfl, h⟩, hk⟩ := h
  change Zn _ _ _ _ _ _ _ _ _ _ _ [] _ _
  refine zn_ld rfl rfl rfl ?_
  refine zn_get (v := .ref 83) rfl (zv_R (a := 0) rfl rfl) ?_
  refine zn_ld rfl rfl rfl ?_
  refine zn_zu [.ref 83, .ref 39] [] (c := ([(75, 0, 39), (75, 1, 57), (75, 2, 61)] : zW)) (c' := ([(83, 2, 40), (83, 1, 39), (75, 0, 39), (75, 1, 57), (75, 2, 61)] : zW)) (w1 := ([(0, 10, 39), (0, 9, 39)] : zW)) rfl rfl rfl rfl rfl rfl rfl (Zu.imp (Zu.kp (P := 39) h (by decide) hk) (fun v4 s4 h => ?_))
  obtain ⟨⟨rfl, h⟩, hk⟩ := h
  change Zn _ _ _ _ _ _ _ _ _ _ _ [] _ _
  refine zn_ld rfl rfl rfl ?_
  refine zn_get (v := .ref 83) rfl (zv_R (a := 0) rfl rfl) ?_
  refine zn_ld rfl rfl rfl ?_
  refine zn_zu [.ref 83, .ref 39] [] (c := ([(75, 0, 39), (75, 1, 57), (75, 2, 61)] : zW)) (c' := ([(83, 2, 40), (83, 1, 39), (75, 0, 39), (75, 1, 57), (75, 2, 61)] : zW)) (w1 := ([(0, 10, 39), (0, 9, 39)] : zW)) rfl rfl rfl rfl rfl rfl rfl (Zu.imp (Zu.kp (P := 39) h (by decide) hk) (fun v5 s5 h => ?_))
  obtain ⟨⟨rfl, h⟩, hk⟩ := h
  change Zn _ _ _ _ _ _ _ _ _ _ _ [] _ _
  refine zn_ld rfl rfl rfl ?_
  refine zn_get (v := .ref 83) rfl (zv_R (a := 0) rfl rfl) ?_
  refine zn_ld rfl rfl rfl ?_
  refine zn_zu [.ref 83, .ref 39] [] (c := ([(75, 0, 39), (75, 1, 57), (75, 2, 61)] : zW)) (c' := ([(83, 2, 40), (83, 1, 39), (75, 0, 39), (75, 1, 57), (75, 2, 61)] : zW)) (w1 := ([(0, 10, 39), (0, 9, 39)] : zW)) rfl rfl rfl rfl rfl rfl rfl (Zu.imp (Zu.kp (P := 39) h (by decide) hk) (fun v6 s6 h => ?_))
  obtain ⟨⟨rfl, h⟩, hk⟩ := h
  change Zn _ _ _ _ _ _ _ _ _ _ _ [] _ _
  refine zn_ld rfl rfl rfl ?_
  refine zn_get (v := .ref 83) rfl (zv_R (a := 0) rfl rfl) ?_
  refine zn_ld rfl rfl rfl ?_
  refine zn_zu [.ref 83, .ref 39] [] (c := ([(75, 0, 39), (75, 1, 57), (75, 2, 61)] : zW)) (c' := ([(83, 2, 40), (83, 1, 39), (75, 0, 39), (75, 1, 57), (75, 2, 61)] : zW)) (w1 := ([(0, 10, 39), (0, 9, 39)] : zW)) rfl rfl rfl rfl rfl rfl rfl (Zu.imp (Zu.kp (P := 39) h (by decide) hk) (fun v7 s7 h => ?_))
  obtain ⟨⟨rfl, h⟩, hk⟩ := h
  change Zn _ _ _ _ _ _ _ _ _ _ _ [] _ _
  refine zn_ld rfl rfl rfl ?_
  refine zn_get (v := .ref 84) rfl (zv_R (a := 0) rfl rfl) ?_
  refine zn_ld rfl rfl rfl ?_
  refine zn_zu [.ref 84, .ref 39] [] (c := ([(75, 0, 39), (75, 1, 57), (75, 2, 61)] : zW)) (c' := ([(83, 2, 40), (83, 1, 39), (84, 4, 43), (84, 3, 40), (84, 2, 39), (75, 0, 39), (75, 1, 57), (75, 2, 61)] : zW)) (w1 := ([(0, 10, 39), (0, 9, 39)] : zW)) rfl rfl rfl rfl rfl rfl rfl (Zu.imp (Zu.kp (P := 39) h (by decide) hk) (fun v8 s8 h => ?_))
  obtain ⟨⟨rfl, h⟩, hk⟩ := h
  change Zn _ _ _ _ _ _ _ _ _ _ _ [] _ _
  refine zn_ld rfl rfl rfl ?_
  refine zn_get (v := .int (s8.1 39 14)) rfl (zv_I (a := 39) rfl rfl) ?_
  refine zn_brP rfl rfl ⟨fun hcn => ?_, fun hcn => ?_⟩
  · refine zn_ld rfl rfl rfl ?_
    refine zn_ld rfl rfl rfl ?_
    refine zn_get (v := .ref 39) rfl (zv_C (a := 0) (n := 9) rfl rfl rfl) ?_
    refine zn_wk (c := []) rfl ?_
    refine zn_putR (a := 0) (b := 39) rfl rfl rfl rfl rfl rfl rfl rfl rfl ?_
    refine zn_ld rfl rfl rfl ?_
    refine zn_ld rfl rfl rfl ?_
    refine zn_putR (a := 0) (b := 39) rfl rfl rfl rfl rfl rfl rfl rfl rfl ?_ (hkr := Or.inr ⟨by decide, hk⟩)
    refine zn_ld rfl rfl rfl ?_
    refine zn_c [.int 1, .ref 0] (xo_push (.int 1)) rfl rfl ?_
    refine zn_putI (a := 0) rfl rfl rfl rfl (by decide) rfl rfl rfl ?_ (hkl := Or.inr (Or.inr ⟨⟨rfl, rfl⟩, 39, by decide, List.mem_cons_self, hk⟩))
    refine zn_ld rfl rfl rfl ?_
    refine zn_get (v := .ref 105) rfl (zv_R (a := 0) rfl rfl) ?_
    refine zn_zt [.ref 105] [] (c := []) rfl rfl rfl rfl rfl (Zt.imp (zq_17_3 (d := d + 64) (Q := fun v s' => v = none) (fun _ _ _ _ _ _ => rfl)) (fun v9 s9 h9 => ?_))
    subst h9
    change Zn _ _ _ _ _ _ _ _ _ _ _ [] _ _
    refine zn_ld rfl rfl rfl ?_
    refine zn_get (v := .ref 197) rfl (zv_R (a := 0) rfl rfl) ?_
    refine zn_zt [.ref 197] [] (c := []) rfl rfl rfl rfl rfl (Zt.imp (zq_94_3 (d := d + 64) (Q := fun v s' => v = none) (fun _ _ _ _ => rfl)) (fun v10 s10 h10 => ?_))
    subst h10
    change Zn _ _ _ _ _ _ _ _ _ _ _ [] _ _
    refine zn_c [.int 0] (xo_push (.int 0)) rfl rfl ?_
    refine zn_wk (c := []) rfl ?_
    exact zn_retI rfl ⟨0, rfl, by rw [hcn] at h; exact h⟩
  · refine zn_ld rfl rfl rfl ?_
    refine zn_get (v := .int (s8.1 39 14)) rfl (zv_I (a := 39) rfl rfl) ?_
    refine zn_wk (c := []) rfl ?_
    exact zn_retI rfl ⟨_, rfl, h⟩
theorem zc_140 {d P C : Nat} (hP : P = 3 ∨ P = 39) (hC : C = 3 ∨ C = 39) {s : zS} {Q : Int32 → Prop} (h : v_140_0 d P s Q) : Zu (d + 74) [(84, 2), (84, 3), (84, 4), (83, 1), (83, 2), (82, 0), (82, 1), (82, 2), (75, 0), (75, 1), (75, 2), (0, 9), (0, 10)] [(0, 10, P), (0, 9, C)] [] 140 [.ref 0] s (fun v _ => ∃ r : Int32, v = some (.int r) ∧ Q r) := by
  rcases hP with rfl | rfl
  · rcases hC with rfl | rfl
    · exact zq_140_3_3 h
    · exact zq_140_3_39 h
  · rcases hC with rfl | rfl
    · exact zq_140_39_3 h
    · exact zq_140_39_39 h
