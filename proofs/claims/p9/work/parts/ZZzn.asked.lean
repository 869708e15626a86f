/-! ===== the class: asked types (wip/p3/zask.py): Text once more by its cell 86, Told with that text ===== -/
/-- references that a method knows at its entry, where types are asked for -/
def wd3 (P j : Nat) : zW := bif Nat.ble 121 j && Nat.ble j 137 then [(83, 1, P), (83, 2, 86), (75, 0, P), (75, 1, P + 18), (75, 2, P + 22)] else wd2 P j
set_option maxRecDepth 20000 in
theorem m_111_25_85 {d d0 : Nat} (hd : d = d0 + 8) {R25 : Int32 → Int32 → Int32 → Int32 → Int32 → Int32 → zS → Prop} {a1 : Int32} {a3 : Int32} {a4 : Int32} {a5 : Int32} {a6 : Int32} {a7 : Int32} {s : zS} {Q : Option Value → zS → Prop} (r25 : ∀ a1 a3 a4 a5 a6 a7 s, R25 a1 a3 a4 a5 a6 a7 s → Zn d [] [] ([] : zW) ([] : zW) xL_9 8 (some .boolean) xE_111 (xE_111.drop 25) [.ref 86, .int a1, .ref 86, .int a3, .int a4, .int a5, .int a6, .int a7, .null, .null, .null, .null] [] s Q) (h : v_111_25 (fun j => Zt d (wd 85 j) j) 85 R25 a1 a3 a4 a5 a6 a7 s Q) : Zn d [] [] ([] : zW) ([] : zW) xL_9 8 (some .boolean) xE_111 (xE_111.drop 25) [.ref 86, .int a1, .ref 86, .int a3, .int a4, .int a5, .int a6, .int a7, .null, .null, .null, .null] [] s Q := by
  unfold v_111_25 at h
  refine zn_ld rfl rfl rfl ?_
  refine zn_ld rfl rfl rfl ?_
  refine zn_brP rfl rfl ⟨fun hcn => ?_, fun hcn => ?_⟩
  · replace h := h.1 ((i_le (x := a4) (y := a7) rfl rfl).mp hcn)
    refine zn_c [.int 1] (xo_push (.int 1)) rfl rfl ?_
    exact zn_retZ rfl rfl h
  · replace h := h.2 (fun q => hcn ((i_le (x := a4) (y := a7) rfl rfl).mpr q))
    refine zn_ld rfl rfl rfl ?_
    refine zn_get (v := .ref 87) rfl (zv_R (a := 86) rfl rfl) ?_
    refine zn_ld rfl rfl rfl ?_
    refine zn_ld rfl rfl rfl ?_
    replace h := h _ (i_add (x := a5) (y := a7) rfl rfl)
    refine zn_c [.int (a5 + a7), .ref 87] xo_iadd rfl rfl ?_
    refine zn_row (a5 + a7) [] (a := 87) hd rfl rfl rfl rfl ?_
    change Zn _ _ _ _ _ _ _ _ _ _ _ [.int (zg s 87 (a5 + a7))] _ _
    refine zn_ld rfl rfl rfl ?_
    refine zn_get (v := .ref 87) rfl (zv_R (a := 86) rfl rfl) ?_
    refine zn_ld rfl rfl rfl ?_
    refine zn_ld rfl rfl rfl ?_
    replace h := h _ (i_add (x := a6) (y := a7) rfl rfl)
    refine zn_c [.int (a6 + a7), .ref 87, .int (zg s 87 (a5 + a7))] xo_iadd rfl rfl ?_
    refine zn_row (a6 + a7) [.int (zg s 87 (a5 + a7))] (a := 87) hd rfl rfl rfl rfl ?_
    change Zn _ _ _ _ _ _ _ _ _ _ _ [.int (zg s 87 (a6 + a7)), .int (zg s 87 (a5 + a7))] _ _
    refine zn_brP rfl rfl ⟨fun hcn => ?_, fun hcn => ?_⟩
    · replace h := h.1 ((i_eq (x := zg s 87 (a5 + a7)) (y := zg s 87 (a6 + a7)) rfl rfl).mp hcn)
      replace h := h _ (i_add (x := a7) (y := 1) rfl (show (1 : Int32).toInt = 1 by decide))
      refine zn_inc [.ref 86, .int a1, .ref 86, .int a3, .int a4, .int a5, .int a6, .int (a7 + 1), .null, .null, .null, .null] rfl rfl rfl rfl ?_
      refine zn_go rfl ?_
      exact r25 a1 a3 a4 a5 a6 (a7 + 1) s h
    · replace h := h.2 (fun q => hcn ((i_eq (x := zg s 87 (a5 + a7)) (y := zg s 87 (a6 + a7)) rfl rfl).mpr q))
      refine zn_c [.int 0] (xo_push (.int 0)) rfl rfl ?_
      exact zn_retZ rfl rfl h
theorem ml_111_25_85 {d d0 : Nat} (hd : d = d0 + 8)  {a1 : Int32} {a3 : Int32} {a4 : Int32} {a5 : Int32} {a6 : Int32} {a7 : Int32} {s : zS} {Q : Option Value → zS → Prop}  (h : vl_111_25 (fun j => Zt d (wd 85 j) j) 85  a1 a3 a4 a5 a6 a7 s Q) : Zn d [] [] ([] : zW) ([] : zW) xL_9 8 (some .boolean) xE_111 (xE_111.drop 25) [.ref 86, .int a1, .ref 86, .int a3, .int a4, .int a5, .int a6, .int a7, .null, .null, .null, .null] [] s Q := by
  obtain ⟨I, μ, h0, h1⟩ := h
  have key : ∀ (n : Nat) (a1 : Int32) (a3 : Int32) (a4 : Int32) (a5 : Int32) (a6 : Int32) (a7 : Int32) (s : zS), μ a1 a3 a4 a5 a6 a7 s = n → I a1 a3 a4 a5 a6 a7 s → Zn d [] [] ([] : zW) ([] : zW) xL_9 8 (some .boolean) xE_111 (xE_111.drop 25) [.ref 86, .int a1, .ref 86, .int a3, .int a4, .int a5, .int a6, .int a7, .null, .null, .null, .null] [] s Q := by
    intro n
    induction n using Nat.strongRecOn with
    | ind n ih =>
      intro a1 a3 a4 a5 a6 a7 s e hI
      exact m_111_25_85 hd (fun a1' a3' a4' a5' a6' a7' s' q => ih _ (by rw [← e]; exact q.2) a1' a3' a4' a5' a6' a7' s' rfl q.1) (h1 a1 a3 a4 a5 a6 a7 s hI)
  exact key _ a1 a3 a4 a5 a6 a7 s rfl h0
set_option maxRecDepth 20000 in
theorem m_111_0_85 {d d0 : Nat} (hd : d = d0 + 8)  {a1 : Int32} {a3 : Int32} {s : zS} {Q : Option Value → zS → Prop}  (h : v_111_0 (fun j => Zt d (wd 85 j) j) 85  a1 a3 s Q) : Zn d [] [] ([] : zW) ([] : zW) xL_9 8 (some .boolean) xE_111 (xE_111.drop 0) [.ref 86, .int a1, .ref 86, .int a3, .null, .null, .null, .null, .null, .null, .null, .null] [] s Q := by
  unfold v_111_0 at h
  refine zn_ld rfl rfl rfl ?_
  refine zn_get (v := .ref 93) rfl (zv_R (a := 86) rfl rfl) ?_
  refine zn_ld rfl rfl rfl ?_
  refine zn_row a1 [] (a := 93) hd rfl rfl rfl rfl ?_
  change Zn _ _ _ _ _ _ _ _ _ _ _ [.int (zg s 93 a1)] _ _
  refine zn_st [.ref 86, .int a1, .ref 86, .int a3, .int (zg s 93 a1), .null, .null, .null, .null, .null, .null, .null] rfl rfl rfl ?_
  refine zn_ld rfl rfl rfl ?_
  refine zn_ld rfl rfl rfl ?_
  refine zn_get (v := .ref 93) rfl (zv_R (a := 86) rfl rfl) ?_
  refine zn_ld rfl rfl rfl ?_
  refine zn_row a3 [.int (zg s 93 a1)] (a := 93) hd rfl rfl rfl rfl ?_
  change Zn _ _ _ _ _ _ _ _ _ _ _ [.int (zg s 93 a3), .int (zg s 93 a1)] _ _
  refine zn_brP rfl rfl ⟨fun hcn => ?_, fun hcn => ?_⟩
  · replace h := h.1 ((i_eq (x := zg s 93 a1) (y := zg s 93 a3) rfl rfl).mp hcn)
    refine zn_ld rfl rfl rfl ?_
    refine zn_get (v := .ref 91) rfl (zv_R (a := 86) rfl rfl) ?_
    refine zn_ld rfl rfl rfl ?_
    refine zn_row a1 [] (a := 91) hd rfl rfl rfl rfl ?_
    change Zn _ _ _ _ _ _ _ _ _ _ _ [.int (zg s 91 a1)] _ _
    refine zn_st [.ref 86, .int a1, .ref 86, .int a3, .int (zg s 93 a1), .int (zg s 91 a1), .null, .null, .null, .null, .null, .null] rfl rfl rfl ?_
    refine zn_ld rfl rfl rfl ?_
    refine zn_get (v := .ref 91) rfl (zv_R (a := 86) rfl rfl) ?_
    refine zn_ld rfl rfl rfl ?_
    refine zn_row a3 [] (a := 91) hd rfl rfl rfl rfl ?_
    change Zn _ _ _ _ _ _ _ _ _ _ _ [.int (zg s 91 a3)] _ _
    refine zn_st [.ref 86, .int a1, .ref 86, .int a3, .int (zg s 93 a1), .int (zg s 91 a1), .int (zg s 91 a3), .null, .null, .null, .null, .null] rfl rfl rfl ?_
    refine zn_c [.int 0] (xo_push (.int 0)) rfl rfl ?_
    refine zn_st [.ref 86, .int a1, .ref 86, .int a3, .int (zg s 93 a1), .int (zg s 91 a1), .int (zg s 91 a3), .int 0, .null, .null, .null, .null] rfl rfl rfl ?_
    exact ml_111_25_85 hd  h
  · replace h := h.2 (fun q => hcn ((i_eq (x := zg s 93 a1) (y := zg s 93 a3) rfl rfl).mpr q))
    refine zn_c [.int 0] (xo_push (.int 0)) rfl rfl ?_
    exact zn_retZ rfl rfl h
theorem zq_111_85 {d : Nat} {a1 : Int32} {a3 : Int32} {s : zS} {Q : Option Value → zS → Prop} (h : v_111_0 (fun j => Zt (d + 8) (wd 85 j) j) 85 a1 a3 s Q) : Zt (d + 9) ([] : zW) 111 [.ref 86, .int a1, .ref 86, .int a3] s Q := zt_of (E := xE_111) (L := xL_9) (ml := 8) (ret := some .boolean) rfl rfl rfl (m_111_0_85 rfl h)
set_option maxRecDepth 20000 in
theorem m_114_61_85 {d d0 : Nat} (hd : d = d0 + 8)  {a1 : Int32} {a2 : Int32} {a3 : Int32} {a4 : Int32} {a5 : Int32} {s : zS} {Q : Option Value → zS → Prop}  (h : v_114_61 (fun j => Zt d (wd 85 j) j) 85  a1 a2 a3 a4 a5 s Q) : Zn d [] [] ([] : zW) ([] : zW) xL_9 6 (some .int) xE_114 (xE_114.drop 61) [.ref 86, .int a1, .int a2, .int a3, .int a4, .int a5, .null, .null] [] s Q := by
  unfold v_114_61 at h
  refine zn_ld rfl rfl rfl ?_
  refine zn_get (v := .ref 101) rfl (zv_R (a := 86) rfl rfl) ?_
  refine zn_ld rfl rfl rfl ?_
  refine zn_ld rfl rfl rfl ?_
  refine zn_get (v := .ref 99) rfl (zv_R (a := 86) rfl rfl) ?_
  refine zn_ld rfl rfl rfl ?_
  refine zn_row a3 [.int a1, .ref 101] (a := 99) hd rfl rfl rfl rfl ?_
  change Zn _ _ _ _ _ _ _ _ _ _ _ [.int (zg s 99 a3), .int a1, .ref 101] _ _
  refine zn_set a1 (zg s 99 a3) [] (a := 101) hd rfl rfl rfl rfl h.1 rfl rfl ?_
  replace h := h.2
  replace h := h _ rfl
  refine zn_ld rfl rfl rfl ?_
  refine zn_get (v := .ref 99) rfl (zv_R (a := 86) rfl rfl) ?_
  refine zn_ld rfl rfl rfl ?_
  refine zn_ld rfl rfl rfl ?_
  refine zn_c [.int 1, .int a1, .int a3, .ref 99] (xo_push (.int 1)) rfl rfl ?_
  refine zn_c [.int (a1 + 1), .int a3, .ref 99] xo_iadd rfl rfl ?_
  refine zn_set a3 (a1 + 1) [] (a := 99) hd rfl rfl rfl rfl h.1 rfl rfl ?_
  replace h := h.2
  replace h := h _ rfl
  refine zn_ld rfl rfl rfl ?_
  exact zn_retI rfl h
set_option maxRecDepth 20000 in
theorem m_114_39_85 {d d0 : Nat} (hd : d = d0 + 8) {R39 : Int32 → Int32 → Int32 → Int32 → Int32 → zS → Prop} {a1 : Int32} {a2 : Int32} {a3 : Int32} {a4 : Int32} {a5 : Int32} {s : zS} {Q : Option Value → zS → Prop} (r39 : ∀ a1 a2 a3 a4 a5 s, R39 a1 a2 a3 a4 a5 s → Zn d [] [] ([] : zW) ([] : zW) xL_9 6 (some .int) xE_114 (xE_114.drop 39) [.ref 86, .int a1, .int a2, .int a3, .int a4, .int a5, .null, .null] [] s Q) (h : v_114_39 (fun j => Zt d (wd 85 j) j) 85 R39 a1 a2 a3 a4 a5 s Q) : Zn d [] [] ([] : zW) ([] : zW) xL_9 6 (some .int) xE_114 (xE_114.drop 39) [.ref 86, .int a1, .int a2, .int a3, .int a4, .int a5, .null, .null] [] s Q := by
  unfold v_114_39 at h
  refine zn_ld rfl rfl rfl ?_
  refine zn_c [.int 4000, .int a5] (xo_push (.int 4000)) rfl rfl ?_
  refine zn_brP rfl rfl ⟨fun hcn => ?_, fun hcn => ?_⟩
  · replace h := h.1 ((i_le (x := 4000) (y := a5) (show (4000 : Int32).toInt = 4000 by decide) rfl).mp hcn)
    exact m_114_61_85 hd  h
  · replace h := h.2 (fun q => hcn ((i_le (x := 4000) (y := a5) (show (4000 : Int32).toInt = 4000 by decide) rfl).mpr q))
    refine zn_ld rfl rfl rfl ?_
    refine zn_brP rfl rfl ⟨fun hcn => ?_, fun hcn => ?_⟩
    · replace h := h.1 ((i_lt (x := a4) (y := 0) rfl (show (0 : Int32).toInt = 0 by decide)).mp hcn)
      exact m_114_61_85 hd  h
    · replace h := h.2 (fun q => hcn ((i_lt (x := a4) (y := 0) rfl (show (0 : Int32).toInt = 0 by decide)).mpr q))
      refine zn_ld rfl rfl rfl ?_
      refine zn_ld rfl rfl rfl ?_
      refine zn_ld rfl rfl rfl ?_
      refine zn_ld rfl rfl rfl ?_
      refine zn_zt [.ref 86, .int a4, .ref 86, .int a1] [] rfl rfl rfl rfl rfl (Zt.imp h (fun v1 s2 h => ?_))
      obtain ⟨x3, rfl, h⟩ := h
      change Zn _ _ _ _ _ _ _ _ _ _ _ [.int x3] _ _
      refine zn_brP rfl rfl ⟨fun hcn => ?_, fun hcn => ?_⟩
      · replace h := h.1 ((i_eq (x := x3) (y := 0) rfl (show (0 : Int32).toInt = 0 by decide)).mp hcn)
        refine zn_ld rfl rfl rfl ?_
        refine zn_get (v := .ref 101) rfl (zv_R (a := 86) rfl rfl) ?_
        refine zn_ld rfl rfl rfl ?_
        refine zn_row a4 [] (a := 101) hd rfl rfl rfl rfl ?_
        change Zn _ _ _ _ _ _ _ _ _ _ _ [.int (zg s2 101 a4)] _ _
        refine zn_c [.int 1, .int (zg s2 101 a4)] (xo_push (.int 1)) rfl rfl ?_
        refine zn_c [.int ((zg s2 101 a4) - 1)] xo_isub rfl rfl ?_
        refine zn_st [.ref 86, .int a1, .int a2, .int a3, .int ((zg s2 101 a4) - 1), .int a5, .null, .null] rfl rfl rfl ?_
        replace h := h _ (i_add (x := a5) (y := 1) rfl (show (1 : Int32).toInt = 1 by decide))
        refine zn_inc [.ref 86, .int a1, .int a2, .int a3, .int ((zg s2 101 a4) - 1), .int (a5 + 1), .null, .null] rfl rfl rfl rfl ?_
        refine zn_go rfl ?_
        exact r39 a1 a2 a3 ((zg s2 101 a4) - 1) (a5 + 1) s2 h
      · replace h := h.2 (fun q => hcn ((i_eq (x := x3) (y := 0) rfl (show (0 : Int32).toInt = 0 by decide)).mpr q))
        refine zn_ld rfl rfl rfl ?_
        exact zn_retI rfl h
theorem ml_114_39_85 {d d0 : Nat} (hd : d = d0 + 8)  {a1 : Int32} {a2 : Int32} {a3 : Int32} {a4 : Int32} {a5 : Int32} {s : zS} {Q : Option Value → zS → Prop}  (h : vl_114_39 (fun j => Zt d (wd 85 j) j) 85  a1 a2 a3 a4 a5 s Q) : Zn d [] [] ([] : zW) ([] : zW) xL_9 6 (some .int) xE_114 (xE_114.drop 39) [.ref 86, .int a1, .int a2, .int a3, .int a4, .int a5, .null, .null] [] s Q := by
  obtain ⟨I, μ, h0, h1⟩ := h
  have key : ∀ (n : Nat) (a1 : Int32) (a2 : Int32) (a3 : Int32) (a4 : Int32) (a5 : Int32) (s : zS), μ a1 a2 a3 a4 a5 s = n → I a1 a2 a3 a4 a5 s → Zn d [] [] ([] : zW) ([] : zW) xL_9 6 (some .int) xE_114 (xE_114.drop 39) [.ref 86, .int a1, .int a2, .int a3, .int a4, .int a5, .null, .null] [] s Q := by
    intro n
    induction n using Nat.strongRecOn with
    | ind n ih =>
      intro a1 a2 a3 a4 a5 s e hI
      exact m_114_39_85 hd (fun a1' a2' a3' a4' a5' s' q => ih _ (by rw [← e]; exact q.2) a1' a2' a3' a4' a5' s' rfl q.1) (h1 a1 a2 a3 a4 a5 s hI)
  exact key _ a1 a2 a3 a4 a5 s rfl h0
set_option maxRecDepth 20000 in
theorem m_114_4_85 {d d0 : Nat} (hd : d = d0 + 8) {R4 : Int32 → Int32 → Int32 → zS → Prop} {a1 : Int32} {a2 : Int32} {a3 : Int32} {s : zS} {Q : Option Value → zS → Prop} (r4 : ∀ a1 a2 a3 s, R4 a1 a2 a3 s → Zn d [] [] ([] : zW) ([] : zW) xL_9 6 (some .int) xE_114 (xE_114.drop 4) [.ref 86, .int a1, .int a2, .int a3, .null, .null, .null, .null] [] s Q) (h : v_114_4 (fun j => Zt d (wd 85 j) j) 85 R4 a1 a2 a3 s Q) : Zn d [] [] ([] : zW) ([] : zW) xL_9 6 (some .int) xE_114 (xE_114.drop 4) [.ref 86, .int a1, .int a2, .int a3, .null, .null, .null, .null] [] s Q := by
  unfold v_114_4 at h
  refine zn_ld rfl rfl rfl ?_
  refine zn_ld rfl rfl rfl ?_
  refine zn_get (v := .ref 93) rfl (zv_R (a := 86) rfl rfl) ?_
  refine zn_ld rfl rfl rfl ?_
  refine zn_row a1 [.int a3] (a := 93) hd rfl rfl rfl rfl ?_
  change Zn _ _ _ _ _ _ _ _ _ _ _ [.int (zg s 93 a1), .int a3] _ _
  refine zn_brP rfl rfl ⟨fun hcn => ?_, fun hcn => ?_⟩
  · replace h := h.1 ((i_le (x := zg s 93 a1) (y := a3) rfl rfl).mp hcn)
    refine zn_ld rfl rfl rfl ?_
    refine zn_c [.int 63, .int a2] (xo_push (.int 63)) rfl rfl ?_
    refine zn_c [.int (a2 &&& (63 : Int32))] xo_iand rfl rfl ?_
    refine zn_st [.ref 86, .int a1, .int a2, .int (a2 &&& (63 : Int32)), .null, .null, .null, .null] rfl rfl rfl ?_
    refine zn_ld rfl rfl rfl ?_
    refine zn_get (v := .ref 99) rfl (zv_R (a := 86) rfl rfl) ?_
    refine zn_ld rfl rfl rfl ?_
    refine zn_row (a2 &&& (63 : Int32)) [] (a := 99) hd rfl rfl rfl rfl ?_
    change Zn _ _ _ _ _ _ _ _ _ _ _ [.int (zg s 99 (a2 &&& (63 : Int32)))] _ _
    refine zn_c [.int 1, .int (zg s 99 (a2 &&& (63 : Int32)))] (xo_push (.int 1)) rfl rfl ?_
    refine zn_c [.int ((zg s 99 (a2 &&& (63 : Int32))) - 1)] xo_isub rfl rfl ?_
    refine zn_st [.ref 86, .int a1, .int a2, .int (a2 &&& (63 : Int32)), .int ((zg s 99 (a2 &&& (63 : Int32))) - 1), .null, .null, .null] rfl rfl rfl ?_
    refine zn_c [.int 0] (xo_push (.int 0)) rfl rfl ?_
    refine zn_st [.ref 86, .int a1, .int a2, .int (a2 &&& (63 : Int32)), .int ((zg s 99 (a2 &&& (63 : Int32))) - 1), .int 0, .null, .null] rfl rfl rfl ?_
    exact ml_114_39_85 hd  h
  · replace h := h.2 (fun q => hcn ((i_le (x := zg s 93 a1) (y := a3) rfl rfl).mpr q))
    refine zn_ld rfl rfl rfl ?_
    refine zn_c [.int 31, .int a2] (xo_push (.int 31)) rfl rfl ?_
    refine zn_c [.int (a2 * 31)] xo_imul rfl rfl ?_
    refine zn_ld rfl rfl rfl ?_
    refine zn_get (v := .ref 87) rfl (zv_R (a := 86) rfl rfl) ?_
    refine zn_ld rfl rfl rfl ?_
    refine zn_get (v := .ref 91) rfl (zv_R (a := 86) rfl rfl) ?_
    refine zn_ld rfl rfl rfl ?_
    refine zn_row a1 [.ref 87, .int (a2 * 31)] (a := 91) hd rfl rfl rfl rfl ?_
    change Zn _ _ _ _ _ _ _ _ _ _ _ [.int (zg s 91 a1), .ref 87, .int (a2 * 31)] _ _
    refine zn_ld rfl rfl rfl ?_
    refine zn_c [.int ((zg s 91 a1) + a3), .ref 87, .int (a2 * 31)] xo_iadd rfl rfl ?_
    refine zn_row ((zg s 91 a1) + a3) [.int (a2 * 31)] (a := 87) hd rfl rfl rfl rfl ?_
    change Zn _ _ _ _ _ _ _ _ _ _ _ [.int (zg s 87 ((zg s 91 a1) + a3)), .int (a2 * 31)] _ _
    refine zn_c [.int ((a2 * 31) + (zg s 87 ((zg s 91 a1) + a3)))] xo_iadd rfl rfl ?_
    refine zn_st [.ref 86, .int a1, .int ((a2 * 31) + (zg s 87 ((zg s 91 a1) + a3))), .int a3, .null, .null, .null, .null] rfl rfl rfl ?_
    replace h := h _ (i_add (x := a3) (y := 1) rfl (show (1 : Int32).toInt = 1 by decide))
    refine zn_inc [.ref 86, .int a1, .int ((a2 * 31) + (zg s 87 ((zg s 91 a1) + a3))), .int (a3 + 1), .null, .null, .null, .null] rfl rfl rfl rfl ?_
    refine zn_go rfl ?_
    exact r4 a1 ((a2 * 31) + (zg s 87 ((zg s 91 a1) + a3))) (a3 + 1) s h
theorem ml_114_4_85 {d d0 : Nat} (hd : d = d0 + 8)  {a1 : Int32} {a2 : Int32} {a3 : Int32} {s : zS} {Q : Option Value → zS → Prop}  (h : vl_114_4 (fun j => Zt d (wd 85 j) j) 85  a1 a2 a3 s Q) : Zn d [] [] ([] : zW) ([] : zW) xL_9 6 (some .int) xE_114 (xE_114.drop 4) [.ref 86, .int a1, .int a2, .int a3, .null, .null, .null, .null] [] s Q := by
  obtain ⟨I, μ, h0, h1⟩ := h
  have key : ∀ (n : Nat) (a1 : Int32) (a2 : Int32) (a3 : Int32) (s : zS), μ a1 a2 a3 s = n → I a1 a2 a3 s → Zn d [] [] ([] : zW) ([] : zW) xL_9 6 (some .int) xE_114 (xE_114.drop 4) [.ref 86, .int a1, .int a2, .int a3, .null, .null, .null, .null] [] s Q := by
    intro n
    induction n using Nat.strongRecOn with
    | ind n ih =>
      intro a1 a2 a3 s e hI
      exact m_114_4_85 hd (fun a1' a2' a3' s' q => ih _ (by rw [← e]; exact q.2) a1' a2' a3' s' rfl q.1) (h1 a1 a2 a3 s hI)
  exact key _ a1 a2 a3 s rfl h0
set_option maxRecDepth 20000 in
theorem m_114_0_85 {d d0 : Nat} (hd : d = d0 + 8)  {a1 : Int32} {s : zS} {Q : Option Value → zS → Prop}  (h : v_114_0 (fun j => Zt d (wd 85 j) j) 85  a1 s Q) : Zn d [] [] ([] : zW) ([] : zW) xL_9 6 (some .int) xE_114 (xE_114.drop 0) [.ref 86, .int a1, .null, .null, .null, .null, .null, .null] [] s Q := by
  unfold v_114_0 at h
  refine zn_c [.int 0] (xo_push (.int 0)) rfl rfl ?_
  refine zn_st [.ref 86, .int a1, .int 0, .null, .null, .null, .null, .null] rfl rfl rfl ?_
  refine zn_c [.int 0] (xo_push (.int 0)) rfl rfl ?_
  refine zn_st [.ref 86, .int a1, .int 0, .int 0, .null, .null, .null, .null] rfl rfl rfl ?_
  exact ml_114_4_85 hd  h
theorem zq_114_85 {d : Nat} {a1 : Int32} {s : zS} {Q : Option Value → zS → Prop} (h : v_114_0 (fun j => Zt (d + 8) (wd 85 j) j) 85 a1 s Q) : Zt (d + 9) ([] : zW) 114 [.ref 86, .int a1] s Q := zt_of (E := xE_114) (L := xL_9) (ml := 6) (ret := some .int) rfl rfl rfl (m_114_0_85 rfl h)
set_option maxRecDepth 20000 in
theorem m_113_29_85 {d d0 : Nat} (hd : d = d0 + 8)  {a1 : Int32} {a2 : Int32} {a3 : Int32} {a4 : Int32} {t1 : Int32} {t2 : Int32} {s : zS} {Q : Option Value → zS → Prop}  (h : v_113_29 (fun j => Zt d (wd 85 j) j) 85  a1 a2 a3 a4 t1 t2 s Q) : Zn d [] [(0, 403), (0, 439)] ([] : zW) ([] : zW) xL_9 5 (none) xE_113 (xE_113.drop 29) [.ref 86, .int a1, .int a2, .int a3, .int a4, .null, .null, .null, .null] [.int t2, .int t1, .ref 95] s Q := by
  unfold v_113_29 at h
  refine zn_set t1 t2 [] (a := 95) hd rfl rfl rfl rfl h.1 rfl rfl ?_
  replace h := h.2
  replace h := h _ rfl
  exact zn_ret0 rfl h
set_option maxRecDepth 20000 in
theorem m_113_0_85 {d d0 : Nat} (hd : d = d0 + 8)  {a1 : Int32} {a2 : Int32} {a3 : Int32} {s : zS} {Q : Option Value → zS → Prop}  (h : v_113_0 (fun j => Zt d (wd 85 j) j) 85  a1 a2 a3 s Q) : Zn d [] [(0, 403), (0, 439)] ([] : zW) ([] : zW) xL_9 5 (none) xE_113 (xE_113.drop 0) [.ref 86, .int a1, .int a2, .int a3, .null, .null, .null, .null, .null] [] s Q := by
  unfold v_113_0 at h
  refine zn_ld rfl rfl rfl ?_
  refine zn_get (v := .ref 89) rfl (zv_R (a := 86) rfl rfl) ?_
  refine zn_get (v := .int (s.1 89 2)) rfl (zv_I (a := 89) rfl rfl) ?_
  refine zn_st [.ref 86, .int a1, .int a2, .int a3, .int (s.1 89 2), .null, .null, .null, .null] rfl rfl rfl ?_
  refine zn_ld rfl rfl rfl ?_
  refine zn_get (v := .ref 89) rfl (zv_R (a := 86) rfl rfl) ?_
  refine zn_ld rfl rfl rfl ?_
  refine zn_add a1 [] (a := 89) hd rfl rfl rfl rfl ⟨Int32.le_toInt _, Int.le_of_lt_add_one (Int32.toInt_lt _)⟩ (fun q => absurd q (by decide)) rfl ?_
  replace h := h _ rfl
  refine zn_ld rfl rfl rfl ?_
  refine zn_get (v := .ref 91) rfl (zv_R (a := 86) rfl rfl) ?_
  refine zn_ld rfl rfl rfl ?_
  refine zn_ld rfl rfl rfl ?_
  refine zn_set (s.1 89 2) a2 [] (a := 91) hd rfl rfl rfl rfl h.1 rfl rfl ?_
  replace h := h.2
  replace h := h _ rfl
  refine zn_ld rfl rfl rfl ?_
  refine zn_get (v := .ref 93) rfl (zv_R (a := 86) rfl rfl) ?_
  refine zn_ld rfl rfl rfl ?_
  refine zn_ld rfl rfl rfl ?_
  refine zn_set (s.1 89 2) a3 [] (a := 93) hd rfl rfl rfl rfl ⟨Int32.le_toInt _, Int.le_of_lt_add_one (Int32.toInt_lt _)⟩ rfl rfl ?_
  replace h := h _ rfl
  refine zn_ld rfl rfl rfl ?_
  refine zn_get (v := .ref 95) rfl (zv_R (a := 86) rfl rfl) ?_
  refine zn_ld rfl rfl rfl ?_
  refine zn_ld rfl rfl rfl ?_
  refine zn_c [.int 1, .int a1, .int (s.1 89 2), .ref 95] (xo_push (.int 1)) rfl rfl ?_
  refine zn_brN rfl rfl ⟨fun hcn => ?_, fun hcn => ?_⟩
  · replace h := h.1 (fun q => hcn ((i_eq (x := a1) (y := 1) rfl (show (1 : Int32).toInt = 1 by decide)).mpr q))
    refine zn_ld rfl rfl rfl ?_
    exact m_113_29_85 hd  h
  · replace h := h.2 ((i_eq (x := a1) (y := 1) rfl (show (1 : Int32).toInt = 1 by decide)).mp hcn)
    refine zn_ld rfl rfl rfl ?_
    refine zn_ld rfl rfl rfl ?_
    refine zn_zt [.ref 86, .int (s.1 89 2)] [.int (s.1 89 2), .ref 95] rfl rfl rfl rfl rfl (Zt.imp h (fun v4 s5 h => ?_))
    obtain ⟨x6, rfl, h⟩ := h
    change Zn _ _ _ _ _ _ _ _ _ _ _ [.int x6, .int (s.1 89 2), .ref 95] _ _
    refine zn_go rfl ?_
    exact m_113_29_85 hd  h
theorem zq_113_85 {d : Nat} {a1 : Int32} {a2 : Int32} {a3 : Int32} {s : zS} {Q : Option Value → zS → Prop} (h : v_113_0 (fun j => Zt (d + 8) (wd 85 j) j) 85 a1 a2 a3 s Q) : Zt (d + 9) ([] : zW) 113 [.ref 86, .int a1, .int a2, .int a3] s Q := zt_of (E := xE_113) (L := xL_9) (ml := 5) (ret := none) rfl rfl rfl (m_113_0_85 rfl h)
set_option maxRecDepth 20000 in
theorem m_116_8_85e1000001 {d d0 : Nat} (hd : d = d0 + 8) {R8 : Int32 → Int32 → Int32 → zS → Prop} {a1 : Int32} {a2 : Int32} {a4 : Int32} {s : zS} {Q : Option Value → zS → Prop} (r8 : ∀ a1 a2 a4 s, R8 a1 a2 a4 s → Zn d [] [] ([] : zW) ([] : zW) xL_9 5 (some .boolean) xE_116 (xE_116.drop 8) [.ref 86, .int a1, .int a2, .ref 1000001, .int a4, .null, .null, .null, .null] [] s Q) (h : v_116_8 (fun j => Zt d (wd 85 j) j) 85 1000001 R8 a1 a2 a4 s Q) : Zn d [] [] ([] : zW) ([] : zW) xL_9 5 (some .boolean) xE_116 (xE_116.drop 8) [.ref 86, .int a1, .int a2, .ref 1000001, .int a4, .null, .null, .null, .null] [] s Q := by
  unfold v_116_8 at h
  refine zn_ld rfl rfl rfl ?_
  refine zn_ld rfl rfl rfl ?_
  refine zn_lenS rfl rfl ?_
  change Zn _ _ _ _ _ _ _ _ _ _ _ [.int (xnS (1000001 % 1000000)), .int a4] _ _
  refine zn_brP rfl rfl ⟨fun hcn => ?_, fun hcn => ?_⟩
  · replace h := h.1 ((i_le (x := xnS (1000001 % 1000000)) (y := a4) rfl rfl).mp hcn)
    refine zn_c [.int 1] (xo_push (.int 1)) rfl rfl ?_
    exact zn_retZ rfl rfl h
  · replace h := h.2 (fun q => hcn ((i_le (x := xnS (1000001 % 1000000)) (y := a4) rfl rfl).mpr q))
    refine zn_ld rfl rfl rfl ?_
    refine zn_get (v := .ref 87) rfl (zv_R (a := 86) rfl rfl) ?_
    refine zn_ld rfl rfl rfl ?_
    refine zn_ld rfl rfl rfl ?_
    replace h := h _ (i_add (x := a1) (y := a4) rfl rfl)
    refine zn_c [.int (a1 + a4), .ref 87] xo_iadd rfl rfl ?_
    refine zn_row (a1 + a4) [] (a := 87) hd rfl rfl rfl rfl ?_
    change Zn _ _ _ _ _ _ _ _ _ _ _ [.int (zg s 87 (a1 + a4))] _ _
    refine zn_ld rfl rfl rfl ?_
    refine zn_ld rfl rfl rfl ?_
    refine zn_chS rfl rfl rfl h.1 ?_
    replace h := h.2
    change Zn _ _ _ _ _ _ _ _ _ _ _ [.int (xch (1000001 % 1000000) a4), .int (zg s 87 (a1 + a4))] _ _
    refine zn_brP rfl rfl ⟨fun hcn => ?_, fun hcn => ?_⟩
    · replace h := h.1 ((i_eq (x := zg s 87 (a1 + a4)) (y := xch (1000001 % 1000000) a4) rfl rfl).mp hcn)
      replace h := h _ (i_add (x := a4) (y := 1) rfl (show (1 : Int32).toInt = 1 by decide))
      refine zn_inc [.ref 86, .int a1, .int a2, .ref 1000001, .int (a4 + 1), .null, .null, .null, .null] rfl rfl rfl rfl ?_
      refine zn_go rfl ?_
      exact r8 a1 a2 (a4 + 1) s h
    · replace h := h.2 (fun q => hcn ((i_eq (x := zg s 87 (a1 + a4)) (y := xch (1000001 % 1000000) a4) rfl rfl).mpr q))
      refine zn_c [.int 0] (xo_push (.int 0)) rfl rfl ?_
      exact zn_retZ rfl rfl h
theorem ml_116_8_85e1000001 {d d0 : Nat} (hd : d = d0 + 8)  {a1 : Int32} {a2 : Int32} {a4 : Int32} {s : zS} {Q : Option Value → zS → Prop}  (h : vl_116_8 (fun j => Zt d (wd 85 j) j) 85 1000001  a1 a2 a4 s Q) : Zn d [] [] ([] : zW) ([] : zW) xL_9 5 (some .boolean) xE_116 (xE_116.drop 8) [.ref 86, .int a1, .int a2, .ref 1000001, .int a4, .null, .null, .null, .null] [] s Q := by
  obtain ⟨I, μ, h0, h1⟩ := h
  have key : ∀ (n : Nat) (a1 : Int32) (a2 : Int32) (a4 : Int32) (s : zS), μ a1 a2 a4 s = n → I a1 a2 a4 s → Zn d [] [] ([] : zW) ([] : zW) xL_9 5 (some .boolean) xE_116 (xE_116.drop 8) [.ref 86, .int a1, .int a2, .ref 1000001, .int a4, .null, .null, .null, .null] [] s Q := by
    intro n
    induction n using Nat.strongRecOn with
    | ind n ih =>
      intro a1 a2 a4 s e hI
      exact m_116_8_85e1000001 hd (fun a1' a2' a4' s' q => ih _ (by rw [← e]; exact q.2) a1' a2' a4' s' rfl q.1) (h1 a1 a2 a4 s hI)
  exact key _ a1 a2 a4 s rfl h0
set_option maxRecDepth 20000 in
theorem m_116_0_85e1000001 {d d0 : Nat} (hd : d = d0 + 8)  {a1 : Int32} {a2 : Int32} {s : zS} {Q : Option Value → zS → Prop}  (h : v_116_0 (fun j => Zt d (wd 85 j) j) 85 1000001  a1 a2 s Q) : Zn d [] [] ([] : zW) ([] : zW) xL_9 5 (some .boolean) xE_116 (xE_116.drop 0) [.ref 86, .int a1, .int a2, .ref 1000001, .null, .null, .null, .null, .null] [] s Q := by
  unfold v_116_0 at h
  refine zn_ld rfl rfl rfl ?_
  refine zn_ld rfl rfl rfl ?_
  refine zn_lenS rfl rfl ?_
  change Zn _ _ _ _ _ _ _ _ _ _ _ [.int (xnS (1000001 % 1000000)), .int a2] _ _
  refine zn_brP rfl rfl ⟨fun hcn => ?_, fun hcn => ?_⟩
  · replace h := h.1 ((i_eq (x := a2) (y := xnS (1000001 % 1000000)) rfl rfl).mp hcn)
    refine zn_c [.int 0] (xo_push (.int 0)) rfl rfl ?_
    refine zn_st [.ref 86, .int a1, .int a2, .ref 1000001, .int 0, .null, .null, .null, .null] rfl rfl rfl ?_
    exact ml_116_8_85e1000001 hd  h
  · replace h := h.2 (fun q => hcn ((i_eq (x := a2) (y := xnS (1000001 % 1000000)) rfl rfl).mpr q))
    refine zn_c [.int 0] (xo_push (.int 0)) rfl rfl ?_
    exact zn_retZ rfl rfl h
theorem zq_116_85e1000001 {d : Nat} {a1 : Int32} {a2 : Int32} {s : zS} {Q : Option Value → zS → Prop} (h : v_116_0 (fun j => Zt (d + 8) (wd 85 j) j) 85 1000001 a1 a2 s Q) : Zt (d + 9) ([] : zW) 116 [.ref 86, .int a1, .int a2, .ref 1000001] s Q := zt_of (E := xE_116) (L := xL_9) (ml := 5) (ret := some .boolean) rfl rfl rfl (m_116_0_85e1000001 rfl h)
set_option maxRecDepth 20000 in
theorem m_116_8_85e1000002 {d d0 : Nat} (hd : d = d0 + 8) {R8 : Int32 → Int32 → Int32 → zS → Prop} {a1 : Int32} {a2 : Int32} {a4 : Int32} {s : zS} {Q : Option Value → zS → Prop} (r8 : ∀ a1 a2 a4 s, R8 a1 a2 a4 s → Zn d [] [] ([] : zW) ([] : zW) xL_9 5 (some .boolean) xE_116 (xE_116.drop 8) [.ref 86, .int a1, .int a2, .ref 1000002, .int a4, .null, .null, .null, .null] [] s Q) (h : v_116_8 (fun j => Zt d (wd 85 j) j) 85 1000002 R8 a1 a2 a4 s Q) : Zn d [] [] ([] : zW) ([] : zW) xL_9 5 (some .boolean) xE_116 (xE_116.drop 8) [.ref 86, .int a1, .int a2, .ref 1000002, .int a4, .null, .null, .null, .null] [] s Q := by
  unfold v_116_8 at h
  refine zn_ld rfl rfl rfl ?_
  refine zn_ld rfl rfl rfl ?_
  refine zn_lenS rfl rfl ?_
  change Zn _ _ _ _ _ _ _ _ _ _ _ [.int (xnS (1000002 % 1000000)), .int a4] _ _
  refine zn_brP rfl rfl ⟨fun hcn => ?_, fun hcn => ?_⟩
  · replace h := h.1 ((i_le (x := xnS (1000002 % 1000000)) (y := a4) rfl rfl).mp hcn)
    refine zn_c [.int 1] (xo_push (.int 1)) rfl rfl ?_
    exact zn_retZ rfl rfl h
  · replace h := h.2 (fun q => hcn ((i_le (x := xnS (1000002 % 1000000)) (y := a4) rfl rfl).mpr q))
    refine zn_ld rfl rfl rfl ?_
    refine zn_get (v := .ref 87) rfl (zv_R (a := 86) rfl rfl) ?_
    refine zn_ld rfl rfl rfl ?_
    refine zn_ld rfl rfl rfl ?_
    replace h := h _ (i_add (x := a1) (y := a4) rfl rfl)
    refine zn_c [.int (a1 + a4), .ref 87] xo_iadd rfl rfl ?_
    refine zn_row (a1 + a4) [] (a := 87) hd rfl rfl rfl rfl ?_
    change Zn _ _ _ _ _ _ _ _ _ _ _ [.int (zg s 87 (a1 + a4))] _ _
    refine zn_ld rfl rfl rfl ?_
    refine zn_ld rfl rfl rfl ?_
    refine zn_chS rfl rfl rfl h.1 ?_
    replace h := h.2
    change Zn _ _ _ _ _ _ _ _ _ _ _ [.int (xch (1000002 % 1000000) a4), .int (zg s 87 (a1 + a4))] _ _
    refine zn_brP rfl rfl ⟨fun hcn => ?_, fun hcn => ?_⟩
    · replace h := h.1 ((i_eq (x := zg s 87 (a1 + a4)) (y := xch (1000002 % 1000000) a4) rfl rfl).mp hcn)
      replace h := h _ (i_add (x := a4) (y := 1) rfl (show (1 : Int32).toInt = 1 by decide))
      refine zn_inc [.ref 86, .int a1, .int a2, .ref 1000002, .int (a4 + 1), .null, .null, .null, .null] rfl rfl rfl rfl ?_
      refine zn_go rfl ?_
      exact r8 a1 a2 (a4 + 1) s h
    · replace h := h.2 (fun q => hcn ((i_eq (x := zg s 87 (a1 + a4)) (y := xch (1000002 % 1000000) a4) rfl rfl).mpr q))
      refine zn_c [.int 0] (xo_push (.int 0)) rfl rfl ?_
      exact zn_retZ rfl rfl h
theorem ml_116_8_85e1000002 {d d0 : Nat} (hd : d = d0 + 8)  {a1 : Int32} {a2 : Int32} {a4 : Int32} {s : zS} {Q : Option Value → zS → Prop}  (h : vl_116_8 (fun j => Zt d (wd 85 j) j) 85 1000002  a1 a2 a4 s Q) : Zn d [] [] ([] : zW) ([] : zW) xL_9 5 (some .boolean) xE_116 (xE_116.drop 8) [.ref 86, .int a1, .int a2, .ref 1000002, .int a4, .null, .null, .null, .null] [] s Q := by
  obtain ⟨I, μ, h0, h1⟩ := h
  have key : ∀ (n : Nat) (a1 : Int32) (a2 : Int32) (a4 : Int32) (s : zS), μ a1 a2 a4 s = n → I a1 a2 a4 s → Zn d [] [] ([] : zW) ([] : zW) xL_9 5 (some .boolean) xE_116 (xE_116.drop 8) [.ref 86, .int a1, .int a2, .ref 1000002, .int a4, .null, .null, .null, .null] [] s Q := by
    intro n
    induction n using Nat.strongRecOn with
    | ind n ih =>
      intro a1 a2 a4 s e hI
      exact m_116_8_85e1000002 hd (fun a1' a2' a4' s' q => ih _ (by rw [← e]; exact q.2) a1' a2' a4' s' rfl q.1) (h1 a1 a2 a4 s hI)
  exact key _ a1 a2 a4 s rfl h0
set_option maxRecDepth 20000 in
theorem m_116_0_85e1000002 {d d0 : Nat} (hd : d = d0 + 8)  {a1 : Int32} {a2 : Int32} {s : zS} {Q : Option Value → zS → Prop}  (h : v_116_0 (fun j => Zt d (wd 85 j) j) 85 1000002  a1 a2 s Q) : Zn d [] [] ([] : zW) ([] : zW) xL_9 5 (some .boolean) xE_116 (xE_116.drop 0) [.ref 86, .int a1, .int a2, .ref 1000002, .null, .null, .null, .null, .null] [] s Q := by
  unfold v_116_0 at h
  refine zn_ld rfl rfl rfl ?_
  refine zn_ld rfl rfl rfl ?_
  refine zn_lenS rfl rfl ?_
  change Zn _ _ _ _ _ _ _ _ _ _ _ [.int (xnS (1000002 % 1000000)), .int a2] _ _
  refine zn_brP rfl rfl ⟨fun hcn => ?_, fun hcn => ?_⟩
  · replace h := h.1 ((i_eq (x := a2) (y := xnS (1000002 % 1000000)) rfl rfl).mp hcn)
    refine zn_c [.int 0] (xo_push (.int 0)) rfl rfl ?_
    refine zn_st [.ref 86, .int a1, .int a2, .ref 1000002, .int 0, .null, .null, .null, .null] rfl rfl rfl ?_
    exact ml_116_8_85e1000002 hd  h
  · replace h := h.2 (fun q => hcn ((i_eq (x := a2) (y := xnS (1000002 % 1000000)) rfl rfl).mpr q))
    refine zn_c [.int 0] (xo_push (.int 0)) rfl rfl ?_
    exact zn_retZ rfl rfl h
theorem zq_116_85e1000002 {d : Nat} {a1 : Int32} {a2 : Int32} {s : zS} {Q : Option Value → zS → Prop} (h : v_116_0 (fun j => Zt (d + 8) (wd 85 j) j) 85 1000002 a1 a2 s Q) : Zt (d + 9) ([] : zW) 116 [.ref 86, .int a1, .int a2, .ref 1000002] s Q := zt_of (E := xE_116) (L := xL_9) (ml := 5) (ret := some .boolean) rfl rfl rfl (m_116_0_85e1000002 rfl h)
set_option maxRecDepth 20000 in
theorem m_116_8_85e1000003 {d d0 : Nat} (hd : d = d0 + 8) {R8 : Int32 → Int32 → Int32 → zS → Prop} {a1 : Int32} {a2 : Int32} {a4 : Int32} {s : zS} {Q : Option Value → zS → Prop} (r8 : ∀ a1 a2 a4 s, R8 a1 a2 a4 s → Zn d [] [] ([] : zW) ([] : zW) xL_9 5 (some .boolean) xE_116 (xE_116.drop 8) [.ref 86, .int a1, .int a2, .ref 1000003, .int a4, .null, .null, .null, .null] [] s Q) (h : v_116_8 (fun j => Zt d (wd 85 j) j) 85 1000003 R8 a1 a2 a4 s Q) : Zn d [] [] ([] : zW) ([] : zW) xL_9 5 (some .boolean) xE_116 (xE_116.drop 8) [.ref 86, .int a1, .int a2, .ref 1000003, .int a4, .null, .null, .null, .null] [] s Q := by
  unfold v_116_8 at h
  refine zn_ld rfl rfl rfl ?_
  refine zn_ld rfl rfl rfl ?_
  refine zn_lenS rfl rfl ?_
  change Zn _ _ _ _ _ _ _ _ _ _ _ [.int (xnS (1000003 % 1000000)), .int a4] _ _
  refine zn_brP rfl rfl ⟨fun hcn => ?_, fun hcn => ?_⟩
  · replace h := h.1 ((i_le (x := xnS (1000003 % 1000000)) (y := a4) rfl rfl).mp hcn)
    refine zn_c [.int 1] (xo_push (.int 1)) rfl rfl ?_
    exact zn_retZ rfl rfl h
  · replace h := h.2 (fun q => hcn ((i_le (x := xnS (1000003 % 1000000)) (y := a4) rfl rfl).mpr q))
    refine zn_ld rfl rfl rfl ?_
    refine zn_get (v := .ref 87) rfl (zv_R (a := 86) rfl rfl) ?_
    refine zn_ld rfl rfl rfl ?_
    refine zn_ld rfl rfl rfl ?_
    replace h := h _ (i_add (x := a1) (y := a4) rfl rfl)
    refine zn_c [.int (a1 + a4), .ref 87] xo_iadd rfl rfl ?_
    refine zn_row (a1 + a4) [] (a := 87) hd rfl rfl rfl rfl ?_
    change Zn _ _ _ _ _ _ _ _ _ _ _ [.int (zg s 87 (a1 + a4))] _ _
    refine zn_ld rfl rfl rfl ?_
    refine zn_ld rfl rfl rfl ?_
    refine zn_chS rfl rfl rfl h.1 ?_
    replace h := h.2
    change Zn _ _ _ _ _ _ _ _ _ _ _ [.int (xch (1000003 % 1000000) a4), .int (zg s 87 (a1 + a4))] _ _
    refine zn_brP rfl rfl ⟨fun hcn => ?_, fun hcn => ?_⟩
    · replace h := h.1 ((i_eq (x := zg s 87 (a1 + a4)) (y := xch (1000003 % 1000000) a4) rfl rfl).mp hcn)
      replace h := h _ (i_add (x := a4) (y := 1) rfl (show (1 : Int32).toInt = 1 by decide))
      refine zn_inc [.ref 86, .int a1, .int a2, .ref 1000003, .int (a4 + 1), .null, .null, .null, .null] rfl rfl rfl rfl ?_
      refine zn_go rfl ?_
      exact r8 a1 a2 (a4 + 1) s h
    · replace h := h.2 (fun q => hcn ((i_eq (x := zg s 87 (a1 + a4)) (y := xch (1000003 % 1000000) a4) rfl rfl).mpr q))
      refine zn_c [.int 0] (xo_push (.int 0)) rfl rfl ?_
      exact zn_retZ rfl rfl h
theorem ml_116_8_85e1000003 {d d0 : Nat} (hd : d = d0 + 8)  {a1 : Int32} {a2 : Int32} {a4 : Int32} {s : zS} {Q : Option Value → zS → Prop}  (h : vl_116_8 (fun j => Zt d (wd 85 j) j) 85 1000003  a1 a2 a4 s Q) : Zn d [] [] ([] : zW) ([] : zW) xL_9 5 (some .boolean) xE_116 (xE_116.drop 8) [.ref 86, .int a1, .int a2, .ref 1000003, .int a4, .null, .null, .null, .null] [] s Q := by
  obtain ⟨I, μ, h0, h1⟩ := h
  have key : ∀ (n : Nat) (a1 : Int32) (a2 : Int32) (a4 : Int32) (s : zS), μ a1 a2 a4 s = n → I a1 a2 a4 s → Zn d [] [] ([] : zW) ([] : zW) xL_9 5 (some .boolean) xE_116 (xE_116.drop 8) [.ref 86, .int a1, .int a2, .ref 1000003, .int a4, .null, .null, .null, .null] [] s Q := by
    intro n
    induction n using Nat.strongRecOn with
    | ind n ih =>
      intro a1 a2 a4 s e hI
      exact m_116_8_85e1000003 hd (fun a1' a2' a4' s' q => ih _ (by rw [← e]; exact q.2) a1' a2' a4' s' rfl q.1) (h1 a1 a2 a4 s hI)
  exact key _ a1 a2 a4 s rfl h0
set_option maxRecDepth 20000 in
theorem m_116_0_85e1000003 {d d0 : Nat} (hd : d = d0 + 8)  {a1 : Int32} {a2 : Int32} {s : zS} {Q : Option Value → zS → Prop}  (h : v_116_0 (fun j => Zt d (wd 85 j) j) 85 1000003  a1 a2 s Q) : Zn d [] [] ([] : zW) ([] : zW) xL_9 5 (some .boolean) xE_116 (xE_116.drop 0) [.ref 86, .int a1, .int a2, .ref 1000003, .null, .null, .null, .null, .null] [] s Q := by
  unfold v_116_0 at h
  refine zn_ld rfl rfl rfl ?_
  refine zn_ld rfl rfl rfl ?_
  refine zn_lenS rfl rfl ?_
  change Zn _ _ _ _ _ _ _ _ _ _ _ [.int (xnS (1000003 % 1000000)), .int a2] _ _
  refine zn_brP rfl rfl ⟨fun hcn => ?_, fun hcn => ?_⟩
  · replace h := h.1 ((i_eq (x := a2) (y := xnS (1000003 % 1000000)) rfl rfl).mp hcn)
    refine zn_c [.int 0] (xo_push (.int 0)) rfl rfl ?_
    refine zn_st [.ref 86, .int a1, .int a2, .ref 1000003, .int 0, .null, .null, .null, .null] rfl rfl rfl ?_
    exact ml_116_8_85e1000003 hd  h
  · replace h := h.2 (fun q => hcn ((i_eq (x := a2) (y := xnS (1000003 % 1000000)) rfl rfl).mpr q))
    refine zn_c [.int 0] (xo_push (.int 0)) rfl rfl ?_
    exact zn_retZ rfl rfl h
theorem zq_116_85e1000003 {d : Nat} {a1 : Int32} {a2 : Int32} {s : zS} {Q : Option Value → zS → Prop} (h : v_116_0 (fun j => Zt (d + 8) (wd 85 j) j) 85 1000003 a1 a2 s Q) : Zt (d + 9) ([] : zW) 116 [.ref 86, .int a1, .int a2, .ref 1000003] s Q := zt_of (E := xE_116) (L := xL_9) (ml := 5) (ret := some .boolean) rfl rfl rfl (m_116_0_85e1000003 rfl h)
set_option maxRecDepth 20000 in
theorem m_116_8_85e1000004 {d d0 : Nat} (hd : d = d0 + 8) {R8 : Int32 → Int32 → Int32 → zS → Prop} {a1 : Int32} {a2 : Int32} {a4 : Int32} {s : zS} {Q : Option Value → zS → Prop} (r8 : ∀ a1 a2 a4 s, R8 a1 a2 a4 s → Zn d [] [] ([] : zW) ([] : zW) xL_9 5 (some .boolean) xE_116 (xE_116.drop 8) [.ref 86, .int a1, .int a2, .ref 1000004, .int a4, .null, .null, .null, .null] [] s Q) (h : v_116_8 (fun j => Zt d (wd 85 j) j) 85 1000004 R8 a1 a2 a4 s Q) : Zn d [] [] ([] : zW) ([] : zW) xL_9 5 (some .boolean) xE_116 (xE_116.drop 8) [.ref 86, .int a1, .int a2, .ref 1000004, .int a4, .null, .null, .null, .null] [] s Q := by
  unfold v_116_8 at h
  refine zn_ld rfl rfl rfl ?_
  refine zn_ld rfl rfl rfl ?_
  refine zn_lenS rfl rfl ?_
  change Zn _ _ _ _ _ _ _ _ _ _ _ [.int (xnS (1000004 % 1000000)), .int a4] _ _
  refine zn_brP rfl rfl ⟨fun hcn => ?_, fun hcn => ?_⟩
  · replace h := h.1 ((i_le (x := xnS (1000004 % 1000000)) (y := a4) rfl rfl).mp hcn)
    refine zn_c [.int 1] (xo_push (.int 1)) rfl rfl ?_
    exact zn_retZ rfl rfl h
  · replace h := h.2 (fun q => hcn ((i_le (x := xnS (1000004 % 1000000)) (y := a4) rfl rfl).mpr q))
    refine zn_ld rfl rfl rfl ?_
    refine zn_get (v := .ref 87) rfl (zv_R (a := 86) rfl rfl) ?_
    refine zn_ld rfl rfl rfl ?_
    refine zn_ld rfl rfl rfl ?_
    replace h := h _ (i_add (x := a1) (y := a4) rfl rfl)
    refine zn_c [.int (a1 + a4), .ref 87] xo_iadd rfl rfl ?_
    refine zn_row (a1 + a4) [] (a := 87) hd rfl rfl rfl rfl ?_
    change Zn _ _ _ _ _ _ _ _ _ _ _ [.int (zg s 87 (a1 + a4))] _ _
    refine zn_ld rfl rfl rfl ?_
    refine zn_ld rfl rfl rfl ?_
    refine zn_chS rfl rfl rfl h.1 ?_
    replace h := h.2
    change Zn _ _ _ _ _ _ _ _ _ _ _ [.int (xch (1000004 % 1000000) a4), .int (zg s 87 (a1 + a4))] _ _
    refine zn_brP rfl rfl ⟨fun hcn => ?_, fun hcn => ?_⟩
    · replace h := h.1 ((i_eq (x := zg s 87 (a1 + a4)) (y := xch (1000004 % 1000000) a4) rfl rfl).mp hcn)
      replace h := h _ (i_add (x := a4) (y := 1) rfl (show (1 : Int32).toInt = 1 by decide))
      refine zn_inc [.ref 86, .int a1, .int a2, .ref 1000004, .int (a4 + 1), .null, .null, .null, .null] rfl rfl rfl rfl ?_
      refine zn_go rfl ?_
      exact r8 a1 a2 (a4 + 1) s h
    · replace h := h.2 (fun q => hcn ((i_eq (x := zg s 87 (a1 + a4)) (y := xch (1000004 % 1000000) a4) rfl rfl).mpr q))
      refine zn_c [.int 0] (xo_push (.int 0)) rfl rfl ?_
      exact zn_retZ rfl rfl h
theorem ml_116_8_85e1000004 {d d0 : Nat} (hd : d = d0 + 8)  {a1 : Int32} {a2 : Int32} {a4 : Int32} {s : zS} {Q : Option Value → zS → Prop}  (h : vl_116_8 (fun j => Zt d (wd 85 j) j) 85 1000004  a1 a2 a4 s Q) : Zn d [] [] ([] : zW) ([] : zW) xL_9 5 (some .boolean) xE_116 (xE_116.drop 8) [.ref 86, .int a1, .int a2, .ref 1000004, .int a4, .null, .null, .null, .null] [] s Q := by
  obtain ⟨I, μ, h0, h1⟩ := h
  have key : ∀ (n : Nat) (a1 : Int32) (a2 : Int32) (a4 : Int32) (s : zS), μ a1 a2 a4 s = n → I a1 a2 a4 s → Zn d [] [] ([] : zW) ([] : zW) xL_9 5 (some .boolean) xE_116 (xE_116.drop 8) [.ref 86, .int a1, .int a2, .ref 1000004, .int a4, .null, .null, .null, .null] [] s Q := by
    intro n
    induction n using Nat.strongRecOn with
    | ind n ih =>
      intro a1 a2 a4 s e hI
      exact m_116_8_85e1000004 hd (fun a1' a2' a4' s' q => ih _ (by rw [← e]; exact q.2) a1' a2' a4' s' rfl q.1) (h1 a1 a2 a4 s hI)
  exact key _ a1 a2 a4 s rfl h0
set_option maxRecDepth 20000 in
theorem m_116_0_85e1000004 {d d0 : Nat} (hd : d = d0 + 8)  {a1 : Int32} {a2 : Int32} {s : zS} {Q : Option Value → zS → Prop}  (h : v_116_0 (fun j => Zt d (wd 85 j) j) 85 1000004  a1 a2 s Q) : Zn d [] [] ([] : zW) ([] : zW) xL_9 5 (some .boolean) xE_116 (xE_116.drop 0) [.ref 86, .int a1, .int a2, .ref 1000004, .null, .null, .null, .null, .null] [] s Q := by
  unfold v_116_0 at h
  refine zn_ld rfl rfl rfl ?_
  refine zn_ld rfl rfl rfl ?_
  refine zn_lenS rfl rfl ?_
  change Zn _ _ _ _ _ _ _ _ _ _ _ [.int (xnS (1000004 % 1000000)), .int a2] _ _
  refine zn_brP rfl rfl ⟨fun hcn => ?_, fun hcn => ?_⟩
  · replace h := h.1 ((i_eq (x := a2) (y := xnS (1000004 % 1000000)) rfl rfl).mp hcn)
    refine zn_c [.int 0] (xo_push (.int 0)) rfl rfl ?_
    refine zn_st [.ref 86, .int a1, .int a2, .ref 1000004, .int 0, .null, .null, .null, .null] rfl rfl rfl ?_
    exact ml_116_8_85e1000004 hd  h
  · replace h := h.2 (fun q => hcn ((i_eq (x := a2) (y := xnS (1000004 % 1000000)) rfl rfl).mpr q))
    refine zn_c [.int 0] (xo_push (.int 0)) rfl rfl ?_
    exact zn_retZ rfl rfl h
theorem zq_116_85e1000004 {d : Nat} {a1 : Int32} {a2 : Int32} {s : zS} {Q : Option Value → zS → Prop} (h : v_116_0 (fun j => Zt (d + 8) (wd 85 j) j) 85 1000004 a1 a2 s Q) : Zt (d + 9) ([] : zW) 116 [.ref 86, .int a1, .int a2, .ref 1000004] s Q := zt_of (E := xE_116) (L := xL_9) (ml := 5) (ret := some .boolean) rfl rfl rfl (m_116_0_85e1000004 rfl h)
set_option maxRecDepth 20000 in
theorem m_116_8_85e1000005 {d d0 : Nat} (hd : d = d0 + 8) {R8 : Int32 → Int32 → Int32 → zS → Prop} {a1 : Int32} {a2 : Int32} {a4 : Int32} {s : zS} {Q : Option Value → zS → Prop} (r8 : ∀ a1 a2 a4 s, R8 a1 a2 a4 s → Zn d [] [] ([] : zW) ([] : zW) xL_9 5 (some .boolean) xE_116 (xE_116.drop 8) [.ref 86, .int a1, .int a2, .ref 1000005, .int a4, .null, .null, .null, .null] [] s Q) (h : v_116_8 (fun j => Zt d (wd 85 j) j) 85 1000005 R8 a1 a2 a4 s Q) : Zn d [] [] ([] : zW) ([] : zW) xL_9 5 (some .boolean) xE_116 (xE_116.drop 8) [.ref 86, .int a1, .int a2, .ref 1000005, .int a4, .null, .null, .null, .null] [] s Q := by
  unfold v_116_8 at h
  refine zn_ld rfl rfl rfl ?_
  refine zn_ld rfl rfl rfl ?_
  refine zn_lenS rfl rfl ?_
  change Zn _ _ _ _ _ _ _ _ _ _ _ [.int (xnS (1000005 % 1000000)), .int a4] _ _
  refine zn_brP rfl rfl ⟨fun hcn => ?_, fun hcn => ?_⟩
  · replace h := h.1 ((i_le (x := xnS (1000005 % 1000000)) (y := a4) rfl rfl).mp hcn)
    refine zn_c [.int 1] (xo_push (.int 1)) rfl rfl ?_
    exact zn_retZ rfl rfl h
  · replace h := h.2 (fun q => hcn ((i_le (x := xnS (1000005 % 1000000)) (y := a4) rfl rfl).mpr q))
    refine zn_ld rfl rfl rfl ?_
    refine zn_get (v := .ref 87) rfl (zv_R (a := 86) rfl rfl) ?_
    refine zn_ld rfl rfl rfl ?_
    refine zn_ld rfl rfl rfl ?_
    replace h := h _ (i_add (x := a1) (y := a4) rfl rfl)
    refine zn_c [.int (a1 + a4), .ref 87] xo_iadd rfl rfl ?_
    refine zn_row (a1 + a4) [] (a := 87) hd rfl rfl rfl rfl ?_
    change Zn _ _ _ _ _ _ _ _ _ _ _ [.int (zg s 87 (a1 + a4))] _ _
    refine zn_ld rfl rfl rfl ?_
    refine zn_ld rfl rfl rfl ?_
    refine zn_chS rfl rfl rfl h.1 ?_
    replace h := h.2
    change Zn _ _ _ _ _ _ _ _ _ _ _ [.int (xch (1000005 % 1000000) a4), .int (zg s 87 (a1 + a4))] _ _
    refine zn_brP rfl rfl ⟨fun hcn => ?_, fun hcn => ?_⟩
    · replace h := h.1 ((i_eq (x := zg s 87 (a1 + a4)) (y := xch (1000005 % 1000000) a4) rfl rfl).mp hcn)
      replace h := h _ (i_add (x := a4) (y := 1) rfl (show (1 : Int32).toInt = 1 by decide))
      refine zn_inc [.ref 86, .int a1, .int a2, .ref 1000005, .int (a4 + 1), .null, .null, .null, .null] rfl rfl rfl rfl ?_
      refine zn_go rfl ?_
      exact r8 a1 a2 (a4 + 1) s h
    · replace h := h.2 (fun q => hcn ((i_eq (x := zg s 87 (a1 + a4)) (y := xch (1000005 % 1000000) a4) rfl rfl).mpr q))
      refine zn_c [.int 0] (xo_push (.int 0)) rfl rfl ?_
      exact zn_retZ rfl rfl h
theorem ml_116_8_85e1000005 {d d0 : Nat} (hd : d = d0 + 8)  {a1 : Int32} {a2 : Int32} {a4 : Int32} {s : zS} {Q : Option Value → zS → Prop}  (h : vl_116_8 (fun j => Zt d (wd 85 j) j) 85 1000005  a1 a2 a4 s Q) : Zn d [] [] ([] : zW) ([] : zW) xL_9 5 (some .boolean) xE_116 (xE_116.drop 8) [.ref 86, .int a1, .int a2, .ref 1000005, .int a4, .null, .null, .null, .null] [] s Q := by
  obtain ⟨I, μ, h0, h1⟩ := h
  have key : ∀ (n : Nat) (a1 : Int32) (a2 : Int32) (a4 : Int32) (s : zS), μ a1 a2 a4 s = n → I a1 a2 a4 s → Zn d [] [] ([] : zW) ([] : zW) xL_9 5 (some .boolean) xE_116 (xE_116.drop 8) [.ref 86, .int a1, .int a2, .ref 1000005, .int a4, .null, .null, .null, .null] [] s Q := by
    intro n
    induction n using Nat.strongRecOn with
    | ind n ih =>
      intro a1 a2 a4 s e hI
      exact m_116_8_85e1000005 hd (fun a1' a2' a4' s' q => ih _ (by rw [← e]; exact q.2) a1' a2' a4' s' rfl q.1) (h1 a1 a2 a4 s hI)
  exact key _ a1 a2 a4 s rfl h0
set_option maxRecDepth 20000 in
theorem m_116_0_85e1000005 {d d0 : Nat} (hd : d = d0 + 8)  {a1 : Int32} {a2 : Int32} {s : zS} {Q : Option Value → zS → Prop}  (h : v_116_0 (fun j => Zt d (wd 85 j) j) 85 1000005  a1 a2 s Q) : Zn d [] [] ([] : zW) ([] : zW) xL_9 5 (some .boolean) xE_116 (xE_116.drop 0) [.ref 86, .int a1, .int a2, .ref 1000005, .null, .null, .null, .null, .null] [] s Q := by
  unfold v_116_0 at h
  refine zn_ld rfl rfl rfl ?_
  refine zn_ld rfl rfl rfl ?_
  refine zn_lenS rfl rfl ?_
  change Zn _ _ _ _ _ _ _ _ _ _ _ [.int (xnS (1000005 % 1000000)), .int a2] _ _
  refine zn_brP rfl rfl ⟨fun hcn => ?_, fun hcn => ?_⟩
  · replace h := h.1 ((i_eq (x := a2) (y := xnS (1000005 % 1000000)) rfl rfl).mp hcn)
    refine zn_c [.int 0] (xo_push (.int 0)) rfl rfl ?_
    refine zn_st [.ref 86, .int a1, .int a2, .ref 1000005, .int 0, .null, .null, .null, .null] rfl rfl rfl ?_
    exact ml_116_8_85e1000005 hd  h
  · replace h := h.2 (fun q => hcn ((i_eq (x := a2) (y := xnS (1000005 % 1000000)) rfl rfl).mpr q))
    refine zn_c [.int 0] (xo_push (.int 0)) rfl rfl ?_
    exact zn_retZ rfl rfl h
theorem zq_116_85e1000005 {d : Nat} {a1 : Int32} {a2 : Int32} {s : zS} {Q : Option Value → zS → Prop} (h : v_116_0 (fun j => Zt (d + 8) (wd 85 j) j) 85 1000005 a1 a2 s Q) : Zt (d + 9) ([] : zW) 116 [.ref 86, .int a1, .int a2, .ref 1000005] s Q := zt_of (E := xE_116) (L := xL_9) (ml := 5) (ret := some .boolean) rfl rfl rfl (m_116_0_85e1000005 rfl h)
set_option maxRecDepth 20000 in
theorem m_116_8_85e1000006 {d d0 : Nat} (hd : d = d0 + 8) {R8 : Int32 → Int32 → Int32 → zS → Prop} {a1 : Int32} {a2 : Int32} {a4 : Int32} {s : zS} {Q : Option Value → zS → Prop} (r8 : ∀ a1 a2 a4 s, R8 a1 a2 a4 s → Zn d [] [] ([] : zW) ([] : zW) xL_9 5 (some .boolean) xE_116 (xE_116.drop 8) [.ref 86, .int a1, .int a2, .ref 1000006, .int a4, .null, .null, .null, .null] [] s Q) (h : v_116_8 (fun j => Zt d (wd 85 j) j) 85 1000006 R8 a1 a2 a4 s Q) : Zn d [] [] ([] : zW) ([] : zW) xL_9 5 (some .boolean) xE_116 (xE_116.drop 8) [.ref 86, .int a1, .int a2, .ref 1000006, .int a4, .null, .null, .null, .null] [] s Q := by
  unfold v_116_8 at h
  refine zn_ld rfl rfl rfl ?_
  refine zn_ld rfl rfl rfl ?_
  refine zn_lenS rfl rfl ?_
  change Zn _ _ _ _ _ _ _ _ _ _ _ [.int (xnS (1000006 % 1000000)), .int a4] _ _
  refine zn_brP rfl rfl ⟨fun hcn => ?_, fun hcn => ?_⟩
  · replace h := h.1 ((i_le (x := xnS (1000006 % 1000000)) (y := a4) rfl rfl).mp hcn)
    refine zn_c [.int 1] (xo_push (.int 1)) rfl rfl ?_
    exact zn_retZ rfl rfl h
  · replace h := h.2 (fun q => hcn ((i_le (x := xnS (1000006 % 1000000)) (y := a4) rfl rfl).mpr q))
    refine zn_ld rfl rfl rfl ?_
    refine zn_get (v := .ref 87) rfl (zv_R (a := 86) rfl rfl) ?_
    refine zn_ld rfl rfl rfl ?_
    refine zn_ld rfl rfl rfl ?_
    replace h := h _ (i_add (x := a1) (y := a4) rfl rfl)
    refine zn_c [.int (a1 + a4), .ref 87] xo_iadd rfl rfl ?_
    refine zn_row (a1 + a4) [] (a := 87) hd rfl rfl rfl rfl ?_
    change Zn _ _ _ _ _ _ _ _ _ _ _ [.int (zg s 87 (a1 + a4))] _ _
    refine zn_ld rfl rfl rfl ?_
    refine zn_ld rfl rfl rfl ?_
    refine zn_chS rfl rfl rfl h.1 ?_
    replace h := h.2
    change Zn _ _ _ _ _ _ _ _ _ _ _ [.int (xch (1000006 % 1000000) a4), .int (zg s 87 (a1 + a4))] _ _
    refine zn_brP rfl rfl ⟨fun hcn => ?_, fun hcn => ?_⟩
    · replace h := h.1 ((i_eq (x := zg s 87 (a1 + a4)) (y := xch (1000006 % 1000000) a4) rfl rfl).mp hcn)
      replace h := h _ (i_add (x := a4) (y := 1) rfl (show (1 : Int32).toInt = 1 by decide))
      refine zn_inc [.ref 86, .int a1, .int a2, .ref 1000006, .int (a4 + 1), .null, .null, .null, .null] rfl rfl rfl rfl ?_
      refine zn_go rfl ?_
      exact r8 a1 a2 (a4 + 1) s h
    · replace h := h.2 (fun q => hcn ((i_eq (x := zg s 87 (a1 + a4)) (y := xch (1000006 % 1000000) a4) rfl rfl).mpr q))
      refine zn_c [.int 0] (xo_push (.int 0)) rfl rfl ?_
      exact zn_retZ rfl rfl h
theorem ml_116_8_85e1000006 {d d0 : Nat} (hd : d = d0 + 8)  {a1 : Int32} {a2 : Int32} {a4 : Int32} {s : zS} {Q : Option Value → zS → Prop}  (h : vl_116_8 (fun j => Zt d (wd 85 j) j) 85 1000006  a1 a2 a4 s Q) : Zn d [] [] ([] : zW) ([] : zW) xL_9 5 (some .boolean) xE_116 (xE_116.drop 8) [.ref 86, .int a1, .int a2, .ref 1000006, .int a4, .null, .null, .null, .null] [] s Q := by
  obtain ⟨I, μ, h0, h1⟩ := h
  have key : ∀ (n : Nat) (a1 : Int32) (a2 : Int32) (a4 : Int32) (s : zS), μ a1 a2 a4 s = n → I a1 a2 a4 s → Zn d [] [] ([] : zW) ([] : zW) xL_9 5 (some .boolean) xE_116 (xE_116.drop 8) [.ref 86, .int a1, .int a2, .ref 1000006, .int a4, .null, .null, .null, .null] [] s Q := by
    intro n
    induction n using Nat.strongRecOn with
    | ind n ih =>
      intro a1 a2 a4 s e hI
      exact m_116_8_85e1000006 hd (fun a1' a2' a4' s' q => ih _ (by rw [← e]; exact q.2) a1' a2' a4' s' rfl q.1) (h1 a1 a2 a4 s hI)
  exact key _ a1 a2 a4 s rfl h0
set_option maxRecDepth 20000 in
theorem m_116_0_85e1000006 {d d0 : Nat} (hd : d = d0 + 8)  {a1 : Int32} {a2 : Int32} {s : zS} {Q : Option Value → zS → Prop}  (h : v_116_0 (fun j => Zt d (wd 85 j) j) 85 1000006  a1 a2 s Q) : Zn d [] [] ([] : zW) ([] : zW) xL_9 5 (some .boolean) xE_116 (xE_116.drop 0) [.ref 86, .int a1, .int a2, .ref 1000006, .null, .null, .null, .null, .null] [] s Q := by
  unfold v_116_0 at h
  refine zn_ld rfl rfl rfl ?_
  refine zn_ld rfl rfl rfl ?_
  refine zn_lenS rfl rfl ?_
  change Zn _ _ _ _ _ _ _ _ _ _ _ [.int (xnS (1000006 % 1000000)), .int a2] _ _
  refine zn_brP rfl rfl ⟨fun hcn => ?_, fun hcn => ?_⟩
  · replace h := h.1 ((i_eq (x := a2) (y := xnS (1000006 % 1000000)) rfl rfl).mp hcn)
    refine zn_c [.int 0] (xo_push (.int 0)) rfl rfl ?_
    refine zn_st [.ref 86, .int a1, .int a2, .ref 1000006, .int 0, .null, .null, .null, .null] rfl rfl rfl ?_
    exact ml_116_8_85e1000006 hd  h
  · replace h := h.2 (fun q => hcn ((i_eq (x := a2) (y := xnS (1000006 % 1000000)) rfl rfl).mpr q))
    refine zn_c [.int 0] (xo_push (.int 0)) rfl rfl ?_
    exact zn_retZ rfl rfl h
theorem zq_116_85e1000006 {d : Nat} {a1 : Int32} {a2 : Int32} {s : zS} {Q : Option Value → zS → Prop} (h : v_116_0 (fun j => Zt (d + 8) (wd 85 j) j) 85 1000006 a1 a2 s Q) : Zt (d + 9) ([] : zW) 116 [.ref 86, .int a1, .int a2, .ref 1000006] s Q := zt_of (E := xE_116) (L := xL_9) (ml := 5) (ret := some .boolean) rfl rfl rfl (m_116_0_85e1000006 rfl h)
set_option maxRecDepth 20000 in
theorem m_115_64_85 {d d0 : Nat} (hd : d = d0 + 8)  {a1 : Int32} {a2 : Int32} {t0 : Int32} {s : zS} {Q : Option Value → zS → Prop}  (h : v_115_64 (fun j => Zt d (wd 85 j) j) 85  a1 a2 t0 s Q) : Zn d [] [] ([] : zW) ([] : zW) xL_9 3 (some .int) xE_115 (xE_115.drop 64) [.ref 86, .int a1, .int a2, .null, .null, .null] [.int t0] s Q := by
  unfold v_115_64 at h
  exact zn_retI rfl h
set_option maxRecDepth 20000 in
theorem m_115_54_85 {d d0 : Nat} (hd : d = d0 + 8)  {a1 : Int32} {a2 : Int32} {t0 : Int32} {s : zS} {Q : Option Value → zS → Prop}  (h : v_115_54 (fun j => Zt d (wd 85 j) j) 85  a1 a2 t0 s Q) : Zn d [] [] ([] : zW) ([] : zW) xL_9 3 (some .int) xE_115 (xE_115.drop 54) [.ref 86, .int a1, .int a2, .null, .null, .null] [.int t0] s Q := by
  unfold v_115_54 at h
  exact zn_retI rfl h
set_option maxRecDepth 20000 in
theorem m_115_44_85 {d d0 : Nat} (hd : d = d0 + 8)  {a1 : Int32} {a2 : Int32} {t0 : Int32} {s : zS} {Q : Option Value → zS → Prop}  (h : v_115_44 (fun j => Zt d (wd 85 j) j) 85  a1 a2 t0 s Q) : Zn d [] [] ([] : zW) ([] : zW) xL_9 3 (some .int) xE_115 (xE_115.drop 44) [.ref 86, .int a1, .int a2, .null, .null, .null] [.int t0] s Q := by
  unfold v_115_44 at h
  exact zn_retI rfl h
set_option maxRecDepth 20000 in
theorem m_115_34_85 {d d0 : Nat} (hd : d = d0 + 8)  {a1 : Int32} {a2 : Int32} {t0 : Int32} {s : zS} {Q : Option Value → zS → Prop}  (h : v_115_34 (fun j => Zt d (wd 85 j) j) 85  a1 a2 t0 s Q) : Zn d [] [] ([] : zW) ([] : zW) xL_9 3 (some .int) xE_115 (xE_115.drop 34) [.ref 86, .int a1, .int a2, .null, .null, .null] [.int t0] s Q := by
  unfold v_115_34 at h
  exact zn_retI rfl h
set_option maxRecDepth 20000 in
theorem m_115_24_85 {d d0 : Nat} (hd : d = d0 + 8)  {a1 : Int32} {a2 : Int32} {t0 : Int32} {s : zS} {Q : Option Value → zS → Prop}  (h : v_115_24 (fun j => Zt d (wd 85 j) j) 85  a1 a2 t0 s Q) : Zn d [] [] ([] : zW) ([] : zW) xL_9 3 (some .int) xE_115 (xE_115.drop 24) [.ref 86, .int a1, .int a2, .null, .null, .null] [.int t0] s Q := by
  unfold v_115_24 at h
  exact zn_retI rfl h
set_option maxRecDepth 20000 in
theorem m_115_14_85 {d d0 : Nat} (hd : d = d0 + 8)  {a1 : Int32} {a2 : Int32} {t0 : Int32} {s : zS} {Q : Option Value → zS → Prop}  (h : v_115_14 (fun j => Zt d (wd 85 j) j) 85  a1 a2 t0 s Q) : Zn d [] [] ([] : zW) ([] : zW) xL_9 3 (some .int) xE_115 (xE_115.drop 14) [.ref 86, .int a1, .int a2, .null, .null, .null] [.int t0] s Q := by
  unfold v_115_14 at h
  exact zn_retI rfl h
set_option maxRecDepth 20000 in
theorem m_115_0_85 {d d0 : Nat} (hd : d = d0 + 8)  {a1 : Int32} {a2 : Int32} {s : zS} {Q : Option Value → zS → Prop}  (h : v_115_0 (fun j => Zt d (wd 85 j) j) 85  a1 a2 s Q) : Zn d [] [] ([] : zW) ([] : zW) xL_9 3 (some .int) xE_115 (xE_115.drop 0) [.ref 86, .int a1, .int a2, .null, .null, .null] [] s Q := by
  unfold v_115_0 at h
  refine zn_ld rfl rfl rfl ?_
  refine zn_get (v := .ref 87) rfl (zv_R (a := 86) rfl rfl) ?_
  refine zn_ld rfl rfl rfl ?_
  refine zn_row a1 [] (a := 87) hd rfl rfl rfl rfl ?_
  change Zn _ _ _ _ _ _ _ _ _ _ _ [.int (zg s 87 a1)] _ _
  by_cases hx : Int32.toInt (zg s 87 a1) = 102 ∨ Int32.toInt (zg s 87 a1) = 105 ∨ Int32.toInt (zg s 87 a1) = 109 ∨ Int32.toInt (zg s 87 a1) = 114 ∨ Int32.toInt (zg s 87 a1) = 115 ∨ Int32.toInt (zg s 87 a1) = 116
  · rcases hx with hy | hy | hy | hy | hy | hy
    · refine zn_sw ?_
      refine ⟨35, by rw [if_neg (by omega), hy]; rfl, ?_⟩
      replace h := h.2.1 hy
      refine zn_ld rfl rfl rfl ?_
      refine zn_ld rfl rfl rfl ?_
      refine zn_ld rfl rfl rfl ?_
      refine zn_c [.ref 1000004, .int a2, .int a1, .ref 86] (xo_push (.ref 1000004)) rfl rfl ?_
      refine zn_zt [.ref 86, .int a1, .int a2, .ref 1000004] [] rfl rfl rfl rfl rfl (Zt.imp h (fun v1 s2 h => ?_))
      obtain ⟨x3, rfl, h⟩ := h
      change Zn _ _ _ _ _ _ _ _ _ _ _ [.int x3] _ _
      refine zn_brP rfl rfl ⟨fun hcn => ?_, fun hcn => ?_⟩
      · replace h := h.1 ((i_eq (x := x3) (y := 0) rfl (show (0 : Int32).toInt = 0 by decide)).mp hcn)
        refine zn_c [.int 1] (xo_push (.int 1)) rfl rfl ?_
        exact m_115_44_85 hd  h
      · replace h := h.2 (fun q => hcn ((i_eq (x := x3) (y := 0) rfl (show (0 : Int32).toInt = 0 by decide)).mpr q))
        refine zn_c [.int 6] (xo_push (.int 6)) rfl rfl ?_
        refine zn_go rfl ?_
        exact m_115_44_85 hd  h
    · refine zn_sw ?_
      refine ⟨25, by rw [if_neg (by omega), hy]; rfl, ?_⟩
      replace h := h.2.2.1 hy
      refine zn_ld rfl rfl rfl ?_
      refine zn_ld rfl rfl rfl ?_
      refine zn_ld rfl rfl rfl ?_
      refine zn_c [.ref 1000003, .int a2, .int a1, .ref 86] (xo_push (.ref 1000003)) rfl rfl ?_
      refine zn_zt [.ref 86, .int a1, .int a2, .ref 1000003] [] rfl rfl rfl rfl rfl (Zt.imp h (fun v4 s5 h => ?_))
      obtain ⟨x6, rfl, h⟩ := h
      change Zn _ _ _ _ _ _ _ _ _ _ _ [.int x6] _ _
      refine zn_brP rfl rfl ⟨fun hcn => ?_, fun hcn => ?_⟩
      · replace h := h.1 ((i_eq (x := x6) (y := 0) rfl (show (0 : Int32).toInt = 0 by decide)).mp hcn)
        refine zn_c [.int 1] (xo_push (.int 1)) rfl rfl ?_
        exact m_115_34_85 hd  h
      · replace h := h.2 (fun q => hcn ((i_eq (x := x6) (y := 0) rfl (show (0 : Int32).toInt = 0 by decide)).mpr q))
        refine zn_c [.int 5] (xo_push (.int 5)) rfl rfl ?_
        refine zn_go rfl ?_
        exact m_115_34_85 hd  h
    · refine zn_sw ?_
      refine ⟨55, by rw [if_neg (by omega), hy]; rfl, ?_⟩
      replace h := h.2.2.2.1 hy
      refine zn_ld rfl rfl rfl ?_
      refine zn_ld rfl rfl rfl ?_
      refine zn_ld rfl rfl rfl ?_
      refine zn_c [.ref 1000006, .int a2, .int a1, .ref 86] (xo_push (.ref 1000006)) rfl rfl ?_
      refine zn_zt [.ref 86, .int a1, .int a2, .ref 1000006] [] rfl rfl rfl rfl rfl (Zt.imp h (fun v7 s8 h => ?_))
      obtain ⟨x9, rfl, h⟩ := h
      change Zn _ _ _ _ _ _ _ _ _ _ _ [.int x9] _ _
      refine zn_brP rfl rfl ⟨fun hcn => ?_, fun hcn => ?_⟩
      · replace h := h.1 ((i_eq (x := x9) (y := 0) rfl (show (0 : Int32).toInt = 0 by decide)).mp hcn)
        refine zn_c [.int 1] (xo_push (.int 1)) rfl rfl ?_
        exact m_115_64_85 hd  h
      · replace h := h.2 (fun q => hcn ((i_eq (x := x9) (y := 0) rfl (show (0 : Int32).toInt = 0 by decide)).mpr q))
        refine zn_c [.int 8] (xo_push (.int 8)) rfl rfl ?_
        refine zn_go rfl ?_
        exact m_115_64_85 hd  h
    · refine zn_sw ?_
      refine ⟨45, by rw [if_neg (by omega), hy]; rfl, ?_⟩
      replace h := h.2.2.2.2.1 hy
      refine zn_ld rfl rfl rfl ?_
      refine zn_ld rfl rfl rfl ?_
      refine zn_ld rfl rfl rfl ?_
      refine zn_c [.ref 1000005, .int a2, .int a1, .ref 86] (xo_push (.ref 1000005)) rfl rfl ?_
      refine zn_zt [.ref 86, .int a1, .int a2, .ref 1000005] [] rfl rfl rfl rfl rfl (Zt.imp h (fun v10 s11 h => ?_))
      obtain ⟨x12, rfl, h⟩ := h
      change Zn _ _ _ _ _ _ _ _ _ _ _ [.int x12] _ _
      refine zn_brP rfl rfl ⟨fun hcn => ?_, fun hcn => ?_⟩
      · replace h := h.1 ((i_eq (x := x12) (y := 0) rfl (show (0 : Int32).toInt = 0 by decide)).mp hcn)
        refine zn_c [.int 1] (xo_push (.int 1)) rfl rfl ?_
        exact m_115_54_85 hd  h
      · replace h := h.2 (fun q => hcn ((i_eq (x := x12) (y := 0) rfl (show (0 : Int32).toInt = 0 by decide)).mpr q))
        refine zn_c [.int 7] (xo_push (.int 7)) rfl rfl ?_
        refine zn_go rfl ?_
        exact m_115_54_85 hd  h
    · refine zn_sw ?_
      refine ⟨15, by rw [if_neg (by omega), hy]; rfl, ?_⟩
      replace h := h.2.2.2.2.2.1 hy
      refine zn_ld rfl rfl rfl ?_
      refine zn_ld rfl rfl rfl ?_
      refine zn_ld rfl rfl rfl ?_
      refine zn_c [.ref 1000002, .int a2, .int a1, .ref 86] (xo_push (.ref 1000002)) rfl rfl ?_
      refine zn_zt [.ref 86, .int a1, .int a2, .ref 1000002] [] rfl rfl rfl rfl rfl (Zt.imp h (fun v13 s14 h => ?_))
      obtain ⟨x15, rfl, h⟩ := h
      change Zn _ _ _ _ _ _ _ _ _ _ _ [.int x15] _ _
      refine zn_brP rfl rfl ⟨fun hcn => ?_, fun hcn => ?_⟩
      · replace h := h.1 ((i_eq (x := x15) (y := 0) rfl (show (0 : Int32).toInt = 0 by decide)).mp hcn)
        refine zn_c [.int 1] (xo_push (.int 1)) rfl rfl ?_
        exact m_115_24_85 hd  h
      · replace h := h.2 (fun q => hcn ((i_eq (x := x15) (y := 0) rfl (show (0 : Int32).toInt = 0 by decide)).mpr q))
        refine zn_c [.int 4] (xo_push (.int 4)) rfl rfl ?_
        refine zn_go rfl ?_
        exact m_115_24_85 hd  h
    · refine zn_sw ?_
      refine ⟨5, by rw [if_neg (by omega), hy]; rfl, ?_⟩
      replace h := h.2.2.2.2.2.2 hy
      refine zn_ld rfl rfl rfl ?_
      refine zn_ld rfl rfl rfl ?_
      refine zn_ld rfl rfl rfl ?_
      refine zn_c [.ref 1000001, .int a2, .int a1, .ref 86] (xo_push (.ref 1000001)) rfl rfl ?_
      refine zn_zt [.ref 86, .int a1, .int a2, .ref 1000001] [] rfl rfl rfl rfl rfl (Zt.imp h (fun v16 s17 h => ?_))
      obtain ⟨x18, rfl, h⟩ := h
      change Zn _ _ _ _ _ _ _ _ _ _ _ [.int x18] _ _
      refine zn_brP rfl rfl ⟨fun hcn => ?_, fun hcn => ?_⟩
      · replace h := h.1 ((i_eq (x := x18) (y := 0) rfl (show (0 : Int32).toInt = 0 by decide)).mp hcn)
        refine zn_c [.int 1] (xo_push (.int 1)) rfl rfl ?_
        exact m_115_14_85 hd  h
      · replace h := h.2 (fun q => hcn ((i_eq (x := x18) (y := 0) rfl (show (0 : Int32).toInt = 0 by decide)).mpr q))
        refine zn_c [.int 3] (xo_push (.int 3)) rfl rfl ?_
        refine zn_go rfl ?_
        exact m_115_14_85 hd  h
  · have hy : ¬ Int32.toInt (zg s 87 a1) = 102 ∧ ¬ Int32.toInt (zg s 87 a1) = 105 ∧ ¬ Int32.toInt (zg s 87 a1) = 109 ∧ ¬ Int32.toInt (zg s 87 a1) = 114 ∧ ¬ Int32.toInt (zg s 87 a1) = 115 ∧ ¬ Int32.toInt (zg s 87 a1) = 116 := by omega
    replace h := h.1 hy
    by_cases hz : Int32.toInt (zg s 87 a1) < 102 ∨ 116 < Int32.toInt (zg s 87 a1)
    · refine zn_sw ?_
      refine ⟨65, by rw [if_pos hz]; rfl, ?_⟩
      refine zn_c [.int 1] (xo_push (.int 1)) rfl rfl ?_
      exact zn_retI rfl h
    · have hw : Int32.toInt (zg s 87 a1) = 103 ∨ Int32.toInt (zg s 87 a1) = 104 ∨ Int32.toInt (zg s 87 a1) = 106 ∨ Int32.toInt (zg s 87 a1) = 107 ∨ Int32.toInt (zg s 87 a1) = 108 ∨ Int32.toInt (zg s 87 a1) = 110 ∨ Int32.toInt (zg s 87 a1) = 111 ∨ Int32.toInt (zg s 87 a1) = 112 ∨ Int32.toInt (zg s 87 a1) = 113 := by omega
      rcases hw with hw | hw | hw | hw | hw | hw | hw | hw | hw
      · refine zn_sw ?_
        refine ⟨65, by rw [if_neg hz, hw]; rfl, ?_⟩
        refine zn_c [.int 1] (xo_push (.int 1)) rfl rfl ?_
        exact zn_retI rfl h
      · refine zn_sw ?_
        refine ⟨65, by rw [if_neg hz, hw]; rfl, ?_⟩
        refine zn_c [.int 1] (xo_push (.int 1)) rfl rfl ?_
        exact zn_retI rfl h
      · refine zn_sw ?_
        refine ⟨65, by rw [if_neg hz, hw]; rfl, ?_⟩
        refine zn_c [.int 1] (xo_push (.int 1)) rfl rfl ?_
        exact zn_retI rfl h
      · refine zn_sw ?_
        refine ⟨65, by rw [if_neg hz, hw]; rfl, ?_⟩
        refine zn_c [.int 1] (xo_push (.int 1)) rfl rfl ?_
        exact zn_retI rfl h
      · refine zn_sw ?_
        refine ⟨65, by rw [if_neg hz, hw]; rfl, ?_⟩
        refine zn_c [.int 1] (xo_push (.int 1)) rfl rfl ?_
        exact zn_retI rfl h
      · refine zn_sw ?_
        refine ⟨65, by rw [if_neg hz, hw]; rfl, ?_⟩
        refine zn_c [.int 1] (xo_push (.int 1)) rfl rfl ?_
        exact zn_retI rfl h
      · refine zn_sw ?_
        refine ⟨65, by rw [if_neg hz, hw]; rfl, ?_⟩
        refine zn_c [.int 1] (xo_push (.int 1)) rfl rfl ?_
        exact zn_retI rfl h
      · refine zn_sw ?_
        refine ⟨65, by rw [if_neg hz, hw]; rfl, ?_⟩
        refine zn_c [.int 1] (xo_push (.int 1)) rfl rfl ?_
        exact zn_retI rfl h
      · refine zn_sw ?_
        refine ⟨65, by rw [if_neg hz, hw]; rfl, ?_⟩
        refine zn_c [.int 1] (xo_push (.int 1)) rfl rfl ?_
        exact zn_retI rfl h
theorem zq_115_85 {d : Nat} {a1 : Int32} {a2 : Int32} {s : zS} {Q : Option Value → zS → Prop} (h : v_115_0 (fun j => Zt (d + 8) (wd 85 j) j) 85 a1 a2 s Q) : Zt (d + 9) ([] : zW) 115 [.ref 86, .int a1, .int a2] s Q := zt_of (E := xE_115) (L := xL_9) (ml := 3) (ret := some .int) rfl rfl rfl (m_115_0_85 rfl h)
set_option maxRecDepth 20000 in
theorem m_112_69_85 {d d0 : Nat} (hd : d = d0 + 8)  {a1 : Int32} {a2 : Int32} {a3 : Int32} {t1 : Int32} {s : zS} {Q : Option Value → zS → Prop}  (h : v_112_69 (fun j => Zt d (wd 85 j) j) 85  a1 a2 a3 t1 s Q) : Zn d [] [(0, 403), (0, 439)] ([] : zW) ([] : zW) xL_9 4 (some .int) xE_112 (xE_112.drop 69) [.ref 86, .int a1, .int a2, .int a3, .null, .null] [.int t1, .ref 86] s Q := by
  unfold v_112_69 at h
  refine zn_ld rfl rfl rfl ?_
  refine zn_ld rfl rfl rfl ?_
  refine zn_ld rfl rfl rfl ?_
  replace h := h _ (i_sub (x := a3) (y := a1) rfl rfl)
  refine zn_c [.int (a3 - a1), .int a1, .int t1, .ref 86] xo_isub rfl rfl ?_
  refine zn_zt [.ref 86, .int t1, .int a1, .int (a3 - a1)] [] rfl rfl rfl rfl rfl (Zt.imp h (fun v2 s3 h => ?_))
  obtain ⟨rfl, h⟩ := h
  change Zn _ _ _ _ _ _ _ _ _ _ _ [] _ _
  refine zn_ld rfl rfl rfl ?_
  exact zn_retI rfl h
set_option maxRecDepth 20000 in
theorem m_112_55_85 {d d0 : Nat} (hd : d = d0 + 8)  {a1 : Int32} {a2 : Int32} {a3 : Int32} {s : zS} {Q : Option Value → zS → Prop}  (h : v_112_55 (fun j => Zt d (wd 85 j) j) 85  a1 a2 a3 s Q) : Zn d [] [(0, 403), (0, 439)] ([] : zW) ([] : zW) xL_9 4 (some .int) xE_112 (xE_112.drop 55) [.ref 86, .int a1, .int a2, .int a3, .null, .null] [] s Q := by
  unfold v_112_55 at h
  refine zn_ld rfl rfl rfl ?_
  refine zn_ld rfl rfl rfl ?_
  refine zn_ld rfl rfl rfl ?_
  replace h := h _ (i_sub (x := a3) (y := a1) rfl rfl)
  refine zn_c [.int (a3 - a1), .ref 86] xo_isub rfl rfl ?_
  refine zn_c [.int 12, .int (a3 - a1), .ref 86] (xo_push (.int 12)) rfl rfl ?_
  refine zn_brP rfl rfl ⟨fun hcn => ?_, fun hcn => ?_⟩
  · replace h := h.1 ((i_le (x := (a3 - a1)) (y := 12) rfl (show (12 : Int32).toInt = 12 by decide)).mp hcn)
    refine zn_ld rfl rfl rfl ?_
    refine zn_ld rfl rfl rfl ?_
    refine zn_ld rfl rfl rfl ?_
    refine zn_ld rfl rfl rfl ?_
    replace h := h _ (i_sub (x := a3) (y := a1) rfl rfl)
    refine zn_c [.int (a3 - a1), .int a1, .ref 86, .ref 86] xo_isub rfl rfl ?_
    refine zn_zt [.ref 86, .int a1, .int (a3 - a1)] [.ref 86] rfl rfl rfl rfl rfl (Zt.imp h (fun v3 s4 h => ?_))
    obtain ⟨x5, rfl, h⟩ := h
    change Zn _ _ _ _ _ _ _ _ _ _ _ [.int x5, .ref 86] _ _
    exact m_112_69_85 hd  h
  · replace h := h.2 (fun q => hcn ((i_le (x := (a3 - a1)) (y := 12) rfl (show (12 : Int32).toInt = 12 by decide)).mpr q))
    refine zn_c [.int 2, .ref 86] (xo_push (.int 2)) rfl rfl ?_
    refine zn_go rfl ?_
    exact m_112_69_85 hd  h
set_option maxRecDepth 20000 in
theorem m_112_53_85 {d d0 : Nat} (hd : d = d0 + 8) {R36 : Int32 → Int32 → Int32 → zS → Prop} {a1 : Int32} {a2 : Int32} {a3 : Int32} {s : zS} {Q : Option Value → zS → Prop} (r36 : ∀ a1 a2 a3 s, R36 a1 a2 a3 s → Zn d [] [(0, 403), (0, 439)] ([] : zW) ([] : zW) xL_9 4 (some .int) xE_112 (xE_112.drop 36) [.ref 86, .int a1, .int a2, .int a3, .null, .null] [] s Q) (h : v_112_53 (fun j => Zt d (wd 85 j) j) 85 R36 a1 a2 a3 s Q) : Zn d [] [(0, 403), (0, 439)] ([] : zW) ([] : zW) xL_9 4 (some .int) xE_112 (xE_112.drop 53) [.ref 86, .int a1, .int a2, .int a3, .null, .null] [] s Q := by
  unfold v_112_53 at h
  replace h := h _ (i_add (x := a3) (y := 1) rfl (show (1 : Int32).toInt = 1 by decide))
  refine zn_inc [.ref 86, .int a1, .int a2, .int (a3 + 1), .null, .null] rfl rfl rfl rfl ?_
  refine zn_go rfl ?_
  exact r36 a1 a2 (a3 + 1) s h
set_option maxRecDepth 20000 in
theorem m_112_36_85 {d d0 : Nat} (hd : d = d0 + 8) {R36 : Int32 → Int32 → Int32 → zS → Prop} {a1 : Int32} {a2 : Int32} {a3 : Int32} {s : zS} {Q : Option Value → zS → Prop} (r36 : ∀ a1 a2 a3 s, R36 a1 a2 a3 s → Zn d [] [(0, 403), (0, 439)] ([] : zW) ([] : zW) xL_9 4 (some .int) xE_112 (xE_112.drop 36) [.ref 86, .int a1, .int a2, .int a3, .null, .null] [] s Q) (h : v_112_36 (fun j => Zt d (wd 85 j) j) 85 R36 a1 a2 a3 s Q) : Zn d [] [(0, 403), (0, 439)] ([] : zW) ([] : zW) xL_9 4 (some .int) xE_112 (xE_112.drop 36) [.ref 86, .int a1, .int a2, .int a3, .null, .null] [] s Q := by
  unfold v_112_36 at h
  refine zn_ld rfl rfl rfl ?_
  refine zn_ld rfl rfl rfl ?_
  refine zn_get (v := .ref 87) rfl (zv_R (a := 86) rfl rfl) ?_
  refine zn_get (v := .int (s.1 87 2)) rfl (zv_I (a := 87) rfl rfl) ?_
  refine zn_brP rfl rfl ⟨fun hcn => ?_, fun hcn => ?_⟩
  · replace h := h.1 ((i_le (x := s.1 87 2) (y := a3) rfl rfl).mp hcn)
    exact m_112_55_85 hd  h
  · replace h := h.2 (fun q => hcn ((i_le (x := s.1 87 2) (y := a3) rfl rfl).mpr q))
    refine zn_ld rfl rfl rfl ?_
    refine zn_get (v := .ref 87) rfl (zv_R (a := 86) rfl rfl) ?_
    refine zn_ld rfl rfl rfl ?_
    refine zn_row a3 [] (a := 87) hd rfl rfl rfl rfl ?_
    change Zn _ _ _ _ _ _ _ _ _ _ _ [.int (zg s 87 a3)] _ _
    refine zn_zt [.int (zg s 87 a3)] [] (c := []) rfl rfl rfl rfl rfl (Zt.imp (zp_117 hd) (fun vq sq hq => ?_))
    obtain ⟨rfl, hq⟩ := hq
    rw [hq]
    change Zn _ _ _ _ _ _ _ _ _ _ _ [.int (zLet (zg s 87 a3))] _ _
    refine zn_brN rfl rfl ⟨fun hcn => ?_, fun hcn => ?_⟩
    · replace h := h.1 (fun q => hcn ((i_eq (x := zLet (zg s 87 a3)) (y := 0) rfl (show (0 : Int32).toInt = 0 by decide)).mpr q))
      exact m_112_53_85 hd r36 h
    · replace h := h.2 ((i_eq (x := zLet (zg s 87 a3)) (y := 0) rfl (show (0 : Int32).toInt = 0 by decide)).mp hcn)
      refine zn_ld rfl rfl rfl ?_
      refine zn_get (v := .ref 87) rfl (zv_R (a := 86) rfl rfl) ?_
      refine zn_ld rfl rfl rfl ?_
      refine zn_row a3 [] (a := 87) hd rfl rfl rfl rfl ?_
      change Zn _ _ _ _ _ _ _ _ _ _ _ [.int (zg s 87 a3)] _ _
      refine zn_zt [.int (zg s 87 a3)] [] (c := []) rfl rfl rfl rfl rfl (Zt.imp (zp_118 hd) (fun vq sq hq => ?_))
      obtain ⟨rfl, hq⟩ := hq
      rw [hq]
      change Zn _ _ _ _ _ _ _ _ _ _ _ [.int (zDig (zg s 87 a3))] _ _
      refine zn_brP rfl rfl ⟨fun hcn => ?_, fun hcn => ?_⟩
      · replace h := h.1 ((i_eq (x := zDig (zg s 87 a3)) (y := 0) rfl (show (0 : Int32).toInt = 0 by decide)).mp hcn)
        exact m_112_55_85 hd  h
      · replace h := h.2 (fun q => hcn ((i_eq (x := zDig (zg s 87 a3)) (y := 0) rfl (show (0 : Int32).toInt = 0 by decide)).mpr q))
        exact m_112_53_85 hd r36 h
theorem ml_112_36_85 {d d0 : Nat} (hd : d = d0 + 8)  {a1 : Int32} {a2 : Int32} {a3 : Int32} {s : zS} {Q : Option Value → zS → Prop}  (h : vl_112_36 (fun j => Zt d (wd 85 j) j) 85  a1 a2 a3 s Q) : Zn d [] [(0, 403), (0, 439)] ([] : zW) ([] : zW) xL_9 4 (some .int) xE_112 (xE_112.drop 36) [.ref 86, .int a1, .int a2, .int a3, .null, .null] [] s Q := by
  obtain ⟨I, μ, h0, h1⟩ := h
  have key : ∀ (n : Nat) (a1 : Int32) (a2 : Int32) (a3 : Int32) (s : zS), μ a1 a2 a3 s = n → I a1 a2 a3 s → Zn d [] [(0, 403), (0, 439)] ([] : zW) ([] : zW) xL_9 4 (some .int) xE_112 (xE_112.drop 36) [.ref 86, .int a1, .int a2, .int a3, .null, .null] [] s Q := by
    intro n
    induction n using Nat.strongRecOn with
    | ind n ih =>
      intro a1 a2 a3 s e hI
      exact m_112_36_85 hd (fun a1' a2' a3' s' q => ih _ (by rw [← e]; exact q.2) a1' a2' a3' s' rfl q.1) (h1 a1 a2 a3 s hI)
  exact key _ a1 a2 a3 s rfl h0
set_option maxRecDepth 20000 in
theorem m_112_25_85 {d d0 : Nat} (hd : d = d0 + 8)  {a1 : Int32} {a2 : Int32} {t1 : Int32} {s : zS} {Q : Option Value → zS → Prop}  (h : v_112_25 (fun j => Zt d (wd 85 j) j) 85  a1 a2 t1 s Q) : Zn d [] [(0, 403), (0, 439)] ([] : zW) ([] : zW) xL_9 4 (some .int) xE_112 (xE_112.drop 25) [.ref 86, .int a1, .int a2, .null, .null, .null] [.int t1, .ref 86] s Q := by
  unfold v_112_25 at h
  refine zn_ld rfl rfl rfl ?_
  refine zn_c [.int 1, .int a1, .int t1, .ref 86] (xo_push (.int 1)) rfl rfl ?_
  refine zn_zt [.ref 86, .int t1, .int a1, .int 1] [] rfl rfl rfl rfl rfl (Zt.imp h (fun v1 s2 h => ?_))
  obtain ⟨rfl, h⟩ := h
  change Zn _ _ _ _ _ _ _ _ _ _ _ [] _ _
  refine zn_ld rfl rfl rfl ?_
  refine zn_c [.int 1, .int a1] (xo_push (.int 1)) rfl rfl ?_
  replace h := h _ (i_add (x := a1) (y := 1) rfl (show (1 : Int32).toInt = 1 by decide))
  refine zn_c [.int (a1 + 1)] xo_iadd rfl rfl ?_
  exact zn_retI rfl h
set_option maxRecDepth 20000 in
theorem m_112_11_85 {d d0 : Nat} (hd : d = d0 + 8)  {a1 : Int32} {a2 : Int32} {s : zS} {Q : Option Value → zS → Prop}  (h : v_112_11 (fun j => Zt d (wd 85 j) j) 85  a1 a2 s Q) : Zn d [] [(0, 403), (0, 439)] ([] : zW) ([] : zW) xL_9 4 (some .int) xE_112 (xE_112.drop 11) [.ref 86, .int a1, .int a2, .null, .null, .null] [] s Q := by
  unfold v_112_11 at h
  refine zn_ld rfl rfl rfl ?_
  refine zn_c [.int 1, .int a1] (xo_push (.int 1)) rfl rfl ?_
  replace h := h _ (i_add (x := a1) (y := 1) rfl (show (1 : Int32).toInt = 1 by decide))
  refine zn_c [.int (a1 + 1)] xo_iadd rfl rfl ?_
  exact zn_retI rfl h
set_option maxRecDepth 20000 in
theorem m_112_0_85 {d d0 : Nat} (hd : d = d0 + 8)  {a1 : Int32} {s : zS} {Q : Option Value → zS → Prop}  (h : v_112_0 (fun j => Zt d (wd 85 j) j) 85  a1 s Q) : Zn d [] [(0, 403), (0, 439)] ([] : zW) ([] : zW) xL_9 4 (some .int) xE_112 (xE_112.drop 0) [.ref 86, .int a1, .null, .null, .null, .null] [] s Q := by
  unfold v_112_0 at h
  refine zn_ld rfl rfl rfl ?_
  refine zn_get (v := .ref 87) rfl (zv_R (a := 86) rfl rfl) ?_
  refine zn_ld rfl rfl rfl ?_
  refine zn_row a1 [] (a := 87) hd rfl rfl rfl rfl ?_
  change Zn _ _ _ _ _ _ _ _ _ _ _ [.int (zg s 87 a1)] _ _
  refine zn_st [.ref 86, .int a1, .int (zg s 87 a1), .null, .null, .null] rfl rfl rfl ?_
  refine zn_ld rfl rfl rfl ?_
  refine zn_c [.int 10, .int (zg s 87 a1)] (xo_push (.int 10)) rfl rfl ?_
  refine zn_brP rfl rfl ⟨fun hcn => ?_, fun hcn => ?_⟩
  · replace h := h.1 ((i_eq (x := zg s 87 a1) (y := 10) rfl (show (10 : Int32).toInt = 10 by decide)).mp hcn)
    exact m_112_11_85 hd  h
  · replace h := h.2 (fun q => hcn ((i_eq (x := zg s 87 a1) (y := 10) rfl (show (10 : Int32).toInt = 10 by decide)).mpr q))
    refine zn_ld rfl rfl rfl ?_
    refine zn_c [.int 32, .int (zg s 87 a1)] (xo_push (.int 32)) rfl rfl ?_
    refine zn_brN rfl rfl ⟨fun hcn => ?_, fun hcn => ?_⟩
    · replace h := h.1 (fun q => hcn ((i_eq (x := zg s 87 a1) (y := 32) rfl (show (32 : Int32).toInt = 32 by decide)).mpr q))
      refine zn_ld rfl rfl rfl ?_
      refine zn_zt [.int (zg s 87 a1)] [] (c := []) rfl rfl rfl rfl rfl (Zt.imp (zp_117 hd) (fun vq sq hq => ?_))
      obtain ⟨rfl, hq⟩ := hq
      rw [hq]
      change Zn _ _ _ _ _ _ _ _ _ _ _ [.int (zLet (zg s 87 a1))] _ _
      refine zn_brN rfl rfl ⟨fun hcn => ?_, fun hcn => ?_⟩
      · replace h := h.1 (fun q => hcn ((i_eq (x := zLet (zg s 87 a1)) (y := 0) rfl (show (0 : Int32).toInt = 0 by decide)).mpr q))
        refine zn_ld rfl rfl rfl ?_
        refine zn_c [.int 1, .int a1] (xo_push (.int 1)) rfl rfl ?_
        replace h := h _ (i_add (x := a1) (y := 1) rfl (show (1 : Int32).toInt = 1 by decide))
        refine zn_c [.int (a1 + 1)] xo_iadd rfl rfl ?_
        refine zn_st [.ref 86, .int a1, .int (zg s 87 a1), .int (a1 + 1), .null, .null] rfl rfl rfl ?_
        exact ml_112_36_85 hd  h
      · replace h := h.2 ((i_eq (x := zLet (zg s 87 a1)) (y := 0) rfl (show (0 : Int32).toInt = 0 by decide)).mp hcn)
        refine zn_ld rfl rfl rfl ?_
        refine zn_ld rfl rfl rfl ?_
        refine zn_zt [.int (zg s 87 a1)] [.ref 86] (c := []) rfl rfl rfl rfl rfl (Zt.imp (zp_119 hd) (fun vq sq hq => ?_))
        obtain ⟨rfl, hq⟩ := hq
        rw [hq]
        change Zn _ _ _ _ _ _ _ _ _ _ _ [.int (zSgn (zg s 87 a1)), .ref 86] _ _
        refine zn_brP rfl rfl ⟨fun hcn => ?_, fun hcn => ?_⟩
        · replace h := h.1 ((i_eq (x := zSgn (zg s 87 a1)) (y := 0) rfl (show (0 : Int32).toInt = 0 by decide)).mp hcn)
          refine zn_c [.int 2, .ref 86] (xo_push (.int 2)) rfl rfl ?_
          exact m_112_25_85 hd  h
        · replace h := h.2 (fun q => hcn ((i_eq (x := zSgn (zg s 87 a1)) (y := 0) rfl (show (0 : Int32).toInt = 0 by decide)).mpr q))
          refine zn_ld rfl rfl rfl ?_
          refine zn_go rfl ?_
          exact m_112_25_85 hd  h
    · replace h := h.2 ((i_eq (x := zg s 87 a1) (y := 32) rfl (show (32 : Int32).toInt = 32 by decide)).mp hcn)
      exact m_112_11_85 hd  h
theorem zq_112_85 {d : Nat} {a1 : Int32} {s : zS} {Q : Option Value → zS → Prop} (h : v_112_0 (fun j => Zt (d + 8) (wd 85 j) j) 85 a1 s Q) : Zt (d + 9) ([] : zW) 112 [.ref 86, .int a1] s Q := zt_of (E := xE_112) (L := xL_9) (ml := 4) (ret := some .int) rfl rfl rfl (m_112_0_85 rfl h)
set_option maxRecDepth 20000 in
theorem m_110_50_85 {d d0 : Nat} (hd : d = d0 + 8)  {a2 : Int32} {a3 : Int32} {s : zS} {Q : Option Value → zS → Prop}  (h : v_110_50 (fun j => Zt d (wd 85 j) j) 85  a2 a3 s Q) : Zn d [] [(0, 403), (0, 439)] ([] : zW) ([] : zW) xL_9 4 (none) xE_110 (xE_110.drop 50) [.ref 86, .ref 1, .int a2, .int a3, .null, .null] [] s Q := by
  unfold v_110_50 at h
  refine zn_ld rfl rfl rfl ?_
  refine zn_c [.int 0, .ref 86] (xo_push (.int 0)) rfl rfl ?_
  refine zn_ld rfl rfl rfl ?_
  refine zn_get (v := .ref 87) rfl (zv_R (a := 86) rfl rfl) ?_
  refine zn_get (v := .int (s.1 87 2)) rfl (zv_I (a := 87) rfl rfl) ?_
  refine zn_c [.int 0, .int (s.1 87 2), .int 0, .ref 86] (xo_push (.int 0)) rfl rfl ?_
  refine zn_zt [.ref 86, .int 0, .int (s.1 87 2), .int 0] [] rfl rfl rfl rfl rfl (Zt.imp h (fun v1 s2 h => ?_))
  obtain ⟨rfl, h⟩ := h
  change Zn _ _ _ _ _ _ _ _ _ _ _ [] _ _
  refine zn_ld rfl rfl rfl ?_
  refine zn_get (v := .ref 89) rfl (zv_R (a := 86) rfl rfl) ?_
  refine zn_ld rfl rfl rfl ?_
  refine zn_get (v := .ref 89) rfl (zv_R (a := 86) rfl rfl) ?_
  refine zn_get (v := .int (s2.1 89 2)) rfl (zv_I (a := 89) rfl rfl) ?_
  refine zn_c [.int 0, .int (s2.1 89 2), .ref 89] (xo_push (.int 0)) rfl rfl ?_
  refine zn_set (s2.1 89 2) 0 [] (a := 89) hd rfl rfl rfl rfl ⟨Int32.le_toInt _, Int.le_of_lt_add_one (Int32.toInt_lt _)⟩ rfl rfl ?_
  replace h := h _ rfl
  exact zn_ret0 rfl h
set_option maxRecDepth 20000 in
theorem m_110_36_85 {d d0 : Nat} (hd : d = d0 + 8) {R36 : Int32 → Int32 → zS → Prop} {a2 : Int32} {a3 : Int32} {s : zS} {Q : Option Value → zS → Prop} (r36 : ∀ a2 a3 s, R36 a2 a3 s → Zn d [] [(0, 403), (0, 439)] ([] : zW) ([] : zW) xL_9 4 (none) xE_110 (xE_110.drop 36) [.ref 86, .ref 1, .int a2, .int a3, .null, .null] [] s Q) (h : v_110_36 (fun j => Zt d (wd 85 j) j) 85 R36 a2 a3 s Q) : Zn d [] [(0, 403), (0, 439)] ([] : zW) ([] : zW) xL_9 4 (none) xE_110 (xE_110.drop 36) [.ref 86, .ref 1, .int a2, .int a3, .null, .null] [] s Q := by
  unfold v_110_36 at h
  refine zn_ld rfl rfl rfl ?_
  refine zn_c [.int 4000, .int a3] (xo_push (.int 4000)) rfl rfl ?_
  refine zn_brP rfl rfl ⟨fun hcn => ?_, fun hcn => ?_⟩
  · replace h := h.1 ((i_le (x := 4000) (y := a3) (show (4000 : Int32).toInt = 4000 by decide) rfl).mp hcn)
    exact m_110_50_85 hd  h
  · replace h := h.2 (fun q => hcn ((i_le (x := 4000) (y := a3) (show (4000 : Int32).toInt = 4000 by decide) rfl).mpr q))
    refine zn_ld rfl rfl rfl ?_
    refine zn_ld rfl rfl rfl ?_
    refine zn_get (v := .ref 87) rfl (zv_R (a := 86) rfl rfl) ?_
    refine zn_get (v := .int (s.1 87 2)) rfl (zv_I (a := 87) rfl rfl) ?_
    refine zn_brP rfl rfl ⟨fun hcn => ?_, fun hcn => ?_⟩
    · replace h := h.1 ((i_le (x := s.1 87 2) (y := a2) rfl rfl).mp hcn)
      exact m_110_50_85 hd  h
    · replace h := h.2 (fun q => hcn ((i_le (x := s.1 87 2) (y := a2) rfl rfl).mpr q))
      refine zn_ld rfl rfl rfl ?_
      refine zn_ld rfl rfl rfl ?_
      refine zn_zt [.ref 86, .int a2] [] rfl rfl rfl rfl rfl (Zt.imp h (fun v1 s2 h => ?_))
      obtain ⟨x3, rfl, h⟩ := h
      change Zn _ _ _ _ _ _ _ _ _ _ _ [.int x3] _ _
      refine zn_st [.ref 86, .ref 1, .int x3, .int a3, .null, .null] rfl rfl rfl ?_
      replace h := h _ (i_add (x := a3) (y := 1) rfl (show (1 : Int32).toInt = 1 by decide))
      refine zn_inc [.ref 86, .ref 1, .int x3, .int (a3 + 1), .null, .null] rfl rfl rfl rfl ?_
      refine zn_go rfl ?_
      exact r36 x3 (a3 + 1) s2 h
theorem ml_110_36_85 {d d0 : Nat} (hd : d = d0 + 8)  {a2 : Int32} {a3 : Int32} {s : zS} {Q : Option Value → zS → Prop}  (h : vl_110_36 (fun j => Zt d (wd 85 j) j) 85  a2 a3 s Q) : Zn d [] [(0, 403), (0, 439)] ([] : zW) ([] : zW) xL_9 4 (none) xE_110 (xE_110.drop 36) [.ref 86, .ref 1, .int a2, .int a3, .null, .null] [] s Q := by
  obtain ⟨I, μ, h0, h1⟩ := h
  have key : ∀ (n : Nat) (a2 : Int32) (a3 : Int32) (s : zS), μ a2 a3 s = n → I a2 a3 s → Zn d [] [(0, 403), (0, 439)] ([] : zW) ([] : zW) xL_9 4 (none) xE_110 (xE_110.drop 36) [.ref 86, .ref 1, .int a2, .int a3, .null, .null] [] s Q := by
    intro n
    induction n using Nat.strongRecOn with
    | ind n ih =>
      intro a2 a3 s e hI
      exact m_110_36_85 hd (fun a2' a3' s' q => ih _ (by rw [← e]; exact q.2) a2' a3' s' rfl q.1) (h1 a2 a3 s hI)
  exact key _ a2 a3 s rfl h0
set_option maxRecDepth 20000 in
theorem m_110_19_85 {d d0 : Nat} (hd : d = d0 + 8) {R19 : Int32 → zS → Prop} {a2 : Int32} {s : zS} {Q : Option Value → zS → Prop} (r19 : ∀ a2 s, R19 a2 s → Zn d [] [(0, 403), (0, 439)] ([] : zW) ([] : zW) xL_9 4 (none) xE_110 (xE_110.drop 19) [.ref 86, .ref 1, .int a2, .null, .null, .null] [] s Q) (h : v_110_19 (fun j => Zt d (wd 85 j) j) 85 R19 a2 s Q) : Zn d [] [(0, 403), (0, 439)] ([] : zW) ([] : zW) xL_9 4 (none) xE_110 (xE_110.drop 19) [.ref 86, .ref 1, .int a2, .null, .null, .null] [] s Q := by
  unfold v_110_19 at h
  refine zn_ld rfl rfl rfl ?_
  refine zn_c [.int 64, .int a2] (xo_push (.int 64)) rfl rfl ?_
  refine zn_brP rfl rfl ⟨fun hcn => ?_, fun hcn => ?_⟩
  · replace h := h.1 ((i_le (x := 64) (y := a2) (show (64 : Int32).toInt = 64 by decide) rfl).mp hcn)
    refine zn_ld rfl rfl rfl ?_
    refine zn_get (v := .ref 89) rfl (zv_R (a := 86) rfl rfl) ?_
    refine zn_clr [] (a := 89) hd rfl rfl rfl rfl rfl ?_
    replace h := h _ rfl
    refine zn_c [.int 0] (xo_push (.int 0)) rfl rfl ?_
    refine zn_st [.ref 86, .ref 1, .int 0, .null, .null, .null] rfl rfl rfl ?_
    refine zn_c [.int 0] (xo_push (.int 0)) rfl rfl ?_
    refine zn_st [.ref 86, .ref 1, .int 0, .int 0, .null, .null] rfl rfl rfl ?_
    exact ml_110_36_85 hd  h
  · replace h := h.2 (fun q => hcn ((i_le (x := 64) (y := a2) (show (64 : Int32).toInt = 64 by decide) rfl).mpr q))
    refine zn_ld rfl rfl rfl ?_
    refine zn_get (v := .ref 99) rfl (zv_R (a := 86) rfl rfl) ?_
    refine zn_ld rfl rfl rfl ?_
    refine zn_c [.int 0, .int a2, .ref 99] (xo_push (.int 0)) rfl rfl ?_
    refine zn_set a2 0 [] (a := 99) hd rfl rfl rfl rfl (by decide) rfl rfl ?_
    replace h := h _ rfl
    replace h := h _ (i_add (x := a2) (y := 1) rfl (show (1 : Int32).toInt = 1 by decide))
    refine zn_inc [.ref 86, .ref 1, .int (a2 + 1), .null, .null, .null] rfl rfl rfl rfl ?_
    refine zn_go rfl ?_
    exact r19 (a2 + 1) (zt s 99 a2 0) h
theorem ml_110_19_85 {d d0 : Nat} (hd : d = d0 + 8)  {a2 : Int32} {s : zS} {Q : Option Value → zS → Prop}  (h : vl_110_19 (fun j => Zt d (wd 85 j) j) 85  a2 s Q) : Zn d [] [(0, 403), (0, 439)] ([] : zW) ([] : zW) xL_9 4 (none) xE_110 (xE_110.drop 19) [.ref 86, .ref 1, .int a2, .null, .null, .null] [] s Q := by
  obtain ⟨I, μ, h0, h1⟩ := h
  have key : ∀ (n : Nat) (a2 : Int32) (s : zS), μ a2 s = n → I a2 s → Zn d [] [(0, 403), (0, 439)] ([] : zW) ([] : zW) xL_9 4 (none) xE_110 (xE_110.drop 19) [.ref 86, .ref 1, .int a2, .null, .null, .null] [] s Q := by
    intro n
    induction n using Nat.strongRecOn with
    | ind n ih =>
      intro a2 s e hI
      exact m_110_19_85 hd (fun a2' s' q => ih _ (by rw [← e]; exact q.2) a2' s' rfl q.1) (h1 a2 s hI)
  exact key _ a2 s rfl h0
set_option maxRecDepth 20000 in
theorem m_110_5_85 {d d0 : Nat} (hd : d = d0 + 8) {R5 : Int32 → zS → Prop} {a2 : Int32} {s : zS} {Q : Option Value → zS → Prop} (r5 : ∀ a2 s, R5 a2 s → Zn d [] [(0, 403), (0, 439)] ([] : zW) ([] : zW) xL_9 4 (none) xE_110 (xE_110.drop 5) [.ref 86, .ref 1, .int a2, .null, .null, .null] [] s Q) (h : v_110_5 (fun j => Zt d (wd 85 j) j) 85 R5 a2 s Q) : Zn d [] [(0, 403), (0, 439)] ([] : zW) ([] : zW) xL_9 4 (none) xE_110 (xE_110.drop 5) [.ref 86, .ref 1, .int a2, .null, .null, .null] [] s Q := by
  unfold v_110_5 at h
  refine zn_ld rfl rfl rfl ?_
  refine zn_ld rfl rfl rfl ?_
  refine zn_get (v := .int (s.1 1 2)) rfl (zv_I (a := 1) rfl rfl) ?_
  refine zn_brP rfl rfl ⟨fun hcn => ?_, fun hcn => ?_⟩
  · replace h := h.1 ((i_le (x := s.1 1 2) (y := a2) rfl rfl).mp hcn)
    refine zn_c [.int 0] (xo_push (.int 0)) rfl rfl ?_
    refine zn_st [.ref 86, .ref 1, .int 0, .null, .null, .null] rfl rfl rfl ?_
    exact ml_110_19_85 hd  h
  · replace h := h.2 (fun q => hcn ((i_le (x := s.1 1 2) (y := a2) rfl rfl).mpr q))
    refine zn_ld rfl rfl rfl ?_
    refine zn_get (v := .ref 87) rfl (zv_R (a := 86) rfl rfl) ?_
    refine zn_ld rfl rfl rfl ?_
    refine zn_ld rfl rfl rfl ?_
    refine zn_row a2 [.ref 87] (a := 1) hd rfl rfl rfl rfl ?_
    change Zn _ _ _ _ _ _ _ _ _ _ _ [.int (zg s 1 a2), .ref 87] _ _
    refine zn_add (zg s 1 a2) [] (a := 87) hd rfl rfl rfl rfl ⟨Int32.le_toInt _, Int.le_of_lt_add_one (Int32.toInt_lt _)⟩ (fun q => absurd q (by decide)) rfl ?_
    replace h := h _ rfl
    replace h := h _ (i_add (x := a2) (y := 1) rfl (show (1 : Int32).toInt = 1 by decide))
    refine zn_inc [.ref 86, .ref 1, .int (a2 + 1), .null, .null, .null] rfl rfl rfl rfl ?_
    refine zn_go rfl ?_
    exact r5 (a2 + 1) (za s 87 (zg s 1 a2)) h
theorem ml_110_5_85 {d d0 : Nat} (hd : d = d0 + 8)  {a2 : Int32} {s : zS} {Q : Option Value → zS → Prop}  (h : vl_110_5 (fun j => Zt d (wd 85 j) j) 85  a2 s Q) : Zn d [] [(0, 403), (0, 439)] ([] : zW) ([] : zW) xL_9 4 (none) xE_110 (xE_110.drop 5) [.ref 86, .ref 1, .int a2, .null, .null, .null] [] s Q := by
  obtain ⟨I, μ, h0, h1⟩ := h
  have key : ∀ (n : Nat) (a2 : Int32) (s : zS), μ a2 s = n → I a2 s → Zn d [] [(0, 403), (0, 439)] ([] : zW) ([] : zW) xL_9 4 (none) xE_110 (xE_110.drop 5) [.ref 86, .ref 1, .int a2, .null, .null, .null] [] s Q := by
    intro n
    induction n using Nat.strongRecOn with
    | ind n ih =>
      intro a2 s e hI
      exact m_110_5_85 hd (fun a2' s' q => ih _ (by rw [← e]; exact q.2) a2' s' rfl q.1) (h1 a2 s hI)
  exact key _ a2 s rfl h0
set_option maxRecDepth 20000 in
theorem m_110_0_85 {d d0 : Nat} (hd : d = d0 + 8)   {s : zS} {Q : Option Value → zS → Prop}  (h : v_110_0 (fun j => Zt d (wd 85 j) j) 85   s Q) : Zn d [] [(0, 403), (0, 439)] ([] : zW) ([] : zW) xL_9 4 (none) xE_110 (xE_110.drop 0) [.ref 86, .ref 1, .null, .null, .null, .null] [] s Q := by
  unfold v_110_0 at h
  refine zn_ld rfl rfl rfl ?_
  refine zn_get (v := .ref 87) rfl (zv_R (a := 86) rfl rfl) ?_
  refine zn_clr [] (a := 87) hd rfl rfl rfl rfl rfl ?_
  replace h := h _ rfl
  refine zn_c [.int 0] (xo_push (.int 0)) rfl rfl ?_
  refine zn_st [.ref 86, .ref 1, .int 0, .null, .null, .null] rfl rfl rfl ?_
  exact ml_110_5_85 hd  h
theorem zq_110_85 {d : Nat}  {s : zS} {Q : Option Value → zS → Prop} (h : v_110_0 (fun j => Zt (d + 8) (wd 85 j) j) 85  s Q) : Zt (d + 9) ([] : zW) 110 [.ref 86, .ref 1] s Q := zt_of (E := xE_110) (L := xL_9) (ml := 4) (ret := none) rfl rfl rfl (m_110_0_85 rfl h)
theorem zc_116T {d e : Nat} (he : e = 1000001 ∨ e = 1000002 ∨ e = 1000003 ∨ e = 1000004 ∨ e = 1000005 ∨ e = 1000006) {a1 : Int32} {a2 : Int32} {s : zS} {Q : Option Value → zS → Prop} (h : v_116_0 (fun j => Zt (d + 8) (wd 85 j) j) 85 e a1 a2 s Q) : Zt (d + 9) [] 116 [.ref 86, .int a1, .int a2, .ref e] s Q := by
  rcases he with rfl | rfl | rfl | rfl | rfl | rfl
  · exact zq_116_85e1000001 h
  · exact zq_116_85e1000002 h
  · exact zq_116_85e1000003 h
  · exact zq_116_85e1000004 h
  · exact zq_116_85e1000005 h
  · exact zq_116_85e1000006 h
/-! FeatherBench$Text.same -/
def v_111A_25 (T : Nat → List Value → zS → (Option Value → zS → Prop) → Prop) (P : Nat) (R25 : Int32 → Int32 → Int32 → Int32 → Int32 → Int32 → zS → Prop) (a1 : Int32) (a3 : Int32) (a4 : Int32) (a5 : Int32) (a6 : Int32) (a7 : Int32) (s : zS) (Q : Option Value → zS → Prop) : Prop :=
  (a4.toInt ≤ a7.toInt → Q (some (.int 1)) s) ∧ (¬ (a4.toInt ≤ a7.toInt) → ∀ x1 : Int32, (-2147483648 ≤ a5.toInt + a7.toInt ∧ a5.toInt + a7.toInt ≤ 2147483647 → x1.toInt = a5.toInt + a7.toInt) → ∀ x2 : Int32, (-2147483648 ≤ a6.toInt + a7.toInt ∧ a6.toInt + a7.toInt ≤ 2147483647 → x2.toInt = a6.toInt + a7.toInt) → ((zg s (P + 2) x1).toInt = (zg s 87 x2).toInt → ∀ x3 : Int32, (-2147483648 ≤ a7.toInt + 1 ∧ a7.toInt + 1 ≤ 2147483647 → x3.toInt = a7.toInt + 1) → R25 a1 a3 a4 a5 a6 x3 s) ∧ (¬ ((zg s (P + 2) x1).toInt = (zg s 87 x2).toInt) → Q (some (.int 0)) s))
def vl_111A_25 (T : Nat → List Value → zS → (Option Value → zS → Prop) → Prop) (P : Nat)  (a1 : Int32) (a3 : Int32) (a4 : Int32) (a5 : Int32) (a6 : Int32) (a7 : Int32) (s : zS) (Q : Option Value → zS → Prop) : Prop :=
  ∃ (I : Int32 → Int32 → Int32 → Int32 → Int32 → Int32 → zS → Prop) (μ : Int32 → Int32 → Int32 → Int32 → Int32 → Int32 → zS → Nat), I a1 a3 a4 a5 a6 a7 s ∧ ∀ (a1 : Int32) (a3 : Int32) (a4 : Int32) (a5 : Int32) (a6 : Int32) (a7 : Int32) (s : zS), I a1 a3 a4 a5 a6 a7 s → v_111A_25 T P (fun a1' a3' a4' a5' a6' a7' s' => I a1' a3' a4' a5' a6' a7' s' ∧ μ a1' a3' a4' a5' a6' a7' s' < μ a1 a3 a4 a5 a6 a7 s) a1 a3 a4 a5 a6 a7 s Q
def v_111A_0 (T : Nat → List Value → zS → (Option Value → zS → Prop) → Prop) (P : Nat)  (a1 : Int32) (a3 : Int32) (s : zS) (Q : Option Value → zS → Prop) : Prop :=
  ((zg s (P + 8) a1).toInt = (zg s 93 a3).toInt → vl_111A_25 T P  a1 a3 (zg s (P + 8) a1) (zg s (P + 6) a1) (zg s 91 a3) 0 s Q) ∧ (¬ ((zg s (P + 8) a1).toInt = (zg s 93 a3).toInt) → Q (some (.int 0)) s)
set_option maxRecDepth 20000 in
theorem m_111A_25_3 {d d0 : Nat} (hd : d = d0 + 8) {R25 : Int32 → Int32 → Int32 → Int32 → Int32 → Int32 → zS → Prop} {a1 : Int32} {a3 : Int32} {a4 : Int32} {a5 : Int32} {a6 : Int32} {a7 : Int32} {s : zS} {Q : Option Value → zS → Prop} (r25 : ∀ a1 a3 a4 a5 a6 a7 s, R25 a1 a3 a4 a5 a6 a7 s → Zn d [] [] ([] : zW) ([] : zW) xL_9 8 (some .boolean) xE_111 (xE_111.drop 25) [.ref 4, .int a1, .ref 86, .int a3, .int a4, .int a5, .int a6, .int a7, .null, .null, .null, .null] [] s Q) (h : v_111A_25 (fun j => Zt d (wd3 3 j) j) 3 R25 a1 a3 a4 a5 a6 a7 s Q) : Zn d [] [] ([] : zW) ([] : zW) xL_9 8 (some .boolean) xE_111 (xE_111.drop 25) [.ref 4, .int a1, .ref 86, .int a3, .int a4, .int a5, .int a6, .int a7, .null, .null, .null, .null] [] s Q := by
  unfold v_111A_25 at h
  refine zn_ld rfl rfl rfl ?_
  refine zn_ld rfl rfl rfl ?_
  refine zn_brP rfl rfl ⟨fun hcn => ?_, fun hcn => ?_⟩
  · replace h := h.1 ((i_le (x := a4) (y := a7) rfl rfl).mp hcn)
    refine zn_c [.int 1] (xo_push (.int 1)) rfl rfl ?_
    exact zn_retZ rfl rfl h
  · replace h := h.2 (fun q => hcn ((i_le (x := a4) (y := a7) rfl rfl).mpr q))
    refine zn_ld rfl rfl rfl ?_
    refine zn_get (v := .ref 5) rfl (zv_R (a := 4) rfl rfl) ?_
    refine zn_ld rfl rfl rfl ?_
    refine zn_ld rfl rfl rfl ?_
    replace h := h _ (i_add (x := a5) (y := a7) rfl rfl)
    refine zn_c [.int (a5 + a7), .ref 5] xo_iadd rfl rfl ?_
    refine zn_row (a5 + a7) [] (a := 5) hd rfl rfl rfl rfl ?_
    change Zn _ _ _ _ _ _ _ _ _ _ _ [.int (zg s 5 (a5 + a7))] _ _
    refine zn_ld rfl rfl rfl ?_
    refine zn_get (v := .ref 87) rfl (zv_R (a := 86) rfl rfl) ?_
    refine zn_ld rfl rfl rfl ?_
    refine zn_ld rfl rfl rfl ?_
    replace h := h _ (i_add (x := a6) (y := a7) rfl rfl)
    refine zn_c [.int (a6 + a7), .ref 87, .int (zg s 5 (a5 + a7))] xo_iadd rfl rfl ?_
    refine zn_row (a6 + a7) [.int (zg s 5 (a5 + a7))] (a := 87) hd rfl rfl rfl rfl ?_
    change Zn _ _ _ _ _ _ _ _ _ _ _ [.int (zg s 87 (a6 + a7)), .int (zg s 5 (a5 + a7))] _ _
    refine zn_brP rfl rfl ⟨fun hcn => ?_, fun hcn => ?_⟩
    · replace h := h.1 ((i_eq (x := zg s 5 (a5 + a7)) (y := zg s 87 (a6 + a7)) rfl rfl).mp hcn)
      replace h := h _ (i_add (x := a7) (y := 1) rfl (show (1 : Int32).toInt = 1 by decide))
      refine zn_inc [.ref 4, .int a1, .ref 86, .int a3, .int a4, .int a5, .int a6, .int (a7 + 1), .null, .null, .null, .null] rfl rfl rfl rfl ?_
      refine zn_go rfl ?_
      exact r25 a1 a3 a4 a5 a6 (a7 + 1) s h
    · replace h := h.2 (fun q => hcn ((i_eq (x := zg s 5 (a5 + a7)) (y := zg s 87 (a6 + a7)) rfl rfl).mpr q))
      refine zn_c [.int 0] (xo_push (.int 0)) rfl rfl ?_
      exact zn_retZ rfl rfl h
theorem ml_111A_25_3 {d d0 : Nat} (hd : d = d0 + 8)  {a1 : Int32} {a3 : Int32} {a4 : Int32} {a5 : Int32} {a6 : Int32} {a7 : Int32} {s : zS} {Q : Option Value → zS → Prop}  (h : vl_111A_25 (fun j => Zt d (wd3 3 j) j) 3  a1 a3 a4 a5 a6 a7 s Q) : Zn d [] [] ([] : zW) ([] : zW) xL_9 8 (some .boolean) xE_111 (xE_111.drop 25) [.ref 4, .int a1, .ref 86, .int a3, .int a4, .int a5, .int a6, .int a7, .null, .null, .null, .null] [] s Q := by
  obtain ⟨I, μ, h0, h1⟩ := h
  have key : ∀ (n : Nat) (a1 : Int32) (a3 : Int32) (a4 : Int32) (a5 : Int32) (a6 : Int32) (a7 : Int32) (s : zS), μ a1 a3 a4 a5 a6 a7 s = n → I a1 a3 a4 a5 a6 a7 s → Zn d [] [] ([] : zW) ([] : zW) xL_9 8 (some .boolean) xE_111 (xE_111.drop 25) [.ref 4, .int a1, .ref 86, .int a3, .int a4, .int a5, .int a6, .int a7, .null, .null, .null, .null] [] s Q := by
    intro n
    induction n using Nat.strongRecOn with
    | ind n ih =>
      intro a1 a3 a4 a5 a6 a7 s e hI
      exact m_111A_25_3 hd (fun a1' a3' a4' a5' a6' a7' s' q => ih _ (by rw [← e]; exact q.2) a1' a3' a4' a5' a6' a7' s' rfl q.1) (h1 a1 a3 a4 a5 a6 a7 s hI)
  exact key _ a1 a3 a4 a5 a6 a7 s rfl h0
set_option maxRecDepth 20000 in
theorem m_111A_0_3 {d d0 : Nat} (hd : d = d0 + 8)  {a1 : Int32} {a3 : Int32} {s : zS} {Q : Option Value → zS → Prop}  (h : v_111A_0 (fun j => Zt d (wd3 3 j) j) 3  a1 a3 s Q) : Zn d [] [] ([] : zW) ([] : zW) xL_9 8 (some .boolean) xE_111 (xE_111.drop 0) [.ref 4, .int a1, .ref 86, .int a3, .null, .null, .null, .null, .null, .null, .null, .null] [] s Q := by
  unfold v_111A_0 at h
  refine zn_ld rfl rfl rfl ?_
  refine zn_get (v := .ref 11) rfl (zv_R (a := 4) rfl rfl) ?_
  refine zn_ld rfl rfl rfl ?_
  refine zn_row a1 [] (a := 11) hd rfl rfl rfl rfl ?_
  change Zn _ _ _ _ _ _ _ _ _ _ _ [.int (zg s 11 a1)] _ _
  refine zn_st [.ref 4, .int a1, .ref 86, .int a3, .int (zg s 11 a1), .null, .null, .null, .null, .null, .null, .null] rfl rfl rfl ?_
  refine zn_ld rfl rfl rfl ?_
  refine zn_ld rfl rfl rfl ?_
  refine zn_get (v := .ref 93) rfl (zv_R (a := 86) rfl rfl) ?_
  refine zn_ld rfl rfl rfl ?_
  refine zn_row a3 [.int (zg s 11 a1)] (a := 93) hd rfl rfl rfl rfl ?_
  change Zn _ _ _ _ _ _ _ _ _ _ _ [.int (zg s 93 a3), .int (zg s 11 a1)] _ _
  refine zn_brP rfl rfl ⟨fun hcn => ?_, fun hcn => ?_⟩
  · replace h := h.1 ((i_eq (x := zg s 11 a1) (y := zg s 93 a3) rfl rfl).mp hcn)
    refine zn_ld rfl rfl rfl ?_
    refine zn_get (v := .ref 9) rfl (zv_R (a := 4) rfl rfl) ?_
    refine zn_ld rfl rfl rfl ?_
    refine zn_row a1 [] (a := 9) hd rfl rfl rfl rfl ?_
    change Zn _ _ _ _ _ _ _ _ _ _ _ [.int (zg s 9 a1)] _ _
    refine zn_st [.ref 4, .int a1, .ref 86, .int a3, .int (zg s 11 a1), .int (zg s 9 a1), .null, .null, .null, .null, .null, .null] rfl rfl rfl ?_
    refine zn_ld rfl rfl rfl ?_
    refine zn_get (v := .ref 91) rfl (zv_R (a := 86) rfl rfl) ?_
    refine zn_ld rfl rfl rfl ?_
    refine zn_row a3 [] (a := 91) hd rfl rfl rfl rfl ?_
    change Zn _ _ _ _ _ _ _ _ _ _ _ [.int (zg s 91 a3)] _ _
    refine zn_st [.ref 4, .int a1, .ref 86, .int a3, .int (zg s 11 a1), .int (zg s 9 a1), .int (zg s 91 a3), .null, .null, .null, .null, .null] rfl rfl rfl ?_
    refine zn_c [.int 0] (xo_push (.int 0)) rfl rfl ?_
    refine zn_st [.ref 4, .int a1, .ref 86, .int a3, .int (zg s 11 a1), .int (zg s 9 a1), .int (zg s 91 a3), .int 0, .null, .null, .null, .null] rfl rfl rfl ?_
    exact ml_111A_25_3 hd  h
  · replace h := h.2 (fun q => hcn ((i_eq (x := zg s 11 a1) (y := zg s 93 a3) rfl rfl).mpr q))
    refine zn_c [.int 0] (xo_push (.int 0)) rfl rfl ?_
    exact zn_retZ rfl rfl h
theorem zq_111A_3 {d : Nat} {a1 : Int32} {a3 : Int32} {s : zS} {Q : Option Value → zS → Prop} (h : v_111A_0 (fun j => Zt (d + 8) (wd3 3 j) j) 3 a1 a3 s Q) : Zt (d + 9) ([] : zW) 111 [.ref 4, .int a1, .ref 86, .int a3] s Q := zt_of (E := xE_111) (L := xL_9) (ml := 8) (ret := some .boolean) rfl rfl rfl (m_111A_0_3 rfl h)
set_option maxRecDepth 20000 in
theorem m_111A_25_39 {d d0 : Nat} (hd : d = d0 + 8) {R25 : Int32 → Int32 → Int32 → Int32 → Int32 → Int32 → zS → Prop} {a1 : Int32} {a3 : Int32} {a4 : Int32} {a5 : Int32} {a6 : Int32} {a7 : Int32} {s : zS} {Q : Option Value → zS → Prop} (r25 : ∀ a1 a3 a4 a5 a6 a7 s, R25 a1 a3 a4 a5 a6 a7 s → Zn d [] [] ([] : zW) ([] : zW) xL_9 8 (some .boolean) xE_111 (xE_111.drop 25) [.ref 40, .int a1, .ref 86, .int a3, .int a4, .int a5, .int a6, .int a7, .null, .null, .null, .null] [] s Q) (h : v_111A_25 (fun j => Zt d (wd3 39 j) j) 39 R25 a1 a3 a4 a5 a6 a7 s Q) : Zn d [] [] ([] : zW) ([] : zW) xL_9 8 (some .boolean) xE_111 (xE_111.drop 25) [.ref 40, .int a1, .ref 86, .int a3, .int a4, .int a5, .int a6, .int a7, .null, .null, .null, .null] [] s Q := by
  unfold v_111A_25 at h
  refine zn_ld rfl rfl rfl ?_
  refine zn_ld rfl rfl rfl ?_
  refine zn_brP rfl rfl ⟨fun hcn => ?_, fun hcn => ?_⟩
  · replace h := h.1 ((i_le (x := a4) (y := a7) rfl rfl).mp hcn)
    refine zn_c [.int 1] (xo_push (.int 1)) rfl rfl ?_
    exact zn_retZ rfl rfl h
  · replace h := h.2 (fun q => hcn ((i_le (x := a4) (y := a7) rfl rfl).mpr q))
    refine zn_ld rfl rfl rfl ?_
    refine zn_get (v := .ref 41) rfl (zv_R (a := 40) rfl rfl) ?_
    refine zn_ld rfl rfl rfl ?_
    refine zn_ld rfl rfl rfl ?_
    replace h := h _ (i_add (x := a5) (y := a7) rfl rfl)
    refine zn_c [.int (a5 + a7), .ref 41] xo_iadd rfl rfl ?_
    refine zn_row (a5 + a7) [] (a := 41) hd rfl rfl rfl rfl ?_
    change Zn _ _ _ _ _ _ _ _ _ _ _ [.int (zg s 41 (a5 + a7))] _ _
    refine zn_ld rfl rfl rfl ?_
    refine zn_get (v := .ref 87) rfl (zv_R (a := 86) rfl rfl) ?_
    refine zn_ld rfl rfl rfl ?_
    refine zn_ld rfl rfl rfl ?_
    replace h := h _ (i_add (x := a6) (y := a7) rfl rfl)
    refine zn_c [.int (a6 + a7), .ref 87, .int (zg s 41 (a5 + a7))] xo_iadd rfl rfl ?_
    refine zn_row (a6 + a7) [.int (zg s 41 (a5 + a7))] (a := 87) hd rfl rfl rfl rfl ?_
    change Zn _ _ _ _ _ _ _ _ _ _ _ [.int (zg s 87 (a6 + a7)), .int (zg s 41 (a5 + a7))] _ _
    refine zn_brP rfl rfl ⟨fun hcn => ?_, fun hcn => ?_⟩
    · replace h := h.1 ((i_eq (x := zg s 41 (a5 + a7)) (y := zg s 87 (a6 + a7)) rfl rfl).mp hcn)
      replace h := h _ (i_add (x := a7) (y := 1) rfl (show (1 : Int32).toInt = 1 by decide))
      refine zn_inc [.ref 40, .int a1, .ref 86, .int a3, .int a4, .int a5, .int a6, .int (a7 + 1), .null, .null, .null, .null] rfl rfl rfl rfl ?_
      refine zn_go rfl ?_
      exact r25 a1 a3 a4 a5 a6 (a7 + 1) s h
    · replace h := h.2 (fun q => hcn ((i_eq (x := zg s 41 (a5 + a7)) (y := zg s 87 (a6 + a7)) rfl rfl).mpr q))
      refine zn_c [.int 0] (xo_push (.int 0)) rfl rfl ?_
      exact zn_retZ rfl rfl h
theorem ml_111A_25_39 {d d0 : Nat} (hd : d = d0 + 8)  {a1 : Int32} {a3 : Int32} {a4 : Int32} {a5 : Int32} {a6 : Int32} {a7 : Int32} {s : zS} {Q : Option Value → zS → Prop}  (h : vl_111A_25 (fun j => Zt d (wd3 39 j) j) 39  a1 a3 a4 a5 a6 a7 s Q) : Zn d [] [] ([] : zW) ([] : zW) xL_9 8 (some .boolean) xE_111 (xE_111.drop 25) [.ref 40, .int a1, .ref 86, .int a3, .int a4, .int a5, .int a6, .int a7, .null, .null, .null, .null] [] s Q := by
  obtain ⟨I, μ, h0, h1⟩ := h
  have key : ∀ (n : Nat) (a1 : Int32) (a3 : Int32) (a4 : Int32) (a5 : Int32) (a6 : Int32) (a7 : Int32) (s : zS), μ a1 a3 a4 a5 a6 a7 s = n → I a1 a3 a4 a5 a6 a7 s → Zn d [] [] ([] : zW) ([] : zW) xL_9 8 (some .boolean) xE_111 (xE_111.drop 25) [.ref 40, .int a1, .ref 86, .int a3, .int a4, .int a5, .int a6, .int a7, .null, .null, .null, .null] [] s Q := by
    intro n
    induction n using Nat.strongRecOn with
    | ind n ih =>
      intro a1 a3 a4 a5 a6 a7 s e hI
      exact m_111A_25_39 hd (fun a1' a3' a4' a5' a6' a7' s' q => ih _ (by rw [← e]; exact q.2) a1' a3' a4' a5' a6' a7' s' rfl q.1) (h1 a1 a3 a4 a5 a6 a7 s hI)
  exact key _ a1 a3 a4 a5 a6 a7 s rfl h0
set_option maxRecDepth 20000 in
theorem m_111A_0_39 {d d0 : Nat} (hd : d = d0 + 8)  {a1 : Int32} {a3 : Int32} {s : zS} {Q : Option Value → zS → Prop}  (h : v_111A_0 (fun j => Zt d (wd3 39 j) j) 39  a1 a3 s Q) : Zn d [] [] ([] : zW) ([] : zW) xL_9 8 (some .boolean) xE_111 (xE_111.drop 0) [.ref 40, .int a1, .ref 86, .int a3, .null, .null, .null, .null, .null, .null, .null, .null] [] s Q := by
  unfold v_111A_0 at h
  refine zn_ld rfl rfl rfl ?_
  refine zn_get (v := .ref 47) rfl (zv_R (a := 40) rfl rfl) ?_
  refine zn_ld rfl rfl rfl ?_
  refine zn_row a1 [] (a := 47) hd rfl rfl rfl rfl ?_
  change Zn _ _ _ _ _ _ _ _ _ _ _ [.int (zg s 47 a1)] _ _
  refine zn_st [.ref 40, .int a1, .ref 86, .int a3, .int (zg s 47 a1), .null, .null, .null, .null, .null, .null, .null] rfl rfl rfl ?_
  refine zn_ld rfl rfl rfl ?_
  refine zn_ld rfl rfl rfl ?_
  refine zn_get (v := .ref 93) rfl (zv_R (a := 86) rfl rfl) ?_
  refine zn_ld rfl rfl rfl ?_
  refine zn_row a3 [.int (zg s 47 a1)] (a := 93) hd rfl rfl rfl rfl ?_
  change Zn _ _ _ _ _ _ _ _ _ _ _ [.int (zg s 93 a3), .int (zg s 47 a1)] _ _
  refine zn_brP rfl rfl ⟨fun hcn => ?_, fun hcn => ?_⟩
  · replace h := h.1 ((i_eq (x := zg s 47 a1) (y := zg s 93 a3) rfl rfl).mp hcn)
    refine zn_ld rfl rfl rfl ?_
    refine zn_get (v := .ref 45) rfl (zv_R (a := 40) rfl rfl) ?_
    refine zn_ld rfl rfl rfl ?_
    refine zn_row a1 [] (a := 45) hd rfl rfl rfl rfl ?_
    change Zn _ _ _ _ _ _ _ _ _ _ _ [.int (zg s 45 a1)] _ _
    refine zn_st [.ref 40, .int a1, .ref 86, .int a3, .int (zg s 47 a1), .int (zg s 45 a1), .null, .null, .null, .null, .null, .null] rfl rfl rfl ?_
    refine zn_ld rfl rfl rfl ?_
    refine zn_get (v := .ref 91) rfl (zv_R (a := 86) rfl rfl) ?_
    refine zn_ld rfl rfl rfl ?_
    refine zn_row a3 [] (a := 91) hd rfl rfl rfl rfl ?_
    change Zn _ _ _ _ _ _ _ _ _ _ _ [.int (zg s 91 a3)] _ _
    refine zn_st [.ref 40, .int a1, .ref 86, .int a3, .int (zg s 47 a1), .int (zg s 45 a1), .int (zg s 91 a3), .null, .null, .null, .null, .null] rfl rfl rfl ?_
    refine zn_c [.int 0] (xo_push (.int 0)) rfl rfl ?_
    refine zn_st [.ref 40, .int a1, .ref 86, .int a3, .int (zg s 47 a1), .int (zg s 45 a1), .int (zg s 91 a3), .int 0, .null, .null, .null, .null] rfl rfl rfl ?_
    exact ml_111A_25_39 hd  h
  · replace h := h.2 (fun q => hcn ((i_eq (x := zg s 47 a1) (y := zg s 93 a3) rfl rfl).mpr q))
    refine zn_c [.int 0] (xo_push (.int 0)) rfl rfl ?_
    exact zn_retZ rfl rfl h
theorem zq_111A_39 {d : Nat} {a1 : Int32} {a3 : Int32} {s : zS} {Q : Option Value → zS → Prop} (h : v_111A_0 (fun j => Zt (d + 8) (wd3 39 j) j) 39 a1 a3 s Q) : Zt (d + 9) ([] : zW) 111 [.ref 40, .int a1, .ref 86, .int a3] s Q := zt_of (E := xE_111) (L := xL_9) (ml := 8) (ret := some .boolean) rfl rfl rfl (m_111A_0_39 rfl h)
theorem zc_111A {d P : Nat} (hP : P = 3 ∨ P = 39) {a1 : Int32} {a3 : Int32} {s : zS} {Q : Option Value → zS → Prop} (h : v_111A_0 (fun j => Zt (d + 8) (wd3 P j) j) P a1 a3 s Q) : Zt (d + 9) (wd3 P 111) 111 [.ref (P + 1), .int a1, .ref 86, .int a3] s Q := by
  rcases hP with rfl | rfl
  · exact zq_111A_3 h
  · exact zq_111A_39 h
/-! FeatherBench$Program.typeNamed -/
def v_51A_2 (T : Nat → List Value → zS → (Option Value → zS → Prop) → Prop) (P : Nat) (R2 : Int32 → Int32 → zS → Prop) (a2 : Int32) (a3 : Int32) (s : zS) (Q : Option Value → zS → Prop) : Prop :=
  ((s.1 (P + 24) 2 / 6).toInt ≤ a3.toInt → Q (some (.int (-1))) s) ∧ (¬ ((s.1 (P + 24) 2 / 6).toInt ≤ a3.toInt) → T 111 [.ref (P + 1), .int (zg s (P + 24) (a3 * 6 + 0)), .ref 86, .int a2] s (fun v2 s3 => ∃ x4, v2 = some (.int x4) ∧ ((x4.toInt = 0 → ∀ x5 : Int32, (-2147483648 ≤ a3.toInt + 1 ∧ a3.toInt + 1 ≤ 2147483647 → x5.toInt = a3.toInt + 1) → R2 a2 x5 s3) ∧ (¬ (x4.toInt = 0) → Q (some (.int a3)) s3))))
def vl_51A_2 (T : Nat → List Value → zS → (Option Value → zS → Prop) → Prop) (P : Nat)  (a2 : Int32) (a3 : Int32) (s : zS) (Q : Option Value → zS → Prop) : Prop :=
  ∃ (I : Int32 → Int32 → zS → Prop) (μ : Int32 → Int32 → zS → Nat), I a2 a3 s ∧ ∀ (a2 : Int32) (a3 : Int32) (s : zS), I a2 a3 s → v_51A_2 T P (fun a2' a3' s' => I a2' a3' s' ∧ μ a2' a3' s' < μ a2 a3 s) a2 a3 s Q
def v_51A_0 (T : Nat → List Value → zS → (Option Value → zS → Prop) → Prop) (P : Nat)  (a2 : Int32) (s : zS) (Q : Option Value → zS → Prop) : Prop :=
  vl_51A_2 T P  a2 0 s Q
set_option maxRecDepth 20000 in
theorem m_51A_2_3 {d d0 : Nat} (hd : d = d0 + 8) {R2 : Int32 → Int32 → zS → Prop} {a2 : Int32} {a3 : Int32} {s : zS} {Q : Option Value → zS → Prop} (r2 : ∀ a2 a3 s, R2 a2 a3 s → Zn d [] [] ([] : zW) ([] : zW) xL_4 4 (some .int) xE_51 (xE_51.drop 2) [.ref 3, .ref 86, .int a2, .int a3, .null, .null, .null] [] s Q) (h : v_51A_2 (fun j => Zt d (wd3 3 j) j) 3 R2 a2 a3 s Q) : Zn d [] [] ([] : zW) ([] : zW) xL_4 4 (some .int) xE_51 (xE_51.drop 2) [.ref 3, .ref 86, .int a2, .int a3, .null, .null, .null] [] s Q := by
  unfold v_51A_2 at h
  refine zn_ld rfl rfl rfl ?_
  refine zn_ld rfl rfl rfl ?_
  refine zn_zt [.ref 3] [.int a3] (c := []) rfl rfl rfl rfl rfl (Zt.imp (zp_44 hd (Or.inl rfl)) (fun vq sq hq => ?_))
  obtain ⟨rfl, hq⟩ := hq
  rw [hq]
  change Zn _ _ _ _ _ _ _ _ _ _ _ [.int (s.1 27 2 / 6), .int a3] _ _
  refine zn_brP rfl rfl ⟨fun hcn => ?_, fun hcn => ?_⟩
  · replace h := h.1 ((i_le (x := s.1 27 2 / 6) (y := a3) rfl rfl).mp hcn)
    refine zn_c [.int (-1)] (xo_push (.int (-1))) rfl rfl ?_
    exact zn_retI rfl h
  · replace h := h.2 (fun q => hcn ((i_le (x := s.1 27 2 / 6) (y := a3) rfl rfl).mpr q))
    refine zn_ld rfl rfl rfl ?_
    refine zn_get (v := .ref 4) rfl (zv_R (a := 3) rfl rfl) ?_
    refine zn_ld rfl rfl rfl ?_
    refine zn_ld rfl rfl rfl ?_
    refine zn_c [.int 0, .int a3, .ref 3, .ref 4] (xo_push (.int 0)) rfl rfl ?_
    refine zn_zt [.ref 3, .int a3, .int 0] [.ref 4] (c := []) rfl rfl rfl rfl rfl (Zt.imp (zp_39 hd (Or.inl rfl)) (fun vq sq hq => ?_))
    obtain ⟨rfl, hq⟩ := hq
    rw [hq]
    change Zn _ _ _ _ _ _ _ _ _ _ _ [.int (zg s 27 (a3 * 6 + 0)), .ref 4] _ _
    refine zn_ld rfl rfl rfl ?_
    refine zn_ld rfl rfl rfl ?_
    refine zn_zt [.ref 4, .int (zg s 27 (a3 * 6 + 0)), .ref 86, .int a2] [] rfl rfl rfl rfl rfl (Zt.imp h (fun v2 s3 h => ?_))
    obtain ⟨x4, rfl, h⟩ := h
    change Zn _ _ _ _ _ _ _ _ _ _ _ [.int x4] _ _
    refine zn_brP rfl rfl ⟨fun hcn => ?_, fun hcn => ?_⟩
    · replace h := h.1 ((i_eq (x := x4) (y := 0) rfl (show (0 : Int32).toInt = 0 by decide)).mp hcn)
      replace h := h _ (i_add (x := a3) (y := 1) rfl (show (1 : Int32).toInt = 1 by decide))
      refine zn_inc [.ref 3, .ref 86, .int a2, .int (a3 + 1), .null, .null, .null] rfl rfl rfl rfl ?_
      refine zn_go rfl ?_
      exact r2 a2 (a3 + 1) s3 h
    · replace h := h.2 (fun q => hcn ((i_eq (x := x4) (y := 0) rfl (show (0 : Int32).toInt = 0 by decide)).mpr q))
      refine zn_ld rfl rfl rfl ?_
      exact zn_retI rfl h
theorem ml_51A_2_3 {d d0 : Nat} (hd : d = d0 + 8)  {a2 : Int32} {a3 : Int32} {s : zS} {Q : Option Value → zS → Prop}  (h : vl_51A_2 (fun j => Zt d (wd3 3 j) j) 3  a2 a3 s Q) : Zn d [] [] ([] : zW) ([] : zW) xL_4 4 (some .int) xE_51 (xE_51.drop 2) [.ref 3, .ref 86, .int a2, .int a3, .null, .null, .null] [] s Q := by
  obtain ⟨I, μ, h0, h1⟩ := h
  have key : ∀ (n : Nat) (a2 : Int32) (a3 : Int32) (s : zS), μ a2 a3 s = n → I a2 a3 s → Zn d [] [] ([] : zW) ([] : zW) xL_4 4 (some .int) xE_51 (xE_51.drop 2) [.ref 3, .ref 86, .int a2, .int a3, .null, .null, .null] [] s Q := by
    intro n
    induction n using Nat.strongRecOn with
    | ind n ih =>
      intro a2 a3 s e hI
      exact m_51A_2_3 hd (fun a2' a3' s' q => ih _ (by rw [← e]; exact q.2) a2' a3' s' rfl q.1) (h1 a2 a3 s hI)
  exact key _ a2 a3 s rfl h0
set_option maxRecDepth 20000 in
theorem m_51A_0_3 {d d0 : Nat} (hd : d = d0 + 8)  {a2 : Int32} {s : zS} {Q : Option Value → zS → Prop}  (h : v_51A_0 (fun j => Zt d (wd3 3 j) j) 3  a2 s Q) : Zn d [] [] ([] : zW) ([] : zW) xL_4 4 (some .int) xE_51 (xE_51.drop 0) [.ref 3, .ref 86, .int a2, .null, .null, .null, .null] [] s Q := by
  unfold v_51A_0 at h
  refine zn_c [.int 0] (xo_push (.int 0)) rfl rfl ?_
  refine zn_st [.ref 3, .ref 86, .int a2, .int 0, .null, .null, .null] rfl rfl rfl ?_
  exact ml_51A_2_3 hd  h
theorem zq_51A_3 {d : Nat} {a2 : Int32} {s : zS} {Q : Option Value → zS → Prop} (h : v_51A_0 (fun j => Zt (d + 8) (wd3 3 j) j) 3 a2 s Q) : Zt (d + 9) ([] : zW) 51 [.ref 3, .ref 86, .int a2] s Q := zt_of (E := xE_51) (L := xL_4) (ml := 4) (ret := some .int) rfl rfl rfl (m_51A_0_3 rfl h)
set_option maxRecDepth 20000 in
theorem m_51A_2_39 {d d0 : Nat} (hd : d = d0 + 8) {R2 : Int32 → Int32 → zS → Prop} {a2 : Int32} {a3 : Int32} {s : zS} {Q : Option Value → zS → Prop} (r2 : ∀ a2 a3 s, R2 a2 a3 s → Zn d [] [] ([] : zW) ([] : zW) xL_4 4 (some .int) xE_51 (xE_51.drop 2) [.ref 39, .ref 86, .int a2, .int a3, .null, .null, .null] [] s Q) (h : v_51A_2 (fun j => Zt d (wd3 39 j) j) 39 R2 a2 a3 s Q) : Zn d [] [] ([] : zW) ([] : zW) xL_4 4 (some .int) xE_51 (xE_51.drop 2) [.ref 39, .ref 86, .int a2, .int a3, .null, .null, .null] [] s Q := by
  unfold v_51A_2 at h
  refine zn_ld rfl rfl rfl ?_
  refine zn_ld rfl rfl rfl ?_
  refine zn_zt [.ref 39] [.int a3] (c := []) rfl rfl rfl rfl rfl (Zt.imp (zp_44 hd (Or.inr rfl)) (fun vq sq hq => ?_))
  obtain ⟨rfl, hq⟩ := hq
  rw [hq]
  change Zn _ _ _ _ _ _ _ _ _ _ _ [.int (s.1 63 2 / 6), .int a3] _ _
  refine zn_brP rfl rfl ⟨fun hcn => ?_, fun hcn => ?_⟩
  · replace h := h.1 ((i_le (x := s.1 63 2 / 6) (y := a3) rfl rfl).mp hcn)
    refine zn_c [.int (-1)] (xo_push (.int (-1))) rfl rfl ?_
    exact zn_retI rfl h
  · replace h := h.2 (fun q => hcn ((i_le (x := s.1 63 2 / 6) (y := a3) rfl rfl).mpr q))
    refine zn_ld rfl rfl rfl ?_
    refine zn_get (v := .ref 40) rfl (zv_R (a := 39) rfl rfl) ?_
    refine zn_ld rfl rfl rfl ?_
    refine zn_ld rfl rfl rfl ?_
    refine zn_c [.int 0, .int a3, .ref 39, .ref 40] (xo_push (.int 0)) rfl rfl ?_
    refine zn_zt [.ref 39, .int a3, .int 0] [.ref 40] (c := []) rfl rfl rfl rfl rfl (Zt.imp (zp_39 hd (Or.inr rfl)) (fun vq sq hq => ?_))
    obtain ⟨rfl, hq⟩ := hq
    rw [hq]
    change Zn _ _ _ _ _ _ _ _ _ _ _ [.int (zg s 63 (a3 * 6 + 0)), .ref 40] _ _
    refine zn_ld rfl rfl rfl ?_
    refine zn_ld rfl rfl rfl ?_
    refine zn_zt [.ref 40, .int (zg s 63 (a3 * 6 + 0)), .ref 86, .int a2] [] rfl rfl rfl rfl rfl (Zt.imp h (fun v2 s3 h => ?_))
    obtain ⟨x4, rfl, h⟩ := h
    change Zn _ _ _ _ _ _ _ _ _ _ _ [.int x4] _ _
    refine zn_brP rfl rfl ⟨fun hcn => ?_, fun hcn => ?_⟩
    · replace h := h.1 ((i_eq (x := x4) (y := 0) rfl (show (0 : Int32).toInt = 0 by decide)).mp hcn)
      replace h := h _ (i_add (x := a3) (y := 1) rfl (show (1 : Int32).toInt = 1 by decide))
      refine zn_inc [.ref 39, .ref 86, .int a2, .int (a3 + 1), .null, .null, .null] rfl rfl rfl rfl ?_
      refine zn_go rfl ?_
      exact r2 a2 (a3 + 1) s3 h
    · replace h := h.2 (fun q => hcn ((i_eq (x := x4) (y := 0) rfl (show (0 : Int32).toInt = 0 by decide)).mpr q))
      refine zn_ld rfl rfl rfl ?_
      exact zn_retI rfl h
theorem ml_51A_2_39 {d d0 : Nat} (hd : d = d0 + 8)  {a2 : Int32} {a3 : Int32} {s : zS} {Q : Option Value → zS → Prop}  (h : vl_51A_2 (fun j => Zt d (wd3 39 j) j) 39  a2 a3 s Q) : Zn d [] [] ([] : zW) ([] : zW) xL_4 4 (some .int) xE_51 (xE_51.drop 2) [.ref 39, .ref 86, .int a2, .int a3, .null, .null, .null] [] s Q := by
  obtain ⟨I, μ, h0, h1⟩ := h
  have key : ∀ (n : Nat) (a2 : Int32) (a3 : Int32) (s : zS), μ a2 a3 s = n → I a2 a3 s → Zn d [] [] ([] : zW) ([] : zW) xL_4 4 (some .int) xE_51 (xE_51.drop 2) [.ref 39, .ref 86, .int a2, .int a3, .null, .null, .null] [] s Q := by
    intro n
    induction n using Nat.strongRecOn with
    | ind n ih =>
      intro a2 a3 s e hI
      exact m_51A_2_39 hd (fun a2' a3' s' q => ih _ (by rw [← e]; exact q.2) a2' a3' s' rfl q.1) (h1 a2 a3 s hI)
  exact key _ a2 a3 s rfl h0
set_option maxRecDepth 20000 in
theorem m_51A_0_39 {d d0 : Nat} (hd : d = d0 + 8)  {a2 : Int32} {s : zS} {Q : Option Value → zS → Prop}  (h : v_51A_0 (fun j => Zt d (wd3 39 j) j) 39  a2 s Q) : Zn d [] [] ([] : zW) ([] : zW) xL_4 4 (some .int) xE_51 (xE_51.drop 0) [.ref 39, .ref 86, .int a2, .null, .null, .null, .null] [] s Q := by
  unfold v_51A_0 at h
  refine zn_c [.int 0] (xo_push (.int 0)) rfl rfl ?_
  refine zn_st [.ref 39, .ref 86, .int a2, .int 0, .null, .null, .null] rfl rfl rfl ?_
  exact ml_51A_2_39 hd  h
theorem zq_51A_39 {d : Nat} {a2 : Int32} {s : zS} {Q : Option Value → zS → Prop} (h : v_51A_0 (fun j => Zt (d + 8) (wd3 39 j) j) 39 a2 s Q) : Zt (d + 9) ([] : zW) 51 [.ref 39, .ref 86, .int a2] s Q := zt_of (E := xE_51) (L := xL_4) (ml := 4) (ret := some .int) rfl rfl rfl (m_51A_0_39 rfl h)
theorem zc_51A {d P : Nat} (hP : P = 3 ∨ P = 39) {a2 : Int32} {s : zS} {Q : Option Value → zS → Prop} (h : v_51A_0 (fun j => Zt (d + 8) (wd3 P j) j) P a2 s Q) : Zt (d + 9) (wd3 P 51) 51 [.ref P, .ref 86, .int a2] s Q := by
  rcases hP with rfl | rfl
  · exact zq_51A_3 h
  · exact zq_51A_39 h
/-! FeatherBench$Told.codeOf -/
def v_133A_62 (T : Nat → List Value → zS → (Option Value → zS → Prop) → Prop) (P : Nat) (R62 : Int32 → Int32 → Int32 → Int32 → Int32 → zS → Prop) (a1 : Int32) (a2 : Int32) (a3 : Int32) (a4 : Int32) (a5 : Int32) (s : zS) (Q : Option Value → zS → Prop) : Prop :=
  (a4.toInt ≤ a5.toInt → T 51 [.ref P, .ref 86, .int a1] s (fun v1 s2 => ∃ x3, v1 = some (.int x3) ∧ (Q (some (.int x3)) s2))) ∧ (¬ (a4.toInt ≤ a5.toInt) → ∀ x4 : Int32, (-2147483648 ≤ (s.1 75 5).toInt + a5.toInt ∧ (s.1 75 5).toInt + a5.toInt ≤ 2147483647 → x4.toInt = (s.1 75 5).toInt + a5.toInt) → (¬ ((zg s 95 (zg s (P + 30) (x4 * 5 + 0))).toInt = a2.toInt) → ∀ x6 : Int32, (-2147483648 ≤ a5.toInt + 1 ∧ a5.toInt + 1 ≤ 2147483647 → x6.toInt = a5.toInt + 1) → R62 a1 a2 a3 a4 x6 s) ∧ ((zg s 95 (zg s (P + 30) (x4 * 5 + 0))).toInt = a2.toInt → ∀ x7 : Int32, (-2147483648 ≤ 24 + a5.toInt ∧ 24 + a5.toInt ≤ 2147483647 → x7.toInt = 24 + a5.toInt) → Q (some (.int x7)) s))
def vl_133A_62 (T : Nat → List Value → zS → (Option Value → zS → Prop) → Prop) (P : Nat)  (a1 : Int32) (a2 : Int32) (a3 : Int32) (a4 : Int32) (a5 : Int32) (s : zS) (Q : Option Value → zS → Prop) : Prop :=
  ∃ (I : Int32 → Int32 → Int32 → Int32 → Int32 → zS → Prop) (μ : Int32 → Int32 → Int32 → Int32 → Int32 → zS → Nat), I a1 a2 a3 a4 a5 s ∧ ∀ (a1 : Int32) (a2 : Int32) (a3 : Int32) (a4 : Int32) (a5 : Int32) (s : zS), I a1 a2 a3 a4 a5 s → v_133A_62 T P (fun a1' a2' a3' a4' a5' s' => I a1' a2' a3' a4' a5' s' ∧ μ a1' a2' a3' a4' a5' s' < μ a1 a2 a3 a4 a5 s) a1 a2 a3 a4 a5 s Q
def v_133A_30 (T : Nat → List Value → zS → (Option Value → zS → Prop) → Prop) (P : Nat) (R30 : Int32 → Int32 → Int32 → Int32 → Int32 → zS → Prop) (a1 : Int32) (a2 : Int32) (a3 : Int32) (a4 : Int32) (a5 : Int32) (s : zS) (Q : Option Value → zS → Prop) : Prop :=
  (a4.toInt ≤ a5.toInt → vl_133A_62 T P  a1 a2 a3 (zg s (P + 22) (s.1 75 4)) 0 s Q) ∧ (¬ (a4.toInt ≤ a5.toInt) → ∀ x1 : Int32, (-2147483648 ≤ a3.toInt + a5.toInt ∧ a3.toInt + a5.toInt ≤ 2147483647 → x1.toInt = a3.toInt + a5.toInt) → (¬ ((zg s 95 (zg s (P + 30) (x1 * 5 + 0))).toInt = a2.toInt) → ∀ x3 : Int32, (-2147483648 ≤ a5.toInt + 1 ∧ a5.toInt + 1 ≤ 2147483647 → x3.toInt = a5.toInt + 1) → R30 a1 a2 a3 a4 x3 s) ∧ ((zg s 95 (zg s (P + 30) (x1 * 5 + 0))).toInt = a2.toInt → ∀ x4 : Int32, (-2147483648 ≤ 30 + a5.toInt ∧ 30 + a5.toInt ≤ 2147483647 → x4.toInt = 30 + a5.toInt) → Q (some (.int x4)) s))
def vl_133A_30 (T : Nat → List Value → zS → (Option Value → zS → Prop) → Prop) (P : Nat)  (a1 : Int32) (a2 : Int32) (a3 : Int32) (a4 : Int32) (a5 : Int32) (s : zS) (Q : Option Value → zS → Prop) : Prop :=
  ∃ (I : Int32 → Int32 → Int32 → Int32 → Int32 → zS → Prop) (μ : Int32 → Int32 → Int32 → Int32 → Int32 → zS → Nat), I a1 a2 a3 a4 a5 s ∧ ∀ (a1 : Int32) (a2 : Int32) (a3 : Int32) (a4 : Int32) (a5 : Int32) (s : zS), I a1 a2 a3 a4 a5 s → v_133A_30 T P (fun a1' a2' a3' a4' a5' s' => I a1' a2' a3' a4' a5' s' ∧ μ a1' a2' a3' a4' a5' s' < μ a1 a2 a3 a4 a5 s) a1 a2 a3 a4 a5 s Q
def v_133A_27 (T : Nat → List Value → zS → (Option Value → zS → Prop) → Prop) (P : Nat)  (a1 : Int32) (a2 : Int32) (a3 : Int32) (t0 : Int32) (s : zS) (Q : Option Value → zS → Prop) : Prop :=
  vl_133A_30 T P  a1 a2 a3 t0 0 s Q
def v_133A_0 (T : Nat → List Value → zS → (Option Value → zS → Prop) → Prop) (P : Nat)  (a1 : Int32) (s : zS) (Q : Option Value → zS → Prop) : Prop :=
  (0 ≤ (s.1 75 6).toInt → v_133A_27 T P  a1 (zg s 95 a1) (zg s (P + 28) ((s.1 75 6) * 5 + 2)) (zg s (P + 28) ((s.1 75 6) * 5 + 3)) s Q) ∧ (¬ (0 ≤ (s.1 75 6).toInt) → v_133A_27 T P  a1 (zg s 95 a1) (zg s (P + 28) ((s.1 75 6) * 5 + 2)) 0 s Q)
set_option maxRecDepth 20000 in
theorem m_133A_62_3 {d d0 : Nat} (hd : d = d0 + 8) {R62 : Int32 → Int32 → Int32 → Int32 → Int32 → zS → Prop} {a1 : Int32} {a2 : Int32} {a3 : Int32} {a4 : Int32} {a5 : Int32} {s : zS} {Q : Option Value → zS → Prop} (r62 : ∀ a1 a2 a3 a4 a5 s, R62 a1 a2 a3 a4 a5 s → Zn d [] [] ([(83, 1, 3), (83, 2, 86), (75, 0, 3), (75, 1, 21), (75, 2, 25)] : zW) ([(83, 1, 3), (83, 2, 86), (75, 0, 3), (75, 1, 21), (75, 2, 25)] : zW) xL_10 6 (some .int) xE_133 (xE_133.drop 62) [.ref 83, .int a1, .int a2, .int a3, .int a4, .int a5, .null, .null] [] s Q) (h : v_133A_62 (fun j => Zt d (wd3 3 j) j) 3 R62 a1 a2 a3 a4 a5 s Q) : Zn d [] [] ([(83, 1, 3), (83, 2, 86), (75, 0, 3), (75, 1, 21), (75, 2, 25)] : zW) ([(83, 1, 3), (83, 2, 86), (75, 0, 3), (75, 1, 21), (75, 2, 25)] : zW) xL_10 6 (some .int) xE_133 (xE_133.drop 62) [.ref 83, .int a1, .int a2, .int a3, .int a4, .int a5, .null, .null] [] s Q := by
  unfold v_133A_62 at h
  refine zn_ld rfl rfl rfl ?_
  refine zn_ld rfl rfl rfl ?_
  refine zn_brP rfl rfl ⟨fun hcn => ?_, fun hcn => ?_⟩
  · replace h := h.1 ((i_le (x := a4) (y := a5) rfl rfl).mp hcn)
    refine zn_ld rfl rfl rfl ?_
    refine zn_get (v := .ref 3) rfl (zv_C (a := 83) (n := 0) rfl rfl rfl) ?_
    refine zn_ld rfl rfl rfl ?_
    refine zn_get (v := .ref 86) rfl (zv_C (a := 83) (n := 1) rfl rfl rfl) ?_
    refine zn_ld rfl rfl rfl ?_
    refine zn_zt [.ref 3, .ref 86, .int a1] [] rfl rfl rfl rfl rfl (Zt.imp h (fun v1 s2 h => ?_))
    obtain ⟨x3, rfl, h⟩ := h
    change Zn _ _ _ _ _ _ _ _ _ _ _ [.int x3] _ _
    exact zn_retI rfl h
  · replace h := h.2 (fun q => hcn ((i_le (x := a4) (y := a5) rfl rfl).mpr q))
    refine zn_ld rfl rfl rfl ?_
    refine zn_get (v := .ref 86) rfl (zv_C (a := 83) (n := 1) rfl rfl rfl) ?_
    refine zn_get (v := .ref 95) rfl (zv_R (a := 86) rfl rfl) ?_
    refine zn_ld rfl rfl rfl ?_
    refine zn_get (v := .ref 3) rfl (zv_C (a := 83) (n := 0) rfl rfl rfl) ?_
    refine zn_ld rfl rfl rfl ?_
    refine zn_get (v := .ref 75) rfl (zv_R (a := 83) rfl rfl) ?_
    refine zn_get (v := .int (s.1 75 5)) rfl (zv_I (a := 75) rfl rfl) ?_
    refine zn_ld rfl rfl rfl ?_
    replace h := h _ (i_add (x := s.1 75 5) (y := a5) rfl rfl)
    refine zn_c [.int ((s.1 75 5) + a5), .ref 3, .ref 95] xo_iadd rfl rfl ?_
    refine zn_c [.int 0, .int ((s.1 75 5) + a5), .ref 3, .ref 95] (xo_push (.int 0)) rfl rfl ?_
    refine zn_zt [.ref 3, .int ((s.1 75 5) + a5), .int 0] [.ref 95] (c := []) rfl rfl rfl rfl rfl (Zt.imp (zp_42 hd (Or.inl rfl)) (fun vq sq hq => ?_))
    obtain ⟨rfl, hq⟩ := hq
    rw [hq]
    change Zn _ _ _ _ _ _ _ _ _ _ _ [.int (zg s 33 (((s.1 75 5) + a5) * 5 + 0)), .ref 95] _ _
    refine zn_row (zg s 33 (((s.1 75 5) + a5) * 5 + 0)) [] (a := 95) hd rfl rfl rfl rfl ?_
    change Zn _ _ _ _ _ _ _ _ _ _ _ [.int (zg s 95 (zg s 33 (((s.1 75 5) + a5) * 5 + 0)))] _ _
    refine zn_ld rfl rfl rfl ?_
    refine zn_brN rfl rfl ⟨fun hcn => ?_, fun hcn => ?_⟩
    · replace h := h.1 (fun q => hcn ((i_eq (x := zg s 95 (zg s 33 (((s.1 75 5) + a5) * 5 + 0))) (y := a2) rfl rfl).mpr q))
      replace h := h _ (i_add (x := a5) (y := 1) rfl (show (1 : Int32).toInt = 1 by decide))
      refine zn_inc [.ref 83, .int a1, .int a2, .int a3, .int a4, .int (a5 + 1), .null, .null] rfl rfl rfl rfl ?_
      refine zn_go rfl ?_
      exact r62 a1 a2 a3 a4 (a5 + 1) s h
    · replace h := h.2 ((i_eq (x := zg s 95 (zg s 33 (((s.1 75 5) + a5) * 5 + 0))) (y := a2) rfl rfl).mp hcn)
      refine zn_c [.int 24] (xo_push (.int 24)) rfl rfl ?_
      refine zn_ld rfl rfl rfl ?_
      replace h := h _ (i_add (x := 24) (y := a5) (show (24 : Int32).toInt = 24 by decide) rfl)
      refine zn_c [.int (24 + a5)] xo_iadd rfl rfl ?_
      exact zn_retI rfl h
theorem ml_133A_62_3 {d d0 : Nat} (hd : d = d0 + 8)  {a1 : Int32} {a2 : Int32} {a3 : Int32} {a4 : Int32} {a5 : Int32} {s : zS} {Q : Option Value → zS → Prop}  (h : vl_133A_62 (fun j => Zt d (wd3 3 j) j) 3  a1 a2 a3 a4 a5 s Q) : Zn d [] [] ([(83, 1, 3), (83, 2, 86), (75, 0, 3), (75, 1, 21), (75, 2, 25)] : zW) ([(83, 1, 3), (83, 2, 86), (75, 0, 3), (75, 1, 21), (75, 2, 25)] : zW) xL_10 6 (some .int) xE_133 (xE_133.drop 62) [.ref 83, .int a1, .int a2, .int a3, .int a4, .int a5, .null, .null] [] s Q := by
  obtain ⟨I, μ, h0, h1⟩ := h
  have key : ∀ (n : Nat) (a1 : Int32) (a2 : Int32) (a3 : Int32) (a4 : Int32) (a5 : Int32) (s : zS), μ a1 a2 a3 a4 a5 s = n → I a1 a2 a3 a4 a5 s → Zn d [] [] ([(83, 1, 3), (83, 2, 86), (75, 0, 3), (75, 1, 21), (75, 2, 25)] : zW) ([(83, 1, 3), (83, 2, 86), (75, 0, 3), (75, 1, 21), (75, 2, 25)] : zW) xL_10 6 (some .int) xE_133 (xE_133.drop 62) [.ref 83, .int a1, .int a2, .int a3, .int a4, .int a5, .null, .null] [] s Q := by
    intro n
    induction n using Nat.strongRecOn with
    | ind n ih =>
      intro a1 a2 a3 a4 a5 s e hI
      exact m_133A_62_3 hd (fun a1' a2' a3' a4' a5' s' q => ih _ (by rw [← e]; exact q.2) a1' a2' a3' a4' a5' s' rfl q.1) (h1 a1 a2 a3 a4 a5 s hI)
  exact key _ a1 a2 a3 a4 a5 s rfl h0
set_option maxRecDepth 20000 in
theorem m_133A_30_3 {d d0 : Nat} (hd : d = d0 + 8) {R30 : Int32 → Int32 → Int32 → Int32 → Int32 → zS → Prop} {a1 : Int32} {a2 : Int32} {a3 : Int32} {a4 : Int32} {a5 : Int32} {s : zS} {Q : Option Value → zS → Prop} (r30 : ∀ a1 a2 a3 a4 a5 s, R30 a1 a2 a3 a4 a5 s → Zn d [] [] ([(83, 1, 3), (83, 2, 86), (75, 0, 3), (75, 1, 21), (75, 2, 25)] : zW) ([(83, 1, 3), (83, 2, 86), (75, 0, 3), (75, 1, 21), (75, 2, 25)] : zW) xL_10 6 (some .int) xE_133 (xE_133.drop 30) [.ref 83, .int a1, .int a2, .int a3, .int a4, .int a5, .null, .null] [] s Q) (h : v_133A_30 (fun j => Zt d (wd3 3 j) j) 3 R30 a1 a2 a3 a4 a5 s Q) : Zn d [] [] ([(83, 1, 3), (83, 2, 86), (75, 0, 3), (75, 1, 21), (75, 2, 25)] : zW) ([(83, 1, 3), (83, 2, 86), (75, 0, 3), (75, 1, 21), (75, 2, 25)] : zW) xL_10 6 (some .int) xE_133 (xE_133.drop 30) [.ref 83, .int a1, .int a2, .int a3, .int a4, .int a5, .null, .null] [] s Q := by
  unfold v_133A_30 at h
  refine zn_ld rfl rfl rfl ?_
  refine zn_ld rfl rfl rfl ?_
  refine zn_brP rfl rfl ⟨fun hcn => ?_, fun hcn => ?_⟩
  · replace h := h.1 ((i_le (x := a4) (y := a5) rfl rfl).mp hcn)
    refine zn_ld rfl rfl rfl ?_
    refine zn_get (v := .ref 3) rfl (zv_C (a := 83) (n := 0) rfl rfl rfl) ?_
    refine zn_get (v := .ref 25) rfl (zv_R (a := 3) rfl rfl) ?_
    refine zn_ld rfl rfl rfl ?_
    refine zn_get (v := .ref 75) rfl (zv_R (a := 83) rfl rfl) ?_
    refine zn_get (v := .int (s.1 75 4)) rfl (zv_I (a := 75) rfl rfl) ?_
    refine zn_row (s.1 75 4) [] (a := 25) hd rfl rfl rfl rfl ?_
    change Zn _ _ _ _ _ _ _ _ _ _ _ [.int (zg s 25 (s.1 75 4))] _ _
    refine zn_st [.ref 83, .int a1, .int a2, .int a3, .int (zg s 25 (s.1 75 4)), .int a5, .null, .null] rfl rfl rfl ?_
    refine zn_c [.int 0] (xo_push (.int 0)) rfl rfl ?_
    refine zn_st [.ref 83, .int a1, .int a2, .int a3, .int (zg s 25 (s.1 75 4)), .int 0, .null, .null] rfl rfl rfl ?_
    exact ml_133A_62_3 hd  h
  · replace h := h.2 (fun q => hcn ((i_le (x := a4) (y := a5) rfl rfl).mpr q))
    refine zn_ld rfl rfl rfl ?_
    refine zn_get (v := .ref 86) rfl (zv_C (a := 83) (n := 1) rfl rfl rfl) ?_
    refine zn_get (v := .ref 95) rfl (zv_R (a := 86) rfl rfl) ?_
    refine zn_ld rfl rfl rfl ?_
    refine zn_get (v := .ref 3) rfl (zv_C (a := 83) (n := 0) rfl rfl rfl) ?_
    refine zn_ld rfl rfl rfl ?_
    refine zn_ld rfl rfl rfl ?_
    replace h := h _ (i_add (x := a3) (y := a5) rfl rfl)
    refine zn_c [.int (a3 + a5), .ref 3, .ref 95] xo_iadd rfl rfl ?_
    refine zn_c [.int 0, .int (a3 + a5), .ref 3, .ref 95] (xo_push (.int 0)) rfl rfl ?_
    refine zn_zt [.ref 3, .int (a3 + a5), .int 0] [.ref 95] (c := []) rfl rfl rfl rfl rfl (Zt.imp (zp_42 hd (Or.inl rfl)) (fun vq sq hq => ?_))
    obtain ⟨rfl, hq⟩ := hq
    rw [hq]
    change Zn _ _ _ _ _ _ _ _ _ _ _ [.int (zg s 33 ((a3 + a5) * 5 + 0)), .ref 95] _ _
    refine zn_row (zg s 33 ((a3 + a5) * 5 + 0)) [] (a := 95) hd rfl rfl rfl rfl ?_
    change Zn _ _ _ _ _ _ _ _ _ _ _ [.int (zg s 95 (zg s 33 ((a3 + a5) * 5 + 0)))] _ _
    refine zn_ld rfl rfl rfl ?_
    refine zn_brN rfl rfl ⟨fun hcn => ?_, fun hcn => ?_⟩
    · replace h := h.1 (fun q => hcn ((i_eq (x := zg s 95 (zg s 33 ((a3 + a5) * 5 + 0))) (y := a2) rfl rfl).mpr q))
      replace h := h _ (i_add (x := a5) (y := 1) rfl (show (1 : Int32).toInt = 1 by decide))
      refine zn_inc [.ref 83, .int a1, .int a2, .int a3, .int a4, .int (a5 + 1), .null, .null] rfl rfl rfl rfl ?_
      refine zn_go rfl ?_
      exact r30 a1 a2 a3 a4 (a5 + 1) s h
    · replace h := h.2 ((i_eq (x := zg s 95 (zg s 33 ((a3 + a5) * 5 + 0))) (y := a2) rfl rfl).mp hcn)
      refine zn_c [.int 30] (xo_push (.int 30)) rfl rfl ?_
      refine zn_ld rfl rfl rfl ?_
      replace h := h _ (i_add (x := 30) (y := a5) (show (30 : Int32).toInt = 30 by decide) rfl)
      refine zn_c [.int (30 + a5)] xo_iadd rfl rfl ?_
      exact zn_retI rfl h
theorem ml_133A_30_3 {d d0 : Nat} (hd : d = d0 + 8)  {a1 : Int32} {a2 : Int32} {a3 : Int32} {a4 : Int32} {a5 : Int32} {s : zS} {Q : Option Value → zS → Prop}  (h : vl_133A_30 (fun j => Zt d (wd3 3 j) j) 3  a1 a2 a3 a4 a5 s Q) : Zn d [] [] ([(83, 1, 3), (83, 2, 86), (75, 0, 3), (75, 1, 21), (75, 2, 25)] : zW) ([(83, 1, 3), (83, 2, 86), (75, 0, 3), (75, 1, 21), (75, 2, 25)] : zW) xL_10 6 (some .int) xE_133 (xE_133.drop 30) [.ref 83, .int a1, .int a2, .int a3, .int a4, .int a5, .null, .null] [] s Q := by
  obtain ⟨I, μ, h0, h1⟩ := h
  have key : ∀ (n : Nat) (a1 : Int32) (a2 : Int32) (a3 : Int32) (a4 : Int32) (a5 : Int32) (s : zS), μ a1 a2 a3 a4 a5 s = n → I a1 a2 a3 a4 a5 s → Zn d [] [] ([(83, 1, 3), (83, 2, 86), (75, 0, 3), (75, 1, 21), (75, 2, 25)] : zW) ([(83, 1, 3), (83, 2, 86), (75, 0, 3), (75, 1, 21), (75, 2, 25)] : zW) xL_10 6 (some .int) xE_133 (xE_133.drop 30) [.ref 83, .int a1, .int a2, .int a3, .int a4, .int a5, .null, .null] [] s Q := by
    intro n
    induction n using Nat.strongRecOn with
    | ind n ih =>
      intro a1 a2 a3 a4 a5 s e hI
      exact m_133A_30_3 hd (fun a1' a2' a3' a4' a5' s' q => ih _ (by rw [← e]; exact q.2) a1' a2' a3' a4' a5' s' rfl q.1) (h1 a1 a2 a3 a4 a5 s hI)
  exact key _ a1 a2 a3 a4 a5 s rfl h0
set_option maxRecDepth 20000 in
theorem m_133A_27_3 {d d0 : Nat} (hd : d = d0 + 8)  {a1 : Int32} {a2 : Int32} {a3 : Int32} {t0 : Int32} {s : zS} {Q : Option Value → zS → Prop}  (h : v_133A_27 (fun j => Zt d (wd3 3 j) j) 3  a1 a2 a3 t0 s Q) : Zn d [] [] ([(83, 1, 3), (83, 2, 86), (75, 0, 3), (75, 1, 21), (75, 2, 25)] : zW) ([(83, 1, 3), (83, 2, 86), (75, 0, 3), (75, 1, 21), (75, 2, 25)] : zW) xL_10 6 (some .int) xE_133 (xE_133.drop 27) [.ref 83, .int a1, .int a2, .int a3, .null, .null, .null, .null] [.int t0] s Q := by
  unfold v_133A_27 at h
  refine zn_st [.ref 83, .int a1, .int a2, .int a3, .int t0, .null, .null, .null] rfl rfl rfl ?_
  refine zn_c [.int 0] (xo_push (.int 0)) rfl rfl ?_
  refine zn_st [.ref 83, .int a1, .int a2, .int a3, .int t0, .int 0, .null, .null] rfl rfl rfl ?_
  exact ml_133A_30_3 hd  h
set_option maxRecDepth 20000 in
theorem m_133A_0_3 {d d0 : Nat} (hd : d = d0 + 8)  {a1 : Int32} {s : zS} {Q : Option Value → zS → Prop}  (h : v_133A_0 (fun j => Zt d (wd3 3 j) j) 3  a1 s Q) : Zn d [] [] ([(83, 1, 3), (83, 2, 86), (75, 0, 3), (75, 1, 21), (75, 2, 25)] : zW) ([(83, 1, 3), (83, 2, 86), (75, 0, 3), (75, 1, 21), (75, 2, 25)] : zW) xL_10 6 (some .int) xE_133 (xE_133.drop 0) [.ref 83, .int a1, .null, .null, .null, .null, .null, .null] [] s Q := by
  unfold v_133A_0 at h
  refine zn_ld rfl rfl rfl ?_
  refine zn_get (v := .ref 86) rfl (zv_C (a := 83) (n := 1) rfl rfl rfl) ?_
  refine zn_get (v := .ref 95) rfl (zv_R (a := 86) rfl rfl) ?_
  refine zn_ld rfl rfl rfl ?_
  refine zn_row a1 [] (a := 95) hd rfl rfl rfl rfl ?_
  change Zn _ _ _ _ _ _ _ _ _ _ _ [.int (zg s 95 a1)] _ _
  refine zn_st [.ref 83, .int a1, .int (zg s 95 a1), .null, .null, .null, .null, .null] rfl rfl rfl ?_
  refine zn_ld rfl rfl rfl ?_
  refine zn_get (v := .ref 3) rfl (zv_C (a := 83) (n := 0) rfl rfl rfl) ?_
  refine zn_ld rfl rfl rfl ?_
  refine zn_get (v := .ref 75) rfl (zv_R (a := 83) rfl rfl) ?_
  refine zn_get (v := .int (s.1 75 6)) rfl (zv_I (a := 75) rfl rfl) ?_
  refine zn_c [.int 2, .int (s.1 75 6), .ref 3] (xo_push (.int 2)) rfl rfl ?_
  refine zn_zt [.ref 3, .int (s.1 75 6), .int 2] [] (c := []) rfl rfl rfl rfl rfl (Zt.imp (zp_41 hd (Or.inl rfl)) (fun vq sq hq => ?_))
  obtain ⟨rfl, hq⟩ := hq
  rw [hq]
  change Zn _ _ _ _ _ _ _ _ _ _ _ [.int (zg s 31 ((s.1 75 6) * 5 + 2))] _ _
  refine zn_st [.ref 83, .int a1, .int (zg s 95 a1), .int (zg s 31 ((s.1 75 6) * 5 + 2)), .null, .null, .null, .null] rfl rfl rfl ?_
  refine zn_ld rfl rfl rfl ?_
  refine zn_get (v := .ref 75) rfl (zv_R (a := 83) rfl rfl) ?_
  refine zn_get (v := .int (s.1 75 6)) rfl (zv_I (a := 75) rfl rfl) ?_
  refine zn_brP rfl rfl ⟨fun hcn => ?_, fun hcn => ?_⟩
  · replace h := h.1 ((i_le (x := 0) (y := s.1 75 6) (show (0 : Int32).toInt = 0 by decide) rfl).mp hcn)
    refine zn_ld rfl rfl rfl ?_
    refine zn_get (v := .ref 3) rfl (zv_C (a := 83) (n := 0) rfl rfl rfl) ?_
    refine zn_ld rfl rfl rfl ?_
    refine zn_get (v := .ref 75) rfl (zv_R (a := 83) rfl rfl) ?_
    refine zn_get (v := .int (s.1 75 6)) rfl (zv_I (a := 75) rfl rfl) ?_
    refine zn_c [.int 3, .int (s.1 75 6), .ref 3] (xo_push (.int 3)) rfl rfl ?_
    refine zn_zt [.ref 3, .int (s.1 75 6), .int 3] [] (c := []) rfl rfl rfl rfl rfl (Zt.imp (zp_41 hd (Or.inl rfl)) (fun vq sq hq => ?_))
    obtain ⟨rfl, hq⟩ := hq
    rw [hq]
    change Zn _ _ _ _ _ _ _ _ _ _ _ [.int (zg s 31 ((s.1 75 6) * 5 + 3))] _ _
    exact m_133A_27_3 hd  h
  · replace h := h.2 (fun q => hcn ((i_le (x := 0) (y := s.1 75 6) (show (0 : Int32).toInt = 0 by decide) rfl).mpr q))
    refine zn_c [.int 0] (xo_push (.int 0)) rfl rfl ?_
    refine zn_go rfl ?_
    exact m_133A_27_3 hd  h
theorem zq_133A_3 {d : Nat} {a1 : Int32} {s : zS} {Q : Option Value → zS → Prop} (h : v_133A_0 (fun j => Zt (d + 8) (wd3 3 j) j) 3 a1 s Q) : Zt (d + 9) ([(83, 1, 3), (83, 2, 86), (75, 0, 3), (75, 1, 21), (75, 2, 25)] : zW) 133 [.ref 83, .int a1] s Q := zt_of (E := xE_133) (L := xL_10) (ml := 6) (ret := some .int) rfl rfl rfl (m_133A_0_3 rfl h)
set_option maxRecDepth 20000 in
theorem m_133A_62_39 {d d0 : Nat} (hd : d = d0 + 8) {R62 : Int32 → Int32 → Int32 → Int32 → Int32 → zS → Prop} {a1 : Int32} {a2 : Int32} {a3 : Int32} {a4 : Int32} {a5 : Int32} {s : zS} {Q : Option Value → zS → Prop} (r62 : ∀ a1 a2 a3 a4 a5 s, R62 a1 a2 a3 a4 a5 s → Zn d [] [] ([(83, 1, 39), (83, 2, 86), (75, 0, 39), (75, 1, 57), (75, 2, 61)] : zW) ([(83, 1, 39), (83, 2, 86), (75, 0, 39), (75, 1, 57), (75, 2, 61)] : zW) xL_10 6 (some .int) xE_133 (xE_133.drop 62) [.ref 83, .int a1, .int a2, .int a3, .int a4, .int a5, .null, .null] [] s Q) (h : v_133A_62 (fun j => Zt d (wd3 39 j) j) 39 R62 a1 a2 a3 a4 a5 s Q) : Zn d [] [] ([(83, 1, 39), (83, 2, 86), (75, 0, 39), (75, 1, 57), (75, 2, 61)] : zW) ([(83, 1, 39), (83, 2, 86), (75, 0, 39), (75, 1, 57), (75, 2, 61)] : zW) xL_10 6 (some .int) xE_133 (xE_133.drop 62) [.ref 83, .int a1, .int a2, .int a3, .int a4, .int a5, .null, .null] [] s Q := by
  unfold v_133A_62 at h
  refine zn_ld rfl rfl rfl ?_
  refine zn_ld rfl rfl rfl ?_
  refine zn_brP rfl rfl ⟨fun hcn => ?_, fun hcn => ?_⟩
  · replace h := h.1 ((i_le (x := a4) (y := a5) rfl rfl).mp hcn)
    refine zn_ld rfl rfl rfl ?_
    refine zn_get (v := .ref 39) rfl (zv_C (a := 83) (n := 0) rfl rfl rfl) ?_
    refine zn_ld rfl rfl rfl ?_
    refine zn_get (v := .ref 86) rfl (zv_C (a := 83) (n := 1) rfl rfl rfl) ?_
    refine zn_ld rfl rfl rfl ?_
    refine zn_zt [.ref 39, .ref 86, .int a1] [] rfl rfl rfl rfl rfl (Zt.imp h (fun v1 s2 h => ?_))
    obtain ⟨x3, rfl, h⟩ := h
    change Zn _ _ _ _ _ _ _ _ _ _ _ [.int x3] _ _
    exact zn_retI rfl h
  · replace h := h.2 (fun q => hcn ((i_le (x := a4) (y := a5) rfl rfl).mpr q))
    refine zn_ld rfl rfl rfl ?_
    refine zn_get (v := .ref 86) rfl (zv_C (a := 83) (n := 1) rfl rfl rfl) ?_
    refine zn_get (v := .ref 95) rfl (zv_R (a := 86) rfl rfl) ?_
    refine zn_ld rfl rfl rfl ?_
    refine zn_get (v := .ref 39) rfl (zv_C (a := 83) (n := 0) rfl rfl rfl) ?_
    refine zn_ld rfl rfl rfl ?_
    refine zn_get (v := .ref 75) rfl (zv_R (a := 83) rfl rfl) ?_
    refine zn_get (v := .int (s.1 75 5)) rfl (zv_I (a := 75) rfl rfl) ?_
    refine zn_ld rfl rfl rfl ?_
    replace h := h _ (i_add (x := s.1 75 5) (y := a5) rfl rfl)
    refine zn_c [.int ((s.1 75 5) + a5), .ref 39, .ref 95] xo_iadd rfl rfl ?_
    refine zn_c [.int 0, .int ((s.1 75 5) + a5), .ref 39, .ref 95] (xo_push (.int 0)) rfl rfl ?_
    refine zn_zt [.ref 39, .int ((s.1 75 5) + a5), .int 0] [.ref 95] (c := []) rfl rfl rfl rfl rfl (Zt.imp (zp_42 hd (Or.inr rfl)) (fun vq sq hq => ?_))
    obtain ⟨rfl, hq⟩ := hq
    rw [hq]
    change Zn _ _ _ _ _ _ _ _ _ _ _ [.int (zg s 69 (((s.1 75 5) + a5) * 5 + 0)), .ref 95] _ _
    refine zn_row (zg s 69 (((s.1 75 5) + a5) * 5 + 0)) [] (a := 95) hd rfl rfl rfl rfl ?_
    change Zn _ _ _ _ _ _ _ _ _ _ _ [.int (zg s 95 (zg s 69 (((s.1 75 5) + a5) * 5 + 0)))] _ _
    refine zn_ld rfl rfl rfl ?_
    refine zn_brN rfl rfl ⟨fun hcn => ?_, fun hcn => ?_⟩
    · replace h := h.1 (fun q => hcn ((i_eq (x := zg s 95 (zg s 69 (((s.1 75 5) + a5) * 5 + 0))) (y := a2) rfl rfl).mpr q))
      replace h := h _ (i_add (x := a5) (y := 1) rfl (show (1 : Int32).toInt = 1 by decide))
      refine zn_inc [.ref 83, .int a1, .int a2, .int a3, .int a4, .int (a5 + 1), .null, .null] rfl rfl rfl rfl ?_
      refine zn_go rfl ?_
      exact r62 a1 a2 a3 a4 (a5 + 1) s h
    · replace h := h.2 ((i_eq (x := zg s 95 (zg s 69 (((s.1 75 5) + a5) * 5 + 0))) (y := a2) rfl rfl).mp hcn)
      refine zn_c [.int 24] (xo_push (.int 24)) rfl rfl ?_
      refine zn_ld rfl rfl rfl ?_
      replace h := h _ (i_add (x := 24) (y := a5) (show (24 : Int32).toInt = 24 by decide) rfl)
      refine zn_c [.int (24 + a5)] xo_iadd rfl rfl ?_
      exact zn_retI rfl h
theorem ml_133A_62_39 {d d0 : Nat} (hd : d = d0 + 8)  {a1 : Int32} {a2 : Int32} {a3 : Int32} {a4 : Int32} {a5 : Int32} {s : zS} {Q : Option Value → zS → Prop}  (h : vl_133A_62 (fun j => Zt d (wd3 39 j) j) 39  a1 a2 a3 a4 a5 s Q) : Zn d [] [] ([(83, 1, 39), (83, 2, 86), (75, 0, 39), (75, 1, 57), (75, 2, 61)] : zW) ([(83, 1, 39), (83, 2, 86), (75, 0, 39), (75, 1, 57), (75, 2, 61)] : zW) xL_10 6 (some .int) xE_133 (xE_133.drop 62) [.ref 83, .int a1, .int a2, .int a3, .int a4, .int a5, .null, .null] [] s Q := by
  obtain ⟨I, μ, h0, h1⟩ := h
  have key : ∀ (n : Nat) (a1 : Int32) (a2 : Int32) (a3 : Int32) (a4 : Int32) (a5 : Int32) (s : zS), μ a1 a2 a3 a4 a5 s = n → I a1 a2 a3 a4 a5 s → Zn d [] [] ([(83, 1, 39), (83, 2, 86), (75, 0, 39), (75, 1, 57), (75, 2, 61)] : zW) ([(83, 1, 39), (83, 2, 86), (75, 0, 39), (75, 1, 57), (75, 2, 61)] : zW) xL_10 6 (some .int) xE_133 (xE_133.drop 62) [.ref 83, .int a1, .int a2, .int a3, .int a4, .int a5, .null, .null] [] s Q := by
    intro n
    induction n using Nat.strongRecOn with
    | ind n ih =>
      intro a1 a2 a3 a4 a5 s e hI
      exact m_133A_62_39 hd (fun a1' a2' a3' a4' a5' s' q => ih _ (by rw [← e]; exact q.2) a1' a2' a3' a4' a5' s' rfl q.1) (h1 a1 a2 a3 a4 a5 s hI)
  exact key _ a1 a2 a3 a4 a5 s rfl h0
set_option maxRecDepth 20000 in
theorem m_133A_30_39 {d d0 : Nat} (hd : d = d0 + 8) {R30 : Int32 → Int32 → Int32 → Int32 → Int32 → zS → Prop} {a1 : Int32} {a2 : Int32} {a3 : Int32} {a4 : Int32} {a5 : Int32} {s : zS} {Q : Option Value → zS → Prop} (r30 : ∀ a1 a2 a3 a4 a5 s, R30 a1 a2 a3 a4 a5 s → Zn d [] [] ([(83, 1, 39), (83, 2, 86), (75, 0, 39), (75, 1, 57), (75, 2, 61)] : zW) ([(83, 1, 39), (83, 2, 86), (75, 0, 39), (75, 1, 57), (75, 2, 61)] : zW) xL_10 6 (some .int) xE_133 (xE_133.drop 30) [.ref 83, .int a1, .int a2, .int a3, .int a4, .int a5, .null, .null] [] s Q) (h : v_133A_30 (fun j => Zt d (wd3 39 j) j) 39 R30 a1 a2 a3 a4 a5 s Q) : Zn d [] [] ([(83, 1, 39), (83, 2, 86), (75, 0, 39), (75, 1, 57), (75, 2, 61)] : zW) ([(83, 1, 39), (83, 2, 86), (75, 0, 39), (75, 1, 57), (75, 2, 61)] : zW) xL_10 6 (some .int) xE_133 (xE_133.drop 30) [.ref 83, .int a1, .int a2, .int a3, .int a4, .int a5, .null, .null] [] s Q := by
  unfold v_133A_30 at h
  refine zn_ld rfl rfl rfl ?_
  refine zn_ld rfl rfl rfl ?_
  refine zn_brP rfl rfl ⟨fun hcn => ?_, fun hcn => ?_⟩
  · replace h := h.1 ((i_le (x := a4) (y := a5) rfl rfl).mp hcn)
    refine zn_ld rfl rfl rfl ?_
    refine zn_get (v := .ref 39) rfl (zv_C (a := 83) (n := 0) rfl rfl rfl) ?_
    refine zn_get (v := .ref 61) rfl (zv_R (a := 39) rfl rfl) ?_
    refine zn_ld rfl rfl rfl ?_
    refine zn_get (v := .ref 75) rfl (zv_R (a := 83) rfl rfl) ?_
    refine zn_get (v := .int (s.1 75 4)) rfl (zv_I (a := 75) rfl rfl) ?_
    refine zn_row (s.1 75 4) [] (a := 61) hd rfl rfl rfl rfl ?_
    change Zn _ _ _ _ _ _ _ _ _ _ _ [.int (zg s 61 (s.1 75 4))] _ _
    refine zn_st [.ref 83, .int a1, .int a2, .int a3, .int (zg s 61 (s.1 75 4)), .int a5, .null, .null] rfl rfl rfl ?_
    refine zn_c [.int 0] (xo_push (.int 0)) rfl rfl ?_
    refine zn_st [.ref 83, .int a1, .int a2, .int a3, .int (zg s 61 (s.1 75 4)), .int 0, .null, .null] rfl rfl rfl ?_
    exact ml_133A_62_39 hd  h
  · replace h := h.2 (fun q => hcn ((i_le (x := a4) (y := a5) rfl rfl).mpr q))
    refine zn_ld rfl rfl rfl ?_
    refine zn_get (v := .ref 86) rfl (zv_C (a := 83) (n := 1) rfl rfl rfl) ?_
    refine zn_get (v := .ref 95) rfl (zv_R (a := 86) rfl rfl) ?_
    refine zn_ld rfl rfl rfl ?_
    refine zn_get (v := .ref 39) rfl (zv_C (a := 83) (n := 0) rfl rfl rfl) ?_
    refine zn_ld rfl rfl rfl ?_
    refine zn_ld rfl rfl rfl ?_
    replace h := h _ (i_add (x := a3) (y := a5) rfl rfl)
    refine zn_c [.int (a3 + a5), .ref 39, .ref 95] xo_iadd rfl rfl ?_
    refine zn_c [.int 0, .int (a3 + a5), .ref 39, .ref 95] (xo_push (.int 0)) rfl rfl ?_
    refine zn_zt [.ref 39, .int (a3 + a5), .int 0] [.ref 95] (c := []) rfl rfl rfl rfl rfl (Zt.imp (zp_42 hd (Or.inr rfl)) (fun vq sq hq => ?_))
    obtain ⟨rfl, hq⟩ := hq
    rw [hq]
    change Zn _ _ _ _ _ _ _ _ _ _ _ [.int (zg s 69 ((a3 + a5) * 5 + 0)), .ref 95] _ _
    refine zn_row (zg s 69 ((a3 + a5) * 5 + 0)) [] (a := 95) hd rfl rfl rfl rfl ?_
    change Zn _ _ _ _ _ _ _ _ _ _ _ [.int (zg s 95 (zg s 69 ((a3 + a5) * 5 + 0)))] _ _
    refine zn_ld rfl rfl rfl ?_
    refine zn_brN rfl rfl ⟨fun hcn => ?_, fun hcn => ?_⟩
    · replace h := h.1 (fun q => hcn ((i_eq (x := zg s 95 (zg s 69 ((a3 + a5) * 5 + 0))) (y := a2) rfl rfl).mpr q))
      replace h := h _ (i_add (x := a5) (y := 1) rfl (show (1 : Int32).toInt = 1 by decide))
      refine zn_inc [.ref 83, .int a1, .int a2, .int a3, .int a4, .int (a5 + 1), .null, .null] rfl rfl rfl rfl ?_
      refine zn_go rfl ?_
      exact r30 a1 a2 a3 a4 (a5 + 1) s h
    · replace h := h.2 ((i_eq (x := zg s 95 (zg s 69 ((a3 + a5) * 5 + 0))) (y := a2) rfl rfl).mp hcn)
      refine zn_c [.int 30] (xo_push (.int 30)) rfl rfl ?_
      refine zn_ld rfl rfl rfl ?_
      replace h := h _ (i_add (x := 30) (y := a5) (show (30 : Int32).toInt = 30 by decide) rfl)
      refine zn_c [.int (30 + a5)] xo_iadd rfl rfl ?_
      exact zn_retI rfl h
theorem ml_133A_30_39 {d d0 : Nat} (hd : d = d0 + 8)  {a1 : Int32} {a2 : Int32} {a3 : Int32} {a4 : Int32} {a5 : Int32} {s : zS} {Q : Option Value → zS → Prop}  (h : vl_133A_30 (fun j => Zt d (wd3 39 j) j) 39  a1 a2 a3 a4 a5 s Q) : Zn d [] [] ([(83, 1, 39), (83, 2, 86), (75, 0, 39), (75, 1, 57), (75, 2, 61)] : zW) ([(83, 1, 39), (83, 2, 86), (75, 0, 39), (75, 1, 57), (75, 2, 61)] : zW) xL_10 6 (some .int) xE_133 (xE_133.drop 30) [.ref 83, .int a1, .int a2, .int a3, .int a4, .int a5, .null, .null] [] s Q := by
  obtain ⟨I, μ, h0, h1⟩ := h
  have key : ∀ (n : Nat) (a1 : Int32) (a2 : Int32) (a3 : Int32) (a4 : Int32) (a5 : Int32) (s : zS), μ a1 a2 a3 a4 a5 s = n → I a1 a2 a3 a4 a5 s → Zn d [] [] ([(83, 1, 39), (83, 2, 86), (75, 0, 39), (75, 1, 57), (75, 2, 61)] : zW) ([(83, 1, 39), (83, 2, 86), (75, 0, 39), (75, 1, 57), (75, 2, 61)] : zW) xL_10 6 (some .int) xE_133 (xE_133.drop 30) [.ref 83, .int a1, .int a2, .int a3, .int a4, .int a5, .null, .null] [] s Q := by
    intro n
    induction n using Nat.strongRecOn with
    | ind n ih =>
      intro a1 a2 a3 a4 a5 s e hI
      exact m_133A_30_39 hd (fun a1' a2' a3' a4' a5' s' q => ih _ (by rw [← e]; exact q.2) a1' a2' a3' a4' a5' s' rfl q.1) (h1 a1 a2 a3 a4 a5 s hI)
  exact key _ a1 a2 a3 a4 a5 s rfl h0
set_option maxRecDepth 20000 in
theorem m_133A_27_39 {d d0 : Nat} (hd : d = d0 + 8)  {a1 : Int32} {a2 : Int32} {a3 : Int32} {t0 : Int32} {s : zS} {Q : Option Value → zS → Prop}  (h : v_133A_27 (fun j => Zt d (wd3 39 j) j) 39  a1 a2 a3 t0 s Q) : Zn d [] [] ([(83, 1, 39), (83, 2, 86), (75, 0, 39), (75, 1, 57), (75, 2, 61)] : zW) ([(83, 1, 39), (83, 2, 86), (75, 0, 39), (75, 1, 57), (75, 2, 61)] : zW) xL_10 6 (some .int) xE_133 (xE_133.drop 27) [.ref 83, .int a1, .int a2, .int a3, .null, .null, .null, .null] [.int t0] s Q := by
  unfold v_133A_27 at h
  refine zn_st [.ref 83, .int a1, .int a2, .int a3, .int t0, .null, .null, .null] rfl rfl rfl ?_
  refine zn_c [.int 0] (xo_push (.int 0)) rfl rfl ?_
  refine zn_st [.ref 83, .int a1, .int a2, .int a3, .int t0, .int 0, .null, .null] rfl rfl rfl ?_
  exact ml_133A_30_39 hd  h
set_option maxRecDepth 20000 in
theorem m_133A_0_39 {d d0 : Nat} (hd : d = d0 + 8)  {a1 : Int32} {s : zS} {Q : Option Value → zS → Prop}  (h : v_133A_0 (fun j => Zt d (wd3 39 j) j) 39  a1 s Q) : Zn d [] [] ([(83, 1, 39), (83, 2, 86), (75, 0, 39), (75, 1, 57), (75, 2, 61)] : zW) ([(83, 1, 39), (83, 2, 86), (75, 0, 39), (75, 1, 57), (75, 2, 61)] : zW) xL_10 6 (some .int) xE_133 (xE_133.drop 0) [.ref 83, .int a1, .null, .null, .null, .null, .null, .null] [] s Q := by
  unfold v_133A_0 at h
  refine zn_ld rfl rfl rfl ?_
  refine zn_get (v := .ref 86) rfl (zv_C (a := 83) (n := 1) rfl rfl rfl) ?_
  refine zn_get (v := .ref 95) rfl (zv_R (a := 86) rfl rfl) ?_
  refine zn_ld rfl rfl rfl ?_
  refine zn_row a1 [] (a := 95) hd rfl rfl rfl rfl ?_
  change Zn _ _ _ _ _ _ _ _ _ _ _ [.int (zg s 95 a1)] _ _
  refine zn_st [.ref 83, .int a1, .int (zg s 95 a1), .null, .null, .null, .null, .null] rfl rfl rfl ?_
  refine zn_ld rfl rfl rfl ?_
  refine zn_get (v := .ref 39) rfl (zv_C (a := 83) (n := 0) rfl rfl rfl) ?_
  refine zn_ld rfl rfl rfl ?_
  refine zn_get (v := .ref 75) rfl (zv_R (a := 83) rfl rfl) ?_
  refine zn_get (v := .int (s.1 75 6)) rfl (zv_I (a := 75) rfl rfl) ?_
  refine zn_c [.int 2, .int (s.1 75 6), .ref 39] (xo_push (.int 2)) rfl rfl ?_
  refine zn_zt [.ref 39, .int (s.1 75 6), .int 2] [] (c := []) rfl rfl rfl rfl rfl (Zt.imp (zp_41 hd (Or.inr rfl)) (fun vq sq hq => ?_))
  obtain ⟨rfl, hq⟩ := hq
  rw [hq]
  change Zn _ _ _ _ _ _ _ _ _ _ _ [.int (zg s 67 ((s.1 75 6) * 5 + 2))] _ _
  refine zn_st [.ref 83, .int a1, .int (zg s 95 a1), .int (zg s 67 ((s.1 75 6) * 5 + 2)), .null, .null, .null, .null] rfl rfl rfl ?_
  refine zn_ld rfl rfl rfl ?_
  refine zn_get (v := .ref 75) rfl (zv_R (a := 83) rfl rfl) ?_
  refine zn_get (v := .int (s.1 75 6)) rfl (zv_I (a := 75) rfl rfl) ?_
  refine zn_brP rfl rfl ⟨fun hcn => ?_, fun hcn => ?_⟩
  · replace h := h.1 ((i_le (x := 0) (y := s.1 75 6) (show (0 : Int32).toInt = 0 by decide) rfl).mp hcn)
    refine zn_ld rfl rfl rfl ?_
    refine zn_get (v := .ref 39) rfl (zv_C (a := 83) (n := 0) rfl rfl rfl) ?_
    refine zn_ld rfl rfl rfl ?_
    refine zn_get (v := .ref 75) rfl (zv_R (a := 83) rfl rfl) ?_
    refine zn_get (v := .int (s.1 75 6)) rfl (zv_I (a := 75) rfl rfl) ?_
    refine zn_c [.int 3, .int (s.1 75 6), .ref 39] (xo_push (.int 3)) rfl rfl ?_
    refine zn_zt [.ref 39, .int (s.1 75 6), .int 3] [] (c := []) rfl rfl rfl rfl rfl (Zt.imp (zp_41 hd (Or.inr rfl)) (fun vq sq hq => ?_))
    obtain ⟨rfl, hq⟩ := hq
    rw [hq]
    change Zn _ _ _ _ _ _ _ _ _ _ _ [.int (zg s 67 ((s.1 75 6) * 5 + 3))] _ _
    exact m_133A_27_39 hd  h
  · replace h := h.2 (fun q => hcn ((i_le (x := 0) (y := s.1 75 6) (show (0 : Int32).toInt = 0 by decide) rfl).mpr q))
    refine zn_c [.int 0] (xo_push (.int 0)) rfl rfl ?_
    refine zn_go rfl ?_
    exact m_133A_27_39 hd  h
theorem zq_133A_39 {d : Nat} {a1 : Int32} {s : zS} {Q : Option Value → zS → Prop} (h : v_133A_0 (fun j => Zt (d + 8) (wd3 39 j) j) 39 a1 s Q) : Zt (d + 9) ([(83, 1, 39), (83, 2, 86), (75, 0, 39), (75, 1, 57), (75, 2, 61)] : zW) 133 [.ref 83, .int a1] s Q := zt_of (E := xE_133) (L := xL_10) (ml := 6) (ret := some .int) rfl rfl rfl (m_133A_0_39 rfl h)
theorem zc_133A {d P : Nat} (hP : P = 3 ∨ P = 39) {a1 : Int32} {s : zS} {Q : Option Value → zS → Prop} (h : v_133A_0 (fun j => Zt (d + 8) (wd3 P j) j) P a1 s Q) : Zt (d + 9) (wd3 P 133) 133 [.ref 83, .int a1] s Q := by
  rcases hP with rfl | rfl
  · exact zq_133A_3 h
  · exact zq_133A_39 h
/-! FeatherBench$Told.tell -/
def v_132A_119 (T : Nat → List Value → zS → (Option Value → zS → Prop) → Prop) (P : Nat)  (a1 : Int32) (a2 : Int32) (a3 : Int32) (a4 : Int32) (a5 : Int32) (a6 : Int32) (a7 : Int32) (a8 : Int32) (t0 : Int32) (s : zS) (Q : Option Value → zS → Prop) : Prop :=
  Q (some (.int t0)) s
def v_132A_112 (T : Nat → List Value → zS → (Option Value → zS → Prop) → Prop) (P : Nat)  (a1 : Int32) (a2 : Int32) (a3 : Int32) (a4 : Int32) (a5 : Int32) (a6 : Int32) (a7 : Int32) (a8 : Int32) (s : zS) (Q : Option Value → zS → Prop) : Prop :=
  (a4.toInt = 0 → v_132A_119 T P  a1 a2 a3 a4 a5 a6 a7 a8 a7 s Q) ∧ (¬ (a4.toInt = 0) → ∀ x1 : Int32, (-2147483648 ≤ a7.toInt + 1 ∧ a7.toInt + 1 ≤ 2147483647 → x1.toInt = a7.toInt + 1) → v_132A_119 T P  a1 a2 a3 a4 a5 a6 a7 a8 x1 s Q)
def v_132A_100 (T : Nat → List Value → zS → (Option Value → zS → Prop) → Prop) (P : Nat)  (a1 : Int32) (a2 : Int32) (a3 : Int32) (a4 : Int32) (a5 : Int32) (a6 : Int32) (a7 : Int32) (a8 : Int32) (s : zS) (Q : Option Value → zS → Prop) : Prop :=
  ∀ x1 : Int32, (-2147483648 ≤ (s.1 P 10).toInt - a6.toInt ∧ (s.1 P 10).toInt - a6.toInt ≤ 2147483647 → x1.toInt = (s.1 P 10).toInt - a6.toInt) → (x1.toInt ≤ 60 → v_132A_112 T P  a1 a2 a3 a4 a5 a6 a7 a8 s Q) ∧ (¬ (x1.toInt ≤ 60) → T 38 [.ref P, .int 9, .int a1] s (fun v2 s3 => v2 = none ∧ (v_132A_112 T P  a1 a2 a3 a4 a5 a6 a7 a8 s3 Q)))
def v_132A_79 (T : Nat → List Value → zS → (Option Value → zS → Prop) → Prop) (P : Nat) (R79 : Int32 → Int32 → Int32 → Int32 → Int32 → Int32 → Int32 → Int32 → zS → Prop) (a1 : Int32) (a2 : Int32) (a3 : Int32) (a4 : Int32) (a5 : Int32) (a6 : Int32) (a7 : Int32) (a8 : Int32) (s : zS) (Q : Option Value → zS → Prop) : Prop :=
  (a5.toInt ≤ a8.toInt → v_132A_100 T P  a1 a2 a3 a4 a5 a6 a7 a8 s Q) ∧ (¬ (a5.toInt ≤ a8.toInt) → (¬ ((s.1 P 14).toInt = 0) → v_132A_100 T P  a1 a2 a3 a4 a5 a6 a7 a8 s Q) ∧ ((s.1 P 14).toInt = 0 → (10 < a2.toInt → v_132A_100 T P  a1 a2 a3 a4 a5 a6 a7 a8 s Q) ∧ (¬ (10 < a2.toInt) → ∀ x1 : Int32, (-2147483648 ≤ a7.toInt + 1 ∧ a7.toInt + 1 ≤ 2147483647 → x1.toInt = a7.toInt + 1) → ∀ x2 : Int32, (-2147483648 ≤ a2.toInt + 1 ∧ a2.toInt + 1 ≤ 2147483647 → x2.toInt = a2.toInt + 1) → T 132 [.ref 83, .int x1, .int x2] s (fun v3 s4 => ∃ x5, v3 = some (.int x5) ∧ (∀ x6 : Int32, (-2147483648 ≤ a8.toInt + 1 ∧ a8.toInt + 1 ≤ 2147483647 → x6.toInt = a8.toInt + 1) → R79 a1 a2 a3 a4 a5 a6 x5 x6 s4)))))
def vl_132A_79 (T : Nat → List Value → zS → (Option Value → zS → Prop) → Prop) (P : Nat)  (a1 : Int32) (a2 : Int32) (a3 : Int32) (a4 : Int32) (a5 : Int32) (a6 : Int32) (a7 : Int32) (a8 : Int32) (s : zS) (Q : Option Value → zS → Prop) : Prop :=
  ∃ (I : Int32 → Int32 → Int32 → Int32 → Int32 → Int32 → Int32 → Int32 → zS → Prop) (μ : Int32 → Int32 → Int32 → Int32 → Int32 → Int32 → Int32 → Int32 → zS → Nat), I a1 a2 a3 a4 a5 a6 a7 a8 s ∧ ∀ (a1 : Int32) (a2 : Int32) (a3 : Int32) (a4 : Int32) (a5 : Int32) (a6 : Int32) (a7 : Int32) (a8 : Int32) (s : zS), I a1 a2 a3 a4 a5 a6 a7 a8 s → v_132A_79 T P (fun a1' a2' a3' a4' a5' a6' a7' a8' s' => I a1' a2' a3' a4' a5' a6' a7' a8' s' ∧ μ a1' a2' a3' a4' a5' a6' a7' a8' s' < μ a1 a2 a3 a4 a5 a6 a7 a8 s) a1 a2 a3 a4 a5 a6 a7 a8 s Q
def v_132A_49 (T : Nat → List Value → zS → (Option Value → zS → Prop) → Prop) (P : Nat)  (a1 : Int32) (a2 : Int32) (a3 : Int32) (a4 : Int32) (a5 : Int32) (s : zS) (Q : Option Value → zS → Prop) : Prop :=
  ((s.1 P 10).toInt < 0 ∨ 18 ≤ (s.1 P 10).toInt) ∧ (∀ s1, s1 = zt s (P + 18) (s.1 P 10) a3 → ∀ x2 : Int32, (-2147483648 ≤ (s.1 P 10).toInt - 18738 ∧ (s.1 P 10).toInt - 18738 ≤ 2147483647 → x2.toInt = (s.1 P 10).toInt - 18738) → ∀ s3, s3 = zt s1 (P + 20) x2 a1 → ∀ x4 : Int32, (-2147483648 ≤ (s.1 P 10).toInt + 1 ∧ (s.1 P 10).toInt + 1 ≤ 2147483647 → x4.toInt = (s.1 P 10).toInt + 1) → (18 ≤ x4.toInt ∧ x4.toInt ≤ 2000000000) ∧ (∀ s5, s5 = zf s3 P 10 x4 → ∀ x6 : Int32, (-2147483648 ≤ a1.toInt + 1 ∧ a1.toInt + 1 ≤ 2147483647 → x6.toInt = a1.toInt + 1) → vl_132A_79 T P  a1 a2 a3 a4 a5 (s.1 P 10) x6 0 s5 Q))
def v_132A_28 (T : Nat → List Value → zS → (Option Value → zS → Prop) → Prop) (P : Nat)  (a1 : Int32) (a2 : Int32) (a3 : Int32) (a4 : Int32) (t0 : Int32) (s : zS) (Q : Option Value → zS → Prop) : Prop :=
  (0 ≤ a3.toInt → (t0.toInt = (zg s (P + 22) a3).toInt → v_132A_49 T P  a1 a2 a3 a4 t0 s Q) ∧ (¬ (t0.toInt = (zg s (P + 22) a3).toInt) → T 38 [.ref P, .int 4, .int a1] s (fun v1 s2 => v1 = none ∧ (v_132A_49 T P  a1 a2 a3 a4 t0 s2 Q)))) ∧ (¬ (0 ≤ a3.toInt) → T 38 [.ref P, .int 2, .int a1] s (fun v3 s4 => v3 = none ∧ (v_132A_49 T P  a1 a2 a3 a4 t0 s4 Q)))
def v_132A_16 (T : Nat → List Value → zS → (Option Value → zS → Prop) → Prop) (P : Nat)  (a1 : Int32) (a2 : Int32) (a3 : Int32) (t0 : Int32) (s : zS) (Q : Option Value → zS → Prop) : Prop :=
  (t0.toInt = 0 → v_132A_28 T P  a1 a2 a3 t0 0 s Q) ∧ (¬ (t0.toInt = 0) → ∀ x1 : Int32, (-2147483648 ≤ a1.toInt + 1 ∧ a1.toInt + 1 ≤ 2147483647 → x1.toInt = a1.toInt + 1) → v_132A_28 T P  a1 a2 a3 t0 (zg s 97 x1) s Q)
def v_132A_0 (T : Nat → List Value → zS → (Option Value → zS → Prop) → Prop) (P : Nat)  (a1 : Int32) (a2 : Int32) (s : zS) (Q : Option Value → zS → Prop) : Prop :=
  T 133 [.ref 83, .int a1] s (fun v1 s2 => ∃ x3, v1 = some (.int x3) ∧ (∀ x4 : Int32, (-2147483648 ≤ a1.toInt + 1 ∧ a1.toInt + 1 ≤ 2147483647 → x4.toInt = a1.toInt + 1) → (¬ ((zg s2 89 x4).toInt = 91) → v_132A_16 T P  a1 a2 x3 0 s2 Q) ∧ ((zg s2 89 x4).toInt = 91 → v_132A_16 T P  a1 a2 x3 1 s2 Q)))
set_option maxRecDepth 20000 in
theorem m_132A_119_3 {d d0 : Nat} (hd : d = d0 + 8)  {a1 : Int32} {a2 : Int32} {a3 : Int32} {a4 : Int32} {a5 : Int32} {a6 : Int32} {a7 : Int32} {a8 : Int32} {t0 : Int32} {s : zS} {Q : Option Value → zS → Prop}  (h : v_132A_119 (fun j => Zt d (wd3 3 j) j) 3  a1 a2 a3 a4 a5 a6 a7 a8 t0 s Q) : Zn d [] [(3, 98)] ([(83, 1, 3), (83, 2, 86), (75, 0, 3), (75, 1, 21), (75, 2, 25)] : zW) ([(83, 1, 3), (83, 2, 86), (75, 0, 3), (75, 1, 21), (75, 2, 25)] : zW) xL_10 9 (some .int) xE_132 (xE_132.drop 119) [.ref 83, .int a1, .int a2, .int a3, .int a4, .int a5, .int a6, .int a7, .int a8, .null, .null, .null] [.int t0] s Q := by
  unfold v_132A_119 at h
  exact zn_retI rfl h
set_option maxRecDepth 20000 in
theorem m_132A_112_3 {d d0 : Nat} (hd : d = d0 + 8)  {a1 : Int32} {a2 : Int32} {a3 : Int32} {a4 : Int32} {a5 : Int32} {a6 : Int32} {a7 : Int32} {a8 : Int32} {s : zS} {Q : Option Value → zS → Prop}  (h : v_132A_112 (fun j => Zt d (wd3 3 j) j) 3  a1 a2 a3 a4 a5 a6 a7 a8 s Q) : Zn d [] [(3, 98)] ([(83, 1, 3), (83, 2, 86), (75, 0, 3), (75, 1, 21), (75, 2, 25)] : zW) ([(83, 1, 3), (83, 2, 86), (75, 0, 3), (75, 1, 21), (75, 2, 25)] : zW) xL_10 9 (some .int) xE_132 (xE_132.drop 112) [.ref 83, .int a1, .int a2, .int a3, .int a4, .int a5, .int a6, .int a7, .int a8, .null, .null, .null] [] s Q := by
  unfold v_132A_112 at h
  refine zn_ld rfl rfl rfl ?_
  refine zn_brP rfl rfl ⟨fun hcn => ?_, fun hcn => ?_⟩
  · replace h := h.1 ((i_eq (x := a4) (y := 0) rfl (show (0 : Int32).toInt = 0 by decide)).mp hcn)
    refine zn_ld rfl rfl rfl ?_
    exact m_132A_119_3 hd  h
  · replace h := h.2 (fun q => hcn ((i_eq (x := a4) (y := 0) rfl (show (0 : Int32).toInt = 0 by decide)).mpr q))
    refine zn_ld rfl rfl rfl ?_
    refine zn_c [.int 1, .int a7] (xo_push (.int 1)) rfl rfl ?_
    replace h := h _ (i_add (x := a7) (y := 1) rfl (show (1 : Int32).toInt = 1 by decide))
    refine zn_c [.int (a7 + 1)] xo_iadd rfl rfl ?_
    refine zn_go rfl ?_
    exact m_132A_119_3 hd  h
set_option maxRecDepth 20000 in
theorem m_132A_100_3 {d d0 : Nat} (hd : d = d0 + 8)  {a1 : Int32} {a2 : Int32} {a3 : Int32} {a4 : Int32} {a5 : Int32} {a6 : Int32} {a7 : Int32} {a8 : Int32} {s : zS} {Q : Option Value → zS → Prop}  (h : v_132A_100 (fun j => Zt d (wd3 3 j) j) 3  a1 a2 a3 a4 a5 a6 a7 a8 s Q) : Zn d [] [(3, 98)] ([(83, 1, 3), (83, 2, 86), (75, 0, 3), (75, 1, 21), (75, 2, 25)] : zW) ([(83, 1, 3), (83, 2, 86), (75, 0, 3), (75, 1, 21), (75, 2, 25)] : zW) xL_10 9 (some .int) xE_132 (xE_132.drop 100) [.ref 83, .int a1, .int a2, .int a3, .int a4, .int a5, .int a6, .int a7, .int a8, .null, .null, .null] [] s Q := by
  unfold v_132A_100 at h
  refine zn_ld rfl rfl rfl ?_
  refine zn_get (v := .ref 3) rfl (zv_C (a := 83) (n := 0) rfl rfl rfl) ?_
  refine zn_get (v := .int (s.1 3 10)) rfl (zv_I (a := 3) rfl rfl) ?_
  refine zn_ld rfl rfl rfl ?_
  replace h := h _ (i_sub (x := s.1 3 10) (y := a6) rfl rfl)
  refine zn_c [.int ((s.1 3 10) - a6)] xo_isub rfl rfl ?_
  refine zn_c [.int 60, .int ((s.1 3 10) - a6)] (xo_push (.int 60)) rfl rfl ?_
  refine zn_brP rfl rfl ⟨fun hcn => ?_, fun hcn => ?_⟩
  · replace h := h.1 ((i_le (x := ((s.1 3 10) - a6)) (y := 60) rfl (show (60 : Int32).toInt = 60 by decide)).mp hcn)
    exact m_132A_112_3 hd  h
  · replace h := h.2 (fun q => hcn ((i_le (x := ((s.1 3 10) - a6)) (y := 60) rfl (show (60 : Int32).toInt = 60 by decide)).mpr q))
    refine zn_ld rfl rfl rfl ?_
    refine zn_get (v := .ref 3) rfl (zv_C (a := 83) (n := 0) rfl rfl rfl) ?_
    refine zn_c [.int 9, .ref 3] (xo_push (.int 9)) rfl rfl ?_
    refine zn_ld rfl rfl rfl ?_
    refine zn_zt [.ref 3, .int 9, .int a1] [] rfl rfl rfl rfl rfl (Zt.imp h (fun v2 s3 h => ?_))
    obtain ⟨rfl, h⟩ := h
    change Zn _ _ _ _ _ _ _ _ _ _ _ [] _ _
    exact m_132A_112_3 hd  h
set_option maxRecDepth 20000 in
theorem m_132A_79_3 {d d0 : Nat} (hd : d = d0 + 8) {R79 : Int32 → Int32 → Int32 → Int32 → Int32 → Int32 → Int32 → Int32 → zS → Prop} {a1 : Int32} {a2 : Int32} {a3 : Int32} {a4 : Int32} {a5 : Int32} {a6 : Int32} {a7 : Int32} {a8 : Int32} {s : zS} {Q : Option Value → zS → Prop} (r79 : ∀ a1 a2 a3 a4 a5 a6 a7 a8 s, R79 a1 a2 a3 a4 a5 a6 a7 a8 s → Zn d [] [(3, 98)] ([(83, 1, 3), (83, 2, 86), (75, 0, 3), (75, 1, 21), (75, 2, 25)] : zW) ([(83, 1, 3), (83, 2, 86), (75, 0, 3), (75, 1, 21), (75, 2, 25)] : zW) xL_10 9 (some .int) xE_132 (xE_132.drop 79) [.ref 83, .int a1, .int a2, .int a3, .int a4, .int a5, .int a6, .int a7, .int a8, .null, .null, .null] [] s Q) (h : v_132A_79 (fun j => Zt d (wd3 3 j) j) 3 R79 a1 a2 a3 a4 a5 a6 a7 a8 s Q) : Zn d [] [(3, 98)] ([(83, 1, 3), (83, 2, 86), (75, 0, 3), (75, 1, 21), (75, 2, 25)] : zW) ([(83, 1, 3), (83, 2, 86), (75, 0, 3), (75, 1, 21), (75, 2, 25)] : zW) xL_10 9 (some .int) xE_132 (xE_132.drop 79) [.ref 83, .int a1, .int a2, .int a3, .int a4, .int a5, .int a6, .int a7, .int a8, .null, .null, .null] [] s Q := by
  unfold v_132A_79 at h
  refine zn_ld rfl rfl rfl ?_
  refine zn_ld rfl rfl rfl ?_
  refine zn_brP rfl rfl ⟨fun hcn => ?_, fun hcn => ?_⟩
  · replace h := h.1 ((i_le (x := a5) (y := a8) rfl rfl).mp hcn)
    exact m_132A_100_3 hd  h
  · replace h := h.2 (fun q => hcn ((i_le (x := a5) (y := a8) rfl rfl).mpr q))
    refine zn_ld rfl rfl rfl ?_
    refine zn_get (v := .ref 3) rfl (zv_C (a := 83) (n := 0) rfl rfl rfl) ?_
    refine zn_get (v := .int (s.1 3 14)) rfl (zv_I (a := 3) rfl rfl) ?_
    refine zn_brN rfl rfl ⟨fun hcn => ?_, fun hcn => ?_⟩
    · replace h := h.1 (fun q => hcn ((i_eq (x := s.1 3 14) (y := 0) rfl (show (0 : Int32).toInt = 0 by decide)).mpr q))
      exact m_132A_100_3 hd  h
    · replace h := h.2 ((i_eq (x := s.1 3 14) (y := 0) rfl (show (0 : Int32).toInt = 0 by decide)).mp hcn)
      refine zn_ld rfl rfl rfl ?_
      refine zn_c [.int 10, .int a2] (xo_push (.int 10)) rfl rfl ?_
      refine zn_brP rfl rfl ⟨fun hcn => ?_, fun hcn => ?_⟩
      · replace h := h.1 ((i_lt (x := 10) (y := a2) (show (10 : Int32).toInt = 10 by decide) rfl).mp hcn)
        exact m_132A_100_3 hd  h
      · replace h := h.2 (fun q => hcn ((i_lt (x := 10) (y := a2) (show (10 : Int32).toInt = 10 by decide) rfl).mpr q))
        refine zn_ld rfl rfl rfl ?_
        refine zn_ld rfl rfl rfl ?_
        refine zn_c [.int 1, .int a7, .ref 83] (xo_push (.int 1)) rfl rfl ?_
        replace h := h _ (i_add (x := a7) (y := 1) rfl (show (1 : Int32).toInt = 1 by decide))
        refine zn_c [.int (a7 + 1), .ref 83] xo_iadd rfl rfl ?_
        refine zn_ld rfl rfl rfl ?_
        refine zn_c [.int 1, .int a2, .int (a7 + 1), .ref 83] (xo_push (.int 1)) rfl rfl ?_
        replace h := h _ (i_add (x := a2) (y := 1) rfl (show (1 : Int32).toInt = 1 by decide))
        refine zn_c [.int (a2 + 1), .int (a7 + 1), .ref 83] xo_iadd rfl rfl ?_
        refine zn_zt [.ref 83, .int (a7 + 1), .int (a2 + 1)] [] rfl rfl rfl rfl rfl (Zt.imp h (fun v3 s4 h => ?_))
        obtain ⟨x5, rfl, h⟩ := h
        change Zn _ _ _ _ _ _ _ _ _ _ _ [.int x5] _ _
        refine zn_st [.ref 83, .int a1, .int a2, .int a3, .int a4, .int a5, .int a6, .int x5, .int a8, .null, .null, .null] rfl rfl rfl ?_
        replace h := h _ (i_add (x := a8) (y := 1) rfl (show (1 : Int32).toInt = 1 by decide))
        refine zn_inc [.ref 83, .int a1, .int a2, .int a3, .int a4, .int a5, .int a6, .int x5, .int (a8 + 1), .null, .null, .null] rfl rfl rfl rfl ?_
        refine zn_go rfl ?_
        exact r79 a1 a2 a3 a4 a5 a6 x5 (a8 + 1) s4 h
theorem ml_132A_79_3 {d d0 : Nat} (hd : d = d0 + 8)  {a1 : Int32} {a2 : Int32} {a3 : Int32} {a4 : Int32} {a5 : Int32} {a6 : Int32} {a7 : Int32} {a8 : Int32} {s : zS} {Q : Option Value → zS → Prop}  (h : vl_132A_79 (fun j => Zt d (wd3 3 j) j) 3  a1 a2 a3 a4 a5 a6 a7 a8 s Q) : Zn d [] [(3, 98)] ([(83, 1, 3), (83, 2, 86), (75, 0, 3), (75, 1, 21), (75, 2, 25)] : zW) ([(83, 1, 3), (83, 2, 86), (75, 0, 3), (75, 1, 21), (75, 2, 25)] : zW) xL_10 9 (some .int) xE_132 (xE_132.drop 79) [.ref 83, .int a1, .int a2, .int a3, .int a4, .int a5, .int a6, .int a7, .int a8, .null, .null, .null] [] s Q := by
  obtain ⟨I, μ, h0, h1⟩ := h
  have key : ∀ (n : Nat) (a1 : Int32) (a2 : Int32) (a3 : Int32) (a4 : Int32) (a5 : Int32) (a6 : Int32) (a7 : Int32) (a8 : Int32) (s : zS), μ a1 a2 a3 a4 a5 a6 a7 a8 s = n → I a1 a2 a3 a4 a5 a6 a7 a8 s → Zn d [] [(3, 98)] ([(83, 1, 3), (83, 2, 86), (75, 0, 3), (75, 1, 21), (75, 2, 25)] : zW) ([(83, 1, 3), (83, 2, 86), (75, 0, 3), (75, 1, 21), (75, 2, 25)] : zW) xL_10 9 (some .int) xE_132 (xE_132.drop 79) [.ref 83, .int a1, .int a2, .int a3, .int a4, .int a5, .int a6, .int a7, .int a8, .null, .null, .null] [] s Q := by
    intro n
    induction n using Nat.strongRecOn with
    | ind n ih =>
      intro a1 a2 a3 a4 a5 a6 a7 a8 s e hI
      exact m_132A_79_3 hd (fun a1' a2' a3' a4' a5' a6' a7' a8' s' q => ih _ (by rw [← e]; exact q.2) a1' a2' a3' a4' a5' a6' a7' a8' s' rfl q.1) (h1 a1 a2 a3 a4 a5 a6 a7 a8 s hI)
  exact key _ a1 a2 a3 a4 a5 a6 a7 a8 s rfl h0
set_option maxRecDepth 20000 in
theorem m_132A_49_3 {d d0 : Nat} (hd : d = d0 + 8)  {a1 : Int32} {a2 : Int32} {a3 : Int32} {a4 : Int32} {a5 : Int32} {s : zS} {Q : Option Value → zS → Prop}  (h : v_132A_49 (fun j => Zt d (wd3 3 j) j) 3  a1 a2 a3 a4 a5 s Q) : Zn d [] [(3, 98)] ([(83, 1, 3), (83, 2, 86), (75, 0, 3), (75, 1, 21), (75, 2, 25)] : zW) ([(83, 1, 3), (83, 2, 86), (75, 0, 3), (75, 1, 21), (75, 2, 25)] : zW) xL_10 9 (some .int) xE_132 (xE_132.drop 49) [.ref 83, .int a1, .int a2, .int a3, .int a4, .int a5, .null, .null, .null, .null, .null, .null] [] s Q := by
  unfold v_132A_49 at h
  refine zn_ld rfl rfl rfl ?_
  refine zn_get (v := .ref 3) rfl (zv_C (a := 83) (n := 0) rfl rfl rfl) ?_
  refine zn_get (v := .int (s.1 3 10)) rfl (zv_I (a := 3) rfl rfl) ?_
  refine zn_st [.ref 83, .int a1, .int a2, .int a3, .int a4, .int a5, .int (s.1 3 10), .null, .null, .null, .null, .null] rfl rfl rfl ?_
  refine zn_ld rfl rfl rfl ?_
  refine zn_get (v := .ref 3) rfl (zv_C (a := 83) (n := 0) rfl rfl rfl) ?_
  refine zn_get (v := .ref 21) rfl (zv_R (a := 3) rfl rfl) ?_
  refine zn_ld rfl rfl rfl ?_
  refine zn_ld rfl rfl rfl ?_
  obtain ⟨hx18, h⟩ := h
  refine zn_set (s.1 3 10) a3 [] (a := 21) hd rfl rfl rfl rfl ⟨Int32.le_toInt _, Int.le_of_lt_add_one (Int32.toInt_lt _)⟩ rfl rfl ?_ (hx := Or.inr hx18)
  replace h := h _ rfl
  refine zn_ld rfl rfl rfl ?_
  refine zn_get (v := .ref 3) rfl (zv_C (a := 83) (n := 0) rfl rfl rfl) ?_
  refine zn_get (v := .ref 23) rfl (zv_R (a := 3) rfl rfl) ?_
  refine zn_ld rfl rfl rfl ?_
  refine zn_c [.int 18738, .int (s.1 3 10), .ref 23] (xo_push (.int 18738)) rfl rfl ?_
  replace h := h _ (i_sub (x := s.1 3 10) (y := 18738) rfl (show (18738 : Int32).toInt = 18738 by decide))
  refine zn_c [.int ((s.1 3 10) - 18738), .ref 23] xo_isub rfl rfl ?_
  refine zn_ld rfl rfl rfl ?_
  refine zn_set ((s.1 3 10) - 18738) a1 [] (a := 23) hd rfl rfl rfl rfl ⟨Int32.le_toInt _, Int.le_of_lt_add_one (Int32.toInt_lt _)⟩ rfl rfl ?_
  replace h := h _ rfl
  refine zn_ld rfl rfl rfl ?_
  refine zn_get (v := .ref 3) rfl (zv_C (a := 83) (n := 0) rfl rfl rfl) ?_
  refine zn_ld rfl rfl rfl ?_
  refine zn_c [.int 1, .int (s.1 3 10), .ref 3] (xo_push (.int 1)) rfl rfl ?_
  replace h := h _ (i_add (x := s.1 3 10) (y := 1) rfl (show (1 : Int32).toInt = 1 by decide))
  refine zn_c [.int ((s.1 3 10) + 1), .ref 3] xo_iadd rfl rfl ?_
  refine zn_putI (a := 3) rfl rfl rfl rfl ⟨Int.le_trans (by decide) h.1.1, h.1.2⟩ rfl rfl rfl ?_ (hkl := Or.inr (Or.inl ⟨⟨by decide, rfl⟩, h.1.1⟩))
  replace h := h.2
  replace h := h _ rfl
  refine zn_ld rfl rfl rfl ?_
  refine zn_c [.int 1, .int a1] (xo_push (.int 1)) rfl rfl ?_
  replace h := h _ (i_add (x := a1) (y := 1) rfl (show (1 : Int32).toInt = 1 by decide))
  refine zn_c [.int (a1 + 1)] xo_iadd rfl rfl ?_
  refine zn_st [.ref 83, .int a1, .int a2, .int a3, .int a4, .int a5, .int (s.1 3 10), .int (a1 + 1), .null, .null, .null, .null] rfl rfl rfl ?_
  refine zn_c [.int 0] (xo_push (.int 0)) rfl rfl ?_
  refine zn_st [.ref 83, .int a1, .int a2, .int a3, .int a4, .int a5, .int (s.1 3 10), .int (a1 + 1), .int 0, .null, .null, .null] rfl rfl rfl ?_
  exact ml_132A_79_3 hd  h
set_option maxRecDepth 20000 in
theorem m_132A_28_3 {d d0 : Nat} (hd : d = d0 + 8)  {a1 : Int32} {a2 : Int32} {a3 : Int32} {a4 : Int32} {t0 : Int32} {s : zS} {Q : Option Value → zS → Prop}  (h : v_132A_28 (fun j => Zt d (wd3 3 j) j) 3  a1 a2 a3 a4 t0 s Q) : Zn d [] [(3, 98)] ([(83, 1, 3), (83, 2, 86), (75, 0, 3), (75, 1, 21), (75, 2, 25)] : zW) ([(83, 1, 3), (83, 2, 86), (75, 0, 3), (75, 1, 21), (75, 2, 25)] : zW) xL_10 9 (some .int) xE_132 (xE_132.drop 28) [.ref 83, .int a1, .int a2, .int a3, .int a4, .null, .null, .null, .null, .null, .null, .null] [.int t0] s Q := by
  unfold v_132A_28 at h
  refine zn_st [.ref 83, .int a1, .int a2, .int a3, .int a4, .int t0, .null, .null, .null, .null, .null, .null] rfl rfl rfl ?_
  refine zn_ld rfl rfl rfl ?_
  refine zn_brP rfl rfl ⟨fun hcn => ?_, fun hcn => ?_⟩
  · replace h := h.1 ((i_le (x := 0) (y := a3) (show (0 : Int32).toInt = 0 by decide) rfl).mp hcn)
    refine zn_ld rfl rfl rfl ?_
    refine zn_ld rfl rfl rfl ?_
    refine zn_get (v := .ref 3) rfl (zv_C (a := 83) (n := 0) rfl rfl rfl) ?_
    refine zn_get (v := .ref 25) rfl (zv_R (a := 3) rfl rfl) ?_
    refine zn_ld rfl rfl rfl ?_
    refine zn_row a3 [.int t0] (a := 25) hd rfl rfl rfl rfl ?_
    change Zn _ _ _ _ _ _ _ _ _ _ _ [.int (zg s 25 a3), .int t0] _ _
    refine zn_brP rfl rfl ⟨fun hcn => ?_, fun hcn => ?_⟩
    · replace h := h.1 ((i_eq (x := t0) (y := zg s 25 a3) rfl rfl).mp hcn)
      exact m_132A_49_3 hd  h
    · replace h := h.2 (fun q => hcn ((i_eq (x := t0) (y := zg s 25 a3) rfl rfl).mpr q))
      refine zn_ld rfl rfl rfl ?_
      refine zn_get (v := .ref 3) rfl (zv_C (a := 83) (n := 0) rfl rfl rfl) ?_
      refine zn_c [.int 4, .ref 3] (xo_push (.int 4)) rfl rfl ?_
      refine zn_ld rfl rfl rfl ?_
      refine zn_zt [.ref 3, .int 4, .int a1] [] rfl rfl rfl rfl rfl (Zt.imp h (fun v1 s2 h => ?_))
      obtain ⟨rfl, h⟩ := h
      change Zn _ _ _ _ _ _ _ _ _ _ _ [] _ _
      exact m_132A_49_3 hd  h
  · replace h := h.2 (fun q => hcn ((i_le (x := 0) (y := a3) (show (0 : Int32).toInt = 0 by decide) rfl).mpr q))
    refine zn_ld rfl rfl rfl ?_
    refine zn_get (v := .ref 3) rfl (zv_C (a := 83) (n := 0) rfl rfl rfl) ?_
    refine zn_c [.int 2, .ref 3] (xo_push (.int 2)) rfl rfl ?_
    refine zn_ld rfl rfl rfl ?_
    refine zn_zt [.ref 3, .int 2, .int a1] [] rfl rfl rfl rfl rfl (Zt.imp h (fun v3 s4 h => ?_))
    obtain ⟨rfl, h⟩ := h
    change Zn _ _ _ _ _ _ _ _ _ _ _ [] _ _
    refine zn_go rfl ?_
    exact m_132A_49_3 hd  h
set_option maxRecDepth 20000 in
theorem m_132A_16_3 {d d0 : Nat} (hd : d = d0 + 8)  {a1 : Int32} {a2 : Int32} {a3 : Int32} {t0 : Int32} {s : zS} {Q : Option Value → zS → Prop}  (h : v_132A_16 (fun j => Zt d (wd3 3 j) j) 3  a1 a2 a3 t0 s Q) : Zn d [] [(3, 98)] ([(83, 1, 3), (83, 2, 86), (75, 0, 3), (75, 1, 21), (75, 2, 25)] : zW) ([(83, 1, 3), (83, 2, 86), (75, 0, 3), (75, 1, 21), (75, 2, 25)] : zW) xL_10 9 (some .int) xE_132 (xE_132.drop 16) [.ref 83, .int a1, .int a2, .int a3, .null, .null, .null, .null, .null, .null, .null, .null] [.int t0] s Q := by
  unfold v_132A_16 at h
  refine zn_st [.ref 83, .int a1, .int a2, .int a3, .int t0, .null, .null, .null, .null, .null, .null, .null] rfl rfl rfl ?_
  refine zn_ld rfl rfl rfl ?_
  refine zn_brP rfl rfl ⟨fun hcn => ?_, fun hcn => ?_⟩
  · replace h := h.1 ((i_eq (x := t0) (y := 0) rfl (show (0 : Int32).toInt = 0 by decide)).mp hcn)
    refine zn_c [.int 0] (xo_push (.int 0)) rfl rfl ?_
    exact m_132A_28_3 hd  h
  · replace h := h.2 (fun q => hcn ((i_eq (x := t0) (y := 0) rfl (show (0 : Int32).toInt = 0 by decide)).mpr q))
    refine zn_ld rfl rfl rfl ?_
    refine zn_get (v := .ref 86) rfl (zv_C (a := 83) (n := 1) rfl rfl rfl) ?_
    refine zn_get (v := .ref 97) rfl (zv_R (a := 86) rfl rfl) ?_
    refine zn_ld rfl rfl rfl ?_
    refine zn_c [.int 1, .int a1, .ref 97] (xo_push (.int 1)) rfl rfl ?_
    replace h := h _ (i_add (x := a1) (y := 1) rfl (show (1 : Int32).toInt = 1 by decide))
    refine zn_c [.int (a1 + 1), .ref 97] xo_iadd rfl rfl ?_
    refine zn_row (a1 + 1) [] (a := 97) hd rfl rfl rfl rfl ?_
    change Zn _ _ _ _ _ _ _ _ _ _ _ [.int (zg s 97 (a1 + 1))] _ _
    refine zn_go rfl ?_
    exact m_132A_28_3 hd  h
set_option maxRecDepth 20000 in
theorem m_132A_0_3 {d d0 : Nat} (hd : d = d0 + 8)  {a1 : Int32} {a2 : Int32} {s : zS} {Q : Option Value → zS → Prop}  (h : v_132A_0 (fun j => Zt d (wd3 3 j) j) 3  a1 a2 s Q) : Zn d [] [(3, 98)] ([(83, 1, 3), (83, 2, 86), (75, 0, 3), (75, 1, 21), (75, 2, 25)] : zW) ([(83, 1, 3), (83, 2, 86), (75, 0, 3), (75, 1, 21), (75, 2, 25)] : zW) xL_10 9 (some .int) xE_132 (xE_132.drop 0) [.ref 83, .int a1, .int a2, .null, .null, .null, .null, .null, .null, .null, .null, .null] [] s Q := by
  unfold v_132A_0 at h
  refine zn_ld rfl rfl rfl ?_
  refine zn_ld rfl rfl rfl ?_
  refine zn_zt [.ref 83, .int a1] [] rfl rfl rfl rfl rfl (Zt.imp h (fun v1 s2 h => ?_))
  obtain ⟨x3, rfl, h⟩ := h
  change Zn _ _ _ _ _ _ _ _ _ _ _ [.int x3] _ _
  refine zn_st [.ref 83, .int a1, .int a2, .int x3, .null, .null, .null, .null, .null, .null, .null, .null] rfl rfl rfl ?_
  refine zn_ld rfl rfl rfl ?_
  refine zn_get (v := .ref 86) rfl (zv_C (a := 83) (n := 1) rfl rfl rfl) ?_
  refine zn_get (v := .ref 89) rfl (zv_R (a := 86) rfl rfl) ?_
  refine zn_ld rfl rfl rfl ?_
  refine zn_c [.int 1, .int a1, .ref 89] (xo_push (.int 1)) rfl rfl ?_
  replace h := h _ (i_add (x := a1) (y := 1) rfl (show (1 : Int32).toInt = 1 by decide))
  refine zn_c [.int (a1 + 1), .ref 89] xo_iadd rfl rfl ?_
  refine zn_row (a1 + 1) [] (a := 89) hd rfl rfl rfl rfl ?_
  change Zn _ _ _ _ _ _ _ _ _ _ _ [.int (zg s2 89 (a1 + 1))] _ _
  refine zn_c [.int 91, .int (zg s2 89 (a1 + 1))] (xo_push (.int 91)) rfl rfl ?_
  refine zn_brN rfl rfl ⟨fun hcn => ?_, fun hcn => ?_⟩
  · replace h := h.1 (fun q => hcn ((i_eq (x := zg s2 89 (a1 + 1)) (y := 91) rfl (show (91 : Int32).toInt = 91 by decide)).mpr q))
    refine zn_c [.int 0] (xo_push (.int 0)) rfl rfl ?_
    exact m_132A_16_3 hd  h
  · replace h := h.2 ((i_eq (x := zg s2 89 (a1 + 1)) (y := 91) rfl (show (91 : Int32).toInt = 91 by decide)).mp hcn)
    refine zn_c [.int 1] (xo_push (.int 1)) rfl rfl ?_
    refine zn_go rfl ?_
    exact m_132A_16_3 hd  h
theorem zq_132A_3 {d : Nat} {a1 : Int32} {a2 : Int32} {s : zS} {Q : Option Value → zS → Prop} (h : v_132A_0 (fun j => Zt (d + 8) (wd3 3 j) j) 3 a1 a2 s Q) : Zt (d + 9) ([(83, 1, 3), (83, 2, 86), (75, 0, 3), (75, 1, 21), (75, 2, 25)] : zW) 132 [.ref 83, .int a1, .int a2] s Q := zt_of (E := xE_132) (L := xL_10) (ml := 9) (ret := some .int) rfl rfl rfl (m_132A_0_3 rfl h)
set_option maxRecDepth 20000 in
theorem m_132A_119_39 {d d0 : Nat} (hd : d = d0 + 8)  {a1 : Int32} {a2 : Int32} {a3 : Int32} {a4 : Int32} {a5 : Int32} {a6 : Int32} {a7 : Int32} {a8 : Int32} {t0 : Int32} {s : zS} {Q : Option Value → zS → Prop}  (h : v_132A_119 (fun j => Zt d (wd3 39 j) j) 39  a1 a2 a3 a4 a5 a6 a7 a8 t0 s Q) : Zn d [] [(39, 98)] ([(83, 1, 39), (83, 2, 86), (75, 0, 39), (75, 1, 57), (75, 2, 61)] : zW) ([(83, 1, 39), (83, 2, 86), (75, 0, 39), (75, 1, 57), (75, 2, 61)] : zW) xL_10 9 (some .int) xE_132 (xE_132.drop 119) [.ref 83, .int a1, .int a2, .int a3, .int a4, .int a5, .int a6, .int a7, .int a8, .null, .null, .null] [.int t0] s Q := by
  unfold v_132A_119 at h
  exact zn_retI rfl h
set_option maxRecDepth 20000 in
theorem m_132A_112_39 {d d0 : Nat} (hd : d = d0 + 8)  {a1 : Int32} {a2 : Int32} {a3 : Int32} {a4 : Int32} {a5 : Int32} {a6 : Int32} {a7 : Int32} {a8 : Int32} {s : zS} {Q : Option Value → zS → Prop}  (h : v_132A_112 (fun j => Zt d (wd3 39 j) j) 39  a1 a2 a3 a4 a5 a6 a7 a8 s Q) : Zn d [] [(39, 98)] ([(83, 1, 39), (83, 2, 86), (75, 0, 39), (75, 1, 57), (75, 2, 61)] : zW) ([(83, 1, 39), (83, 2, 86), (75, 0, 39), (75, 1, 57), (75, 2, 61)] : zW) xL_10 9 (some .int) xE_132 (xE_132.drop 112) [.ref 83, .int a1, .int a2, .int a3, .int a4, .int a5, .int a6, .int a7, .int a8, .null, .null, .null] [] s Q := by
  unfold v_132A_112 at h
  refine zn_ld rfl rfl rfl ?_
  refine zn_brP rfl rfl ⟨fun hcn => ?_, fun hcn => ?_⟩
  · replace h := h.1 ((i_eq (x := a4) (y := 0) rfl (show (0 : Int32).toInt = 0 by decide)).mp hcn)
    refine zn_ld rfl rfl rfl ?_
    exact m_132A_119_39 hd  h
  · replace h := h.2 (fun q => hcn ((i_eq (x := a4) (y := 0) rfl (show (0 : Int32).toInt = 0 by decide)).mpr q))
    refine zn_ld rfl rfl rfl ?_
    refine zn_c [.int 1, .int a7] (xo_push (.int 1)) rfl rfl ?_
    replace h := h _ (i_add (x := a7) (y := 1) rfl (show (1 : Int32).toInt = 1 by decide))
    refine zn_c [.int (a7 + 1)] xo_iadd rfl rfl ?_
    refine zn_go rfl ?_
    exact m_132A_119_39 hd  h
set_option maxRecDepth 20000 in
theorem m_132A_100_39 {d d0 : Nat} (hd : d = d0 + 8)  {a1 : Int32} {a2 : Int32} {a3 : Int32} {a4 : Int32} {a5 : Int32} {a6 : Int32} {a7 : Int32} {a8 : Int32} {s : zS} {Q : Option Value → zS → Prop}  (h : v_132A_100 (fun j => Zt d (wd3 39 j) j) 39  a1 a2 a3 a4 a5 a6 a7 a8 s Q) : Zn d [] [(39, 98)] ([(83, 1, 39), (83, 2, 86), (75, 0, 39), (75, 1, 57), (75, 2, 61)] : zW) ([(83, 1, 39), (83, 2, 86), (75, 0, 39), (75, 1, 57), (75, 2, 61)] : zW) xL_10 9 (some .int) xE_132 (xE_132.drop 100) [.ref 83, .int a1, .int a2, .int a3, .int a4, .int a5, .int a6, .int a7, .int a8, .null, .null, .null] [] s Q := by
  unfold v_132A_100 at h
  refine zn_ld rfl rfl rfl ?_
  refine zn_get (v := .ref 39) rfl (zv_C (a := 83) (n := 0) rfl rfl rfl) ?_
  refine zn_get (v := .int (s.1 39 10)) rfl (zv_I (a := 39) rfl rfl) ?_
  refine zn_ld rfl rfl rfl ?_
  replace h := h _ (i_sub (x := s.1 39 10) (y := a6) rfl rfl)
  refine zn_c [.int ((s.1 39 10) - a6)] xo_isub rfl rfl ?_
  refine zn_c [.int 60, .int ((s.1 39 10) - a6)] (xo_push (.int 60)) rfl rfl ?_
  refine zn_brP rfl rfl ⟨fun hcn => ?_, fun hcn => ?_⟩
  · replace h := h.1 ((i_le (x := ((s.1 39 10) - a6)) (y := 60) rfl (show (60 : Int32).toInt = 60 by decide)).mp hcn)
    exact m_132A_112_39 hd  h
  · replace h := h.2 (fun q => hcn ((i_le (x := ((s.1 39 10) - a6)) (y := 60) rfl (show (60 : Int32).toInt = 60 by decide)).mpr q))
    refine zn_ld rfl rfl rfl ?_
    refine zn_get (v := .ref 39) rfl (zv_C (a := 83) (n := 0) rfl rfl rfl) ?_
    refine zn_c [.int 9, .ref 39] (xo_push (.int 9)) rfl rfl ?_
    refine zn_ld rfl rfl rfl ?_
    refine zn_zt [.ref 39, .int 9, .int a1] [] rfl rfl rfl rfl rfl (Zt.imp h (fun v2 s3 h => ?_))
    obtain ⟨rfl, h⟩ := h
    change Zn _ _ _ _ _ _ _ _ _ _ _ [] _ _
    exact m_132A_112_39 hd  h
set_option maxRecDepth 20000 in
theorem m_132A_79_39 {d d0 : Nat} (hd : d = d0 + 8) {R79 : Int32 → Int32 → Int32 → Int32 → Int32 → Int32 → Int32 → Int32 → zS → Prop} {a1 : Int32} {a2 : Int32} {a3 : Int32} {a4 : Int32} {a5 : Int32} {a6 : Int32} {a7 : Int32} {a8 : Int32} {s : zS} {Q : Option Value → zS → Prop} (r79 : ∀ a1 a2 a3 a4 a5 a6 a7 a8 s, R79 a1 a2 a3 a4 a5 a6 a7 a8 s → Zn d [] [(39, 98)] ([(83, 1, 39), (83, 2, 86), (75, 0, 39), (75, 1, 57), (75, 2, 61)] : zW) ([(83, 1, 39), (83, 2, 86), (75, 0, 39), (75, 1, 57), (75, 2, 61)] : zW) xL_10 9 (some .int) xE_132 (xE_132.drop 79) [.ref 83, .int a1, .int a2, .int a3, .int a4, .int a5, .int a6, .int a7, .int a8, .null, .null, .null] [] s Q) (h : v_132A_79 (fun j => Zt d (wd3 39 j) j) 39 R79 a1 a2 a3 a4 a5 a6 a7 a8 s Q) : Zn d [] [(39, 98)] ([(83, 1, 39), (83, 2, 86), (75, 0, 39), (75, 1, 57), (75, 2, 61)] : zW) ([(83, 1, 39), (83, 2, 86), (75, 0, 39), (75, 1, 57), (75, 2, 61)] : zW) xL_10 9 (some .int) xE_132 (xE_132.drop 79) [.ref 83, .int a1, .int a2, .int a3, .int a4, .int a5, .int a6, .int a7, .int a8, .null, .null, .null] [] s Q := by
  unfold v_132A_79 at h
  refine zn_ld rfl rfl rfl ?_
  refine zn_ld rfl rfl rfl ?_
  refine zn_brP rfl rfl ⟨fun hcn => ?_, fun hcn => ?_⟩
  · replace h := h.1 ((i_le (x := a5) (y := a8) rfl rfl).mp hcn)
    exact m_132A_100_39 hd  h
  · replace h := h.2 (fun q => hcn ((i_le (x := a5) (y := a8) rfl rfl).mpr q))
    refine zn_ld rfl rfl rfl ?_
    refine zn_get (v := .ref 39) rfl (zv_C (a := 83) (n := 0) rfl rfl rfl) ?_
    refine zn_get (v := .int (s.1 39 14)) rfl (zv_I (a := 39) rfl rfl) ?_
    refine zn_brN rfl rfl ⟨fun hcn => ?_, fun hcn => ?_⟩
    · replace h := h.1 (fun q => hcn ((i_eq (x := s.1 39 14) (y := 0) rfl (show (0 : Int32).toInt = 0 by decide)).mpr q))
      exact m_132A_100_39 hd  h
    · replace h := h.2 ((i_eq (x := s.1 39 14) (y := 0) rfl (show (0 : Int32).toInt = 0 by decide)).mp hcn)
      refine zn_ld rfl rfl rfl ?_
      refine zn_c [.int 10, .int a2] (xo_push (.int 10)) rfl rfl ?_
      refine zn_brP rfl rfl ⟨fun hcn => ?_, fun hcn => ?_⟩
      · replace h := h.1 ((i_lt (x := 10) (y := a2) (show (10 : Int32).toInt = 10 by decide) rfl).mp hcn)
        exact m_132A_100_39 hd  h
      · replace h := h.2 (fun q => hcn ((i_lt (x := 10) (y := a2) (show (10 : Int32).toInt = 10 by decide) rfl).mpr q))
        refine zn_ld rfl rfl rfl ?_
        refine zn_ld rfl rfl rfl ?_
        refine zn_c [.int 1, .int a7, .ref 83] (xo_push (.int 1)) rfl rfl ?_
        replace h := h _ (i_add (x := a7) (y := 1) rfl (show (1 : Int32).toInt = 1 by decide))
        refine zn_c [.int (a7 + 1), .ref 83] xo_iadd rfl rfl ?_
        refine zn_ld rfl rfl rfl ?_
        refine zn_c [.int 1, .int a2, .int (a7 + 1), .ref 83] (xo_push (.int 1)) rfl rfl ?_
        replace h := h _ (i_add (x := a2) (y := 1) rfl (show (1 : Int32).toInt = 1 by decide))
        refine zn_c [.int (a2 + 1), .int (a7 + 1), .ref 83] xo_iadd rfl rfl ?_
        refine zn_zt [.ref 83, .int (a7 + 1), .int (a2 + 1)] [] rfl rfl rfl rfl rfl (Zt.imp h (fun v3 s4 h => ?_))
        obtain ⟨x5, rfl, h⟩ := h
        change Zn _ _ _ _ _ _ _ _ _ _ _ [.int x5] _ _
        refine zn_st [.ref 83, .int a1, .int a2, .int a3, .int a4, .int a5, .int a6, .int x5, .int a8, .null, .null, .null] rfl rfl rfl ?_
        replace h := h _ (i_add (x := a8) (y := 1) rfl (show (1 : Int32).toInt = 1 by decide))
        refine zn_inc [.ref 83, .int a1, .int a2, .int a3, .int a4, .int a5, .int a6, .int x5, .int (a8 + 1), .null, .null, .null] rfl rfl rfl rfl ?_
        refine zn_go rfl ?_
        exact r79 a1 a2 a3 a4 a5 a6 x5 (a8 + 1) s4 h
theorem ml_132A_79_39 {d d0 : Nat} (hd : d = d0 + 8)  {a1 : Int32} {a2 : Int32} {a3 : Int32} {a4 : Int32} {a5 : Int32} {a6 : Int32} {a7 : Int32} {a8 : Int32} {s : zS} {Q : Option Value → zS → Prop}  (h : vl_132A_79 (fun j => Zt d (wd3 39 j) j) 39  a1 a2 a3 a4 a5 a6 a7 a8 s Q) : Zn d [] [(39, 98)] ([(83, 1, 39), (83, 2, 86), (75, 0, 39), (75, 1, 57), (75, 2, 61)] : zW) ([(83, 1, 39), (83, 2, 86), (75, 0, 39), (75, 1, 57), (75, 2, 61)] : zW) xL_10 9 (some .int) xE_132 (xE_132.drop 79) [.ref 83, .int a1, .int a2, .int a3, .int a4, .int a5, .int a6, .int a7, .int a8, .null, .null, .null] [] s Q := by
  obtain ⟨I, μ, h0, h1⟩ := h
  have key : ∀ (n : Nat) (a1 : Int32) (a2 : Int32) (a3 : Int32) (a4 : Int32) (a5 : Int32) (a6 : Int32) (a7 : Int32) (a8 : Int32) (s : zS), μ a1 a2 a3 a4 a5 a6 a7 a8 s = n → I a1 a2 a3 a4 a5 a6 a7 a8 s → Zn d [] [(39, 98)] ([(83, 1, 39), (83, 2, 86), (75, 0, 39), (75, 1, 57), (75, 2, 61)] : zW) ([(83, 1, 39), (83, 2, 86), (75, 0, 39), (75, 1, 57), (75, 2, 61)] : zW) xL_10 9 (some .int) xE_132 (xE_132.drop 79) [.ref 83, .int a1, .int a2, .int a3, .int a4, .int a5, .int a6, .int a7, .int a8, .null, .null, .null] [] s Q := by
    intro n
    induction n using Nat.strongRecOn with
    | ind n ih =>
      intro a1 a2 a3 a4 a5 a6 a7 a8 s e hI
      exact m_132A_79_39 hd (fun a1' a2' a3' a4' a5' a6' a7' a8' s' q => ih _ (by rw [← e]; exact q.2) a1' a2' a3' a4' a5' a6' a7' a8' s' rfl q.1) (h1 a1 a2 a3 a4 a5 a6 a7 a8 s hI)
  exact key _ a1 a2 a3 a4 a5 a6 a7 a8 s rfl h0
set_option maxRecDepth 20000 in
theorem m_132A_49_39 {d d0 : Nat} (hd : d = d0 + 8)  {a1 : Int32} {a2 : Int32} {a3 : Int32} {a4 : Int32} {a5 : Int32} {s : zS} {Q : Option Value → zS → Prop}  (h : v_132A_49 (fun j => Zt d (wd3 39 j) j) 39  a1 a2 a3 a4 a5 s Q) : Zn d [] [(39, 98)] ([(83, 1, 39), (83, 2, 86), (75, 0, 39), (75, 1, 57), (75, 2, 61)] : zW) ([(83, 1, 39), (83, 2, 86), (75, 0, 39), (75, 1, 57), (75, 2, 61)] : zW) xL_10 9 (some .int) xE_132 (xE_132.drop 49) [.ref 83, .int a1, .int a2, .int a3, .int a4, .int a5, .null, .null, .null, .null, .null, .null] [] s Q := by
  unfold v_132A_49 at h
  refine zn_ld rfl rfl rfl ?_
  refine zn_get (v := .ref 39) rfl (zv_C (a := 83) (n := 0) rfl rfl rfl) ?_
  refine zn_get (v := .int (s.1 39 10)) rfl (zv_I (a := 39) rfl rfl) ?_
  refine zn_st [.ref 83, .int a1, .int a2, .int a3, .int a4, .int a5, .int (s.1 39 10), .null, .null, .null, .null, .null] rfl rfl rfl ?_
  refine zn_ld rfl rfl rfl ?_
  refine zn_get (v := .ref 39) rfl (zv_C (a := 83) (n := 0) rfl rfl rfl) ?_
  refine zn_get (v := .ref 57) rfl (zv_R (a := 39) rfl rfl) ?_
  refine zn_ld rfl rfl rfl ?_
  refine zn_ld rfl rfl rfl ?_
  obtain ⟨hx18, h⟩ := h
  refine zn_set (s.1 39 10) a3 [] (a := 57) hd rfl rfl rfl rfl ⟨Int32.le_toInt _, Int.le_of_lt_add_one (Int32.toInt_lt _)⟩ rfl rfl ?_ (hx := Or.inr hx18)
  replace h := h _ rfl
  refine zn_ld rfl rfl rfl ?_
  refine zn_get (v := .ref 39) rfl (zv_C (a := 83) (n := 0) rfl rfl rfl) ?_
  refine zn_get (v := .ref 59) rfl (zv_R (a := 39) rfl rfl) ?_
  refine zn_ld rfl rfl rfl ?_
  refine zn_c [.int 18738, .int (s.1 39 10), .ref 59] (xo_push (.int 18738)) rfl rfl ?_
  replace h := h _ (i_sub (x := s.1 39 10) (y := 18738) rfl (show (18738 : Int32).toInt = 18738 by decide))
  refine zn_c [.int ((s.1 39 10) - 18738), .ref 59] xo_isub rfl rfl ?_
  refine zn_ld rfl rfl rfl ?_
  refine zn_set ((s.1 39 10) - 18738) a1 [] (a := 59) hd rfl rfl rfl rfl ⟨Int32.le_toInt _, Int.le_of_lt_add_one (Int32.toInt_lt _)⟩ rfl rfl ?_
  replace h := h _ rfl
  refine zn_ld rfl rfl rfl ?_
  refine zn_get (v := .ref 39) rfl (zv_C (a := 83) (n := 0) rfl rfl rfl) ?_
  refine zn_ld rfl rfl rfl ?_
  refine zn_c [.int 1, .int (s.1 39 10), .ref 39] (xo_push (.int 1)) rfl rfl ?_
  replace h := h _ (i_add (x := s.1 39 10) (y := 1) rfl (show (1 : Int32).toInt = 1 by decide))
  refine zn_c [.int ((s.1 39 10) + 1), .ref 39] xo_iadd rfl rfl ?_
  refine zn_putI (a := 39) rfl rfl rfl rfl ⟨Int.le_trans (by decide) h.1.1, h.1.2⟩ rfl rfl rfl ?_ (hkl := Or.inr (Or.inl ⟨⟨by decide, rfl⟩, h.1.1⟩))
  replace h := h.2
  replace h := h _ rfl
  refine zn_ld rfl rfl rfl ?_
  refine zn_c [.int 1, .int a1] (xo_push (.int 1)) rfl rfl ?_
  replace h := h _ (i_add (x := a1) (y := 1) rfl (show (1 : Int32).toInt = 1 by decide))
  refine zn_c [.int (a1 + 1)] xo_iadd rfl rfl ?_
  refine zn_st [.ref 83, .int a1, .int a2, .int a3, .int a4, .int a5, .int (s.1 39 10), .int (a1 + 1), .null, .null, .null, .null] rfl rfl rfl ?_
  refine zn_c [.int 0] (xo_push (.int 0)) rfl rfl ?_
  refine zn_st [.ref 83, .int a1, .int a2, .int a3, .int a4, .int a5, .int (s.1 39 10), .int (a1 + 1), .int 0, .null, .null, .null] rfl rfl rfl ?_
  exact ml_132A_79_39 hd  h
set_option maxRecDepth 20000 in
theorem m_132A_28_39 {d d0 : Nat} (hd : d = d0 + 8)  {a1 : Int32} {a2 : Int32} {a3 : Int32} {a4 : Int32} {t0 : Int32} {s : zS} {Q : Option Value → zS → Prop}  (h : v_132A_28 (fun j => Zt d (wd3 39 j) j) 39  a1 a2 a3 a4 t0 s Q) : Zn d [] [(39, 98)] ([(83, 1, 39), (83, 2, 86), (75, 0, 39), (75, 1, 57), (75, 2, 61)] : zW) ([(83, 1, 39), (83, 2, 86), (75, 0, 39), (75, 1, 57), (75, 2, 61)] : zW) xL_10 9 (some .int) xE_132 (xE_132.drop 28) [.ref 83, .int a1, .int a2, .int a3, .int a4, .null, .null, .null, .null, .null, .null, .null] [.int t0] s Q := by
  unfold v_132A_28 at h
  refine zn_st [.ref 83, .int a1, .int a2, .int a3, .int a4, .int t0, .null, .null, .null, .null, .null, .null] rfl rfl rfl ?_
  refine zn_ld rfl rfl rfl ?_
  refine zn_brP rfl rfl ⟨fun hcn => ?_, fun hcn => ?_⟩
  · replace h := h.1 ((i_le (x := 0) (y := a3) (show (0 : Int32).toInt = 0 by decide) rfl).mp hcn)
    refine zn_ld rfl rfl rfl ?_
    refine zn_ld rfl rfl rfl ?_
    refine zn_get (v := .ref 39) rfl (zv_C (a := 83) (n := 0) rfl rfl rfl) ?_
    refine zn_get (v := .ref 61) rfl (zv_R (a := 39) rfl rfl) ?_
    refine zn_ld rfl rfl rfl ?_
    refine zn_row a3 [.int t0] (a := 61) hd rfl rfl rfl rfl ?_
    change Zn _ _ _ _ _ _ _ _ _ _ _ [.int (zg s 61 a3), .int t0] _ _
    refine zn_brP rfl rfl ⟨fun hcn => ?_, fun hcn => ?_⟩
    · replace h := h.1 ((i_eq (x := t0) (y := zg s 61 a3) rfl rfl).mp hcn)
      exact m_132A_49_39 hd  h
    · replace h := h.2 (fun q => hcn ((i_eq (x := t0) (y := zg s 61 a3) rfl rfl).mpr q))
      refine zn_ld rfl rfl rfl ?_
      refine zn_get (v := .ref 39) rfl (zv_C (a := 83) (n := 0) rfl rfl rfl) ?_
      refine zn_c [.int 4, .ref 39] (xo_push (.int 4)) rfl rfl ?_
      refine zn_ld rfl rfl rfl ?_
      refine zn_zt [.ref 39, .int 4, .int a1] [] rfl rfl rfl rfl rfl (Zt.imp h (fun v1 s2 h => ?_))
      obtain ⟨rfl, h⟩ := h
      change Zn _ _ _ _ _ _ _ _ _ _ _ [] _ _
      exact m_132A_49_39 hd  h
  · replace h := h.2 (fun q => hcn ((i_le (x := 0) (y := a3) (show (0 : Int32).toInt = 0 by decide) rfl).mpr q))
    refine zn_ld rfl rfl rfl ?_
    refine zn_get (v := .ref 39) rfl (zv_C (a := 83) (n := 0) rfl rfl rfl) ?_
    refine zn_c [.int 2, .ref 39] (xo_push (.int 2)) rfl rfl ?_
    refine zn_ld rfl rfl rfl ?_
    refine zn_zt [.ref 39, .int 2, .int a1] [] rfl rfl rfl rfl rfl (Zt.imp h (fun v3 s4 h => ?_))
    obtain ⟨rfl, h⟩ := h
    change Zn _ _ _ _ _ _ _ _ _ _ _ [] _ _
    refine zn_go rfl ?_
    exact m_132A_49_39 hd  h
set_option maxRecDepth 20000 in
theorem m_132A_16_39 {d d0 : Nat} (hd : d = d0 + 8)  {a1 : Int32} {a2 : Int32} {a3 : Int32} {t0 : Int32} {s : zS} {Q : Option Value → zS → Prop}  (h : v_132A_16 (fun j => Zt d (wd3 39 j) j) 39  a1 a2 a3 t0 s Q) : Zn d [] [(39, 98)] ([(83, 1, 39), (83, 2, 86), (75, 0, 39), (75, 1, 57), (75, 2, 61)] : zW) ([(83, 1, 39), (83, 2, 86), (75, 0, 39), (75, 1, 57), (75, 2, 61)] : zW) xL_10 9 (some .int) xE_132 (xE_132.drop 16) [.ref 83, .int a1, .int a2, .int a3, .null, .null, .null, .null, .null, .null, .null, .null] [.int t0] s Q := by
  unfold v_132A_16 at h
  refine zn_st [.ref 83, .int a1, .int a2, .int a3, .int t0, .null, .null, .null, .null, .null, .null, .null] rfl rfl rfl ?_
  refine zn_ld rfl rfl rfl ?_
  refine zn_brP rfl rfl ⟨fun hcn => ?_, fun hcn => ?_⟩
  · replace h := h.1 ((i_eq (x := t0) (y := 0) rfl (show (0 : Int32).toInt = 0 by decide)).mp hcn)
    refine zn_c [.int 0] (xo_push (.int 0)) rfl rfl ?_
    exact m_132A_28_39 hd  h
  · replace h := h.2 (fun q => hcn ((i_eq (x := t0) (y := 0) rfl (show (0 : Int32).toInt = 0 by decide)).mpr q))
    refine zn_ld rfl rfl rfl ?_
    refine zn_get (v := .ref 86) rfl (zv_C (a := 83) (n := 1) rfl rfl rfl) ?_
    refine zn_get (v := .ref 97) rfl (zv_R (a := 86) rfl rfl) ?_
    refine zn_ld rfl rfl rfl ?_
    refine zn_c [.int 1, .int a1, .ref 97] (xo_push (.int 1)) rfl rfl ?_
    replace h := h _ (i_add (x := a1) (y := 1) rfl (show (1 : Int32).toInt = 1 by decide))
    refine zn_c [.int (a1 + 1), .ref 97] xo_iadd rfl rfl ?_
    refine zn_row (a1 + 1) [] (a := 97) hd rfl rfl rfl rfl ?_
    change Zn _ _ _ _ _ _ _ _ _ _ _ [.int (zg s 97 (a1 + 1))] _ _
    refine zn_go rfl ?_
    exact m_132A_28_39 hd  h
set_option maxRecDepth 20000 in
theorem m_132A_0_39 {d d0 : Nat} (hd : d = d0 + 8)  {a1 : Int32} {a2 : Int32} {s : zS} {Q : Option Value → zS → Prop}  (h : v_132A_0 (fun j => Zt d (wd3 39 j) j) 39  a1 a2 s Q) : Zn d [] [(39, 98)] ([(83, 1, 39), (83, 2, 86), (75, 0, 39), (75, 1, 57), (75, 2, 61)] : zW) ([(83, 1, 39), (83, 2, 86), (75, 0, 39), (75, 1, 57), (75, 2, 61)] : zW) xL_10 9 (some .int) xE_132 (xE_132.drop 0) [.ref 83, .int a1, .int a2, .null, .null, .null, .null, .null, .null, .null, .null, .null] [] s Q := by
  unfold v_132A_0 at h
  refine zn_ld rfl rfl rfl ?_
  refine zn_ld rfl rfl rfl ?_
  refine zn_zt [.ref 83, .int a1] [] rfl rfl rfl rfl rfl (Zt.imp h (fun v1 s2 h => ?_))
  obtain ⟨x3, rfl, h⟩ := h
  change Zn _ _ _ _ _ _ _ _ _ _ _ [.int x3] _ _
  refine zn_st [.ref 83, .int a1, .int a2, .int x3, .null, .null, .null, .null, .null, .null, .null, .null] rfl rfl rfl ?_
  refine zn_ld rfl rfl rfl ?_
  refine zn_get (v := .ref 86) rfl (zv_C (a := 83) (n := 1) rfl rfl rfl) ?_
  refine zn_get (v := .ref 89) rfl (zv_R (a := 86) rfl rfl) ?_
  refine zn_ld rfl rfl rfl ?_
  refine zn_c [.int 1, .int a1, .ref 89] (xo_push (.int 1)) rfl rfl ?_
  replace h := h _ (i_add (x := a1) (y := 1) rfl (show (1 : Int32).toInt = 1 by decide))
  refine zn_c [.int (a1 + 1), .ref 89] xo_iadd rfl rfl ?_
  refine zn_row (a1 + 1) [] (a := 89) hd rfl rfl rfl rfl ?_
  change Zn _ _ _ _ _ _ _ _ _ _ _ [.int (zg s2 89 (a1 + 1))] _ _
  refine zn_c [.int 91, .int (zg s2 89 (a1 + 1))] (xo_push (.int 91)) rfl rfl ?_
  refine zn_brN rfl rfl ⟨fun hcn => ?_, fun hcn => ?_⟩
  · replace h := h.1 (fun q => hcn ((i_eq (x := zg s2 89 (a1 + 1)) (y := 91) rfl (show (91 : Int32).toInt = 91 by decide)).mpr q))
    refine zn_c [.int 0] (xo_push (.int 0)) rfl rfl ?_
    exact m_132A_16_39 hd  h
  · replace h := h.2 ((i_eq (x := zg s2 89 (a1 + 1)) (y := 91) rfl (show (91 : Int32).toInt = 91 by decide)).mp hcn)
    refine zn_c [.int 1] (xo_push (.int 1)) rfl rfl ?_
    refine zn_go rfl ?_
    exact m_132A_16_39 hd  h
theorem zq_132A_39 {d : Nat} {a1 : Int32} {a2 : Int32} {s : zS} {Q : Option Value → zS → Prop} (h : v_132A_0 (fun j => Zt (d + 8) (wd3 39 j) j) 39 a1 a2 s Q) : Zt (d + 9) ([(83, 1, 39), (83, 2, 86), (75, 0, 39), (75, 1, 57), (75, 2, 61)] : zW) 132 [.ref 83, .int a1, .int a2] s Q := zt_of (E := xE_132) (L := xL_10) (ml := 9) (ret := some .int) rfl rfl rfl (m_132A_0_39 rfl h)
theorem zc_132A {d P : Nat} (hP : P = 3 ∨ P = 39) {a1 : Int32} {a2 : Int32} {s : zS} {Q : Option Value → zS → Prop} (h : v_132A_0 (fun j => Zt (d + 8) (wd3 P j) j) P a1 a2 s Q) : Zt (d + 9) (wd3 P 132) 132 [.ref 83, .int a1, .int a2] s Q := by
  rcases hP with rfl | rfl
  · exact zq_132A_3 h
  · exact zq_132A_39 h
/-! FeatherBench$Told.lookAtBounds -/
def v_135A_120 (T : Nat → List Value → zS → (Option Value → zS → Prop) → Prop) (P : Nat) (R2 : Int32 → Int32 → Int32 → zS → Prop) (a1 : Int32) (a2 : Int32) (a3 : Int32) (a4 : Int32) (s : zS) (Q : Option Value → zS → Prop) : Prop :=
  ∀ x1 : Int32, (-2147483648 ≤ a3.toInt + 1 ∧ a3.toInt + 1 ≤ 2147483647 → x1.toInt = a3.toInt + 1) → R2 a1 a2 x1 s
def v_135A_118 (T : Nat → List Value → zS → (Option Value → zS → Prop) → Prop) (P : Nat) (R2 : Int32 → Int32 → Int32 → zS → Prop) (R7 : Int32 → Int32 → Int32 → Int32 → zS → Prop) (a1 : Int32) (a2 : Int32) (a3 : Int32) (a4 : Int32) (a5 : Int32) (a6 : Int32) (a7 : Int32) (a8 : Int32) (s : zS) (Q : Option Value → zS → Prop) : Prop :=
  ∀ x1 : Int32, (-2147483648 ≤ a4.toInt + (-1) ∧ a4.toInt + (-1) ≤ 2147483647 → x1.toInt = a4.toInt + (-1)) → R7 a1 a2 a3 x1 s
def v_135A_95 (T : Nat → List Value → zS → (Option Value → zS → Prop) → Prop) (P : Nat) (R2 : Int32 → Int32 → Int32 → zS → Prop) (R7 : Int32 → Int32 → Int32 → Int32 → zS → Prop) (R44 : Int32 → Int32 → Int32 → Int32 → Int32 → Int32 → Int32 → Int32 → zS → Prop) (a1 : Int32) (a2 : Int32) (a3 : Int32) (a4 : Int32) (a5 : Int32) (a6 : Int32) (a7 : Int32) (a8 : Int32) (a9 : Int32) (a10 : Int32) (a11 : Int32) (t0 : Int32) (s : zS) (Q : Option Value → zS → Prop) : Prop :=
  ∀ x1 : Int32, (-2147483648 ≤ a7.toInt - 18738 ∧ a7.toInt - 18738 ≤ 2147483647 → x1.toInt = a7.toInt - 18738) → T 38 [.ref P, .int t0, .int (zg s (P + 20) x1)] s (fun v2 s3 => v2 = none ∧ (∀ s4, s4 = zf s3 75 3 a9 → T 83 [.ref 75, .int a7] s4 (fun v5 s6 => ∃ x7, v5 = some (.int x7) ∧ (∀ x8 : Int32, (-2147483648 ≤ a8.toInt + 1 ∧ a8.toInt + 1 ≤ 2147483647 → x8.toInt = a8.toInt + 1) → R44 a1 a2 a3 a4 a5 a6 x7 x8 s6))))
def v_135A_44 (T : Nat → List Value → zS → (Option Value → zS → Prop) → Prop) (P : Nat) (R2 : Int32 → Int32 → Int32 → zS → Prop) (R7 : Int32 → Int32 → Int32 → Int32 → zS → Prop) (R44 : Int32 → Int32 → Int32 → Int32 → Int32 → Int32 → Int32 → Int32 → zS → Prop) (a1 : Int32) (a2 : Int32) (a3 : Int32) (a4 : Int32) (a5 : Int32) (a6 : Int32) (a7 : Int32) (a8 : Int32) (s : zS) (Q : Option Value → zS → Prop) : Prop :=
  (a6.toInt = 0 → v_135A_118 T P R2 R7 a1 a2 a3 a4 a5 a6 a7 a8 s Q) ∧ (¬ (a6.toInt = 0) → ((zg s (P + 22) a5).toInt ≤ a8.toInt → v_135A_118 T P R2 R7 a1 a2 a3 a4 a5 a6 a7 a8 s Q) ∧ (¬ ((zg s (P + 22) a5).toInt ≤ a8.toInt) → T 86 [.ref 75, .ref 76, .int a4, .int 0, .int 0] s (fun v1 s2 => v1 = none ∧ (∀ x4 : Int32, (-2147483648 ≤ (zg s2 (P + 24) (a5 * 6 + 2)).toInt + a8.toInt ∧ (zg s2 (P + 24) (a5 * 6 + 2)).toInt + a8.toInt ≤ 2147483647 → x4.toInt = (zg s2 (P + 24) (a5 * 6 + 2)).toInt + a8.toInt) → T 87 [.ref 75, .int (zg s2 (P + 30) (x4 * 5 + 3)), .ref 76] s2 (fun v6 s7 => ∃ x8, v6 = some (.int x8) ∧ ((0 ≤ x8.toInt → T 88 [.ref 75, .int a7, .int x8] s7 (fun v9 s10 => ∃ x11, v9 = some (.int x11) ∧ (v_135A_95 T P R2 R7 R44 a1 a2 a3 a4 a5 a6 a7 a8 (s.1 75 3) (zg s2 (P + 30) (x4 * 5 + 3)) x8 x11 s10 Q))) ∧ (¬ (0 ≤ x8.toInt) → v_135A_95 T P R2 R7 R44 a1 a2 a3 a4 a5 a6 a7 a8 (s.1 75 3) (zg s2 (P + 30) (x4 * 5 + 3)) x8 9 s7 Q)))))))
def vl_135A_44 (T : Nat → List Value → zS → (Option Value → zS → Prop) → Prop) (P : Nat) (R2 : Int32 → Int32 → Int32 → zS → Prop) (R7 : Int32 → Int32 → Int32 → Int32 → zS → Prop) (a1 : Int32) (a2 : Int32) (a3 : Int32) (a4 : Int32) (a5 : Int32) (a6 : Int32) (a7 : Int32) (a8 : Int32) (s : zS) (Q : Option Value → zS → Prop) : Prop :=
  ∃ (I : Int32 → Int32 → Int32 → Int32 → Int32 → Int32 → Int32 → Int32 → zS → Prop) (μ : Int32 → Int32 → Int32 → Int32 → Int32 → Int32 → Int32 → Int32 → zS → Nat), I a1 a2 a3 a4 a5 a6 a7 a8 s ∧ ∀ (a1 : Int32) (a2 : Int32) (a3 : Int32) (a4 : Int32) (a5 : Int32) (a6 : Int32) (a7 : Int32) (a8 : Int32) (s : zS), I a1 a2 a3 a4 a5 a6 a7 a8 s → v_135A_44 T P R2 R7 (fun a1' a2' a3' a4' a5' a6' a7' a8' s' => I a1' a2' a3' a4' a5' a6' a7' a8' s' ∧ μ a1' a2' a3' a4' a5' a6' a7' a8' s' < μ a1 a2 a3 a4 a5 a6 a7 a8 s) a1 a2 a3 a4 a5 a6 a7 a8 s Q
def v_135A_37 (T : Nat → List Value → zS → (Option Value → zS → Prop) → Prop) (P : Nat) (R2 : Int32 → Int32 → Int32 → zS → Prop) (R7 : Int32 → Int32 → Int32 → Int32 → zS → Prop) (a1 : Int32) (a2 : Int32) (a3 : Int32) (a4 : Int32) (a5 : Int32) (t0 : Int32) (s : zS) (Q : Option Value → zS → Prop) : Prop :=
  ∀ x1 : Int32, (-2147483648 ≤ a4.toInt + 1 ∧ a4.toInt + 1 ≤ 2147483647 → x1.toInt = a4.toInt + 1) → vl_135A_44 T P R2 R7 a1 a2 a3 a4 a5 t0 x1 0 s Q
def v_135A_36 (T : Nat → List Value → zS → (Option Value → zS → Prop) → Prop) (P : Nat) (R2 : Int32 → Int32 → Int32 → zS → Prop) (R7 : Int32 → Int32 → Int32 → Int32 → zS → Prop) (a1 : Int32) (a2 : Int32) (a3 : Int32) (a4 : Int32) (a5 : Int32) (s : zS) (Q : Option Value → zS → Prop) : Prop :=
  v_135A_37 T P R2 R7 a1 a2 a3 a4 a5 0 s Q
def v_135A_7 (T : Nat → List Value → zS → (Option Value → zS → Prop) → Prop) (P : Nat) (R2 : Int32 → Int32 → Int32 → zS → Prop) (R7 : Int32 → Int32 → Int32 → Int32 → zS → Prop) (a1 : Int32) (a2 : Int32) (a3 : Int32) (a4 : Int32) (s : zS) (Q : Option Value → zS → Prop) : Prop :=
  (a4.toInt < a1.toInt → v_135A_120 T P R2 a1 a2 a3 a4 s Q) ∧ (¬ (a4.toInt < a1.toInt) → (¬ ((s.1 P 14).toInt = 0) → v_135A_120 T P R2 a1 a2 a3 a4 s Q) ∧ ((s.1 P 14).toInt = 0 → ((zg s (P + 22) (zg s (P + 18) a4)).toInt ≤ 0 → v_135A_36 T P R2 R7 a1 a2 a3 a4 (zg s (P + 18) a4) s Q) ∧ (¬ ((zg s (P + 22) (zg s (P + 18) a4)).toInt ≤ 0) → T 83 [.ref 75, .int a4] s (fun v1 s2 => ∃ x3, v1 = some (.int x3) ∧ (∀ x4 : Int32, (-2147483648 ≤ a3.toInt + 1 ∧ a3.toInt + 1 ≤ 2147483647 → x4.toInt = a3.toInt + 1) → (¬ (x3.toInt = x4.toInt) → v_135A_36 T P R2 R7 a1 a2 a3 a4 (zg s (P + 18) a4) s2 Q) ∧ (x3.toInt = x4.toInt → v_135A_37 T P R2 R7 a1 a2 a3 a4 (zg s (P + 18) a4) 1 s2 Q))))))
def vl_135A_7 (T : Nat → List Value → zS → (Option Value → zS → Prop) → Prop) (P : Nat) (R2 : Int32 → Int32 → Int32 → zS → Prop) (a1 : Int32) (a2 : Int32) (a3 : Int32) (a4 : Int32) (s : zS) (Q : Option Value → zS → Prop) : Prop :=
  ∃ (I : Int32 → Int32 → Int32 → Int32 → zS → Prop) (μ : Int32 → Int32 → Int32 → Int32 → zS → Nat), I a1 a2 a3 a4 s ∧ ∀ (a1 : Int32) (a2 : Int32) (a3 : Int32) (a4 : Int32) (s : zS), I a1 a2 a3 a4 s → v_135A_7 T P R2 (fun a1' a2' a3' a4' s' => I a1' a2' a3' a4' s' ∧ μ a1' a2' a3' a4' s' < μ a1 a2 a3 a4 s) a1 a2 a3 a4 s Q
def v_135A_2 (T : Nat → List Value → zS → (Option Value → zS → Prop) → Prop) (P : Nat) (R2 : Int32 → Int32 → Int32 → zS → Prop) (a1 : Int32) (a2 : Int32) (a3 : Int32) (s : zS) (Q : Option Value → zS → Prop) : Prop :=
  (a2.toInt ≤ a3.toInt → Q none s) ∧ (¬ (a2.toInt ≤ a3.toInt) → vl_135A_7 T P R2 a1 a2 a3 a3 s Q)
def vl_135A_2 (T : Nat → List Value → zS → (Option Value → zS → Prop) → Prop) (P : Nat)  (a1 : Int32) (a2 : Int32) (a3 : Int32) (s : zS) (Q : Option Value → zS → Prop) : Prop :=
  ∃ (I : Int32 → Int32 → Int32 → zS → Prop) (μ : Int32 → Int32 → Int32 → zS → Nat), I a1 a2 a3 s ∧ ∀ (a1 : Int32) (a2 : Int32) (a3 : Int32) (s : zS), I a1 a2 a3 s → v_135A_2 T P (fun a1' a2' a3' s' => I a1' a2' a3' s' ∧ μ a1' a2' a3' s' < μ a1 a2 a3 s) a1 a2 a3 s Q
def v_135A_0 (T : Nat → List Value → zS → (Option Value → zS → Prop) → Prop) (P : Nat)  (a1 : Int32) (a2 : Int32) (s : zS) (Q : Option Value → zS → Prop) : Prop :=
  vl_135A_2 T P  a1 a2 a1 s Q
set_option maxRecDepth 20000 in
theorem m_135A_120_3 {d d0 : Nat} (hd : d = d0 + 8) {R2 : Int32 → Int32 → Int32 → zS → Prop} {a1 : Int32} {a2 : Int32} {a3 : Int32} {a4 : Int32} {s : zS} {Q : Option Value → zS → Prop} (r2 : ∀ a1 a2 a3 s, R2 a1 a2 a3 s → Zn d [] [(3, 98)] ([(83, 1, 3), (83, 2, 86), (75, 0, 3), (75, 1, 21), (75, 2, 25)] : zW) ([(83, 1, 3), (83, 2, 86), (75, 0, 3), (75, 1, 21), (75, 2, 25)] : zW) xL_10 13 (none) xE_135 (xE_135.drop 2) [.ref 83, .int a1, .int a2, .int a3, .null, .null, .null, .null, .null, .null, .null, .null, .null, .null, .null, .null] [] s Q) (h : v_135A_120 (fun j => Zt d (wd3 3 j) j) 3 R2 a1 a2 a3 a4 s Q) : Zn d [] [(3, 98)] ([(83, 1, 3), (83, 2, 86), (75, 0, 3), (75, 1, 21), (75, 2, 25)] : zW) ([(83, 1, 3), (83, 2, 86), (75, 0, 3), (75, 1, 21), (75, 2, 25)] : zW) xL_10 13 (none) xE_135 (xE_135.drop 120) [.ref 83, .int a1, .int a2, .int a3, .int a4, .null, .null, .null, .null, .null, .null, .null, .null, .null, .null, .null] [] s Q := by
  unfold v_135A_120 at h
  replace h := h _ (i_add (x := a3) (y := 1) rfl (show (1 : Int32).toInt = 1 by decide))
  refine zn_inc [.ref 83, .int a1, .int a2, .int (a3 + 1), .int a4, .null, .null, .null, .null, .null, .null, .null, .null, .null, .null, .null] rfl rfl rfl rfl ?_
  refine zn_go rfl ?_
  refine zn_fg 4 ?_
  exact r2 a1 a2 (a3 + 1) s h
set_option maxRecDepth 20000 in
theorem m_135A_118_3 {d d0 : Nat} (hd : d = d0 + 8) {R2 : Int32 → Int32 → Int32 → zS → Prop} {R7 : Int32 → Int32 → Int32 → Int32 → zS → Prop} {a1 : Int32} {a2 : Int32} {a3 : Int32} {a4 : Int32} {a5 : Int32} {a6 : Int32} {a7 : Int32} {a8 : Int32} {s : zS} {Q : Option Value → zS → Prop} (r2 : ∀ a1 a2 a3 s, R2 a1 a2 a3 s → Zn d [] [(3, 98)] ([(83, 1, 3), (83, 2, 86), (75, 0, 3), (75, 1, 21), (75, 2, 25)] : zW) ([(83, 1, 3), (83, 2, 86), (75, 0, 3), (75, 1, 21), (75, 2, 25)] : zW) xL_10 13 (none) xE_135 (xE_135.drop 2) [.ref 83, .int a1, .int a2, .int a3, .null, .null, .null, .null, .null, .null, .null, .null, .null, .null, .null, .null] [] s Q) (r7 : ∀ a1 a2 a3 a4 s, R7 a1 a2 a3 a4 s → Zn d [] [(3, 98)] ([(83, 1, 3), (83, 2, 86), (75, 0, 3), (75, 1, 21), (75, 2, 25)] : zW) ([(83, 1, 3), (83, 2, 86), (75, 0, 3), (75, 1, 21), (75, 2, 25)] : zW) xL_10 13 (none) xE_135 (xE_135.drop 7) [.ref 83, .int a1, .int a2, .int a3, .int a4, .null, .null, .null, .null, .null, .null, .null, .null, .null, .null, .null] [] s Q) (h : v_135A_118 (fun j => Zt d (wd3 3 j) j) 3 R2 R7 a1 a2 a3 a4 a5 a6 a7 a8 s Q) : Zn d [] [(3, 98)] ([(83, 1, 3), (83, 2, 86), (75, 0, 3), (75, 1, 21), (75, 2, 25)] : zW) ([(83, 1, 3), (83, 2, 86), (75, 0, 3), (75, 1, 21), (75, 2, 25)] : zW) xL_10 13 (none) xE_135 (xE_135.drop 118) [.ref 83, .int a1, .int a2, .int a3, .int a4, .int a5, .int a6, .int a7, .int a8, .null, .null, .null, .null, .null, .null, .null] [] s Q := by
  unfold v_135A_118 at h
  replace h := h _ (i_add (x := a4) (y := (-1)) rfl (show ((-1) : Int32).toInt = (-1) by decide))
  refine zn_inc [.ref 83, .int a1, .int a2, .int a3, .int (a4 + (-1)), .int a5, .int a6, .int a7, .int a8, .null, .null, .null, .null, .null, .null, .null] rfl rfl rfl rfl ?_
  refine zn_go rfl ?_
  refine zn_fg 5 ?_
  refine zn_fg 6 ?_
  refine zn_fg 7 ?_
  refine zn_fg 8 ?_
  exact r7 a1 a2 a3 (a4 + (-1)) s h
set_option maxRecDepth 20000 in
theorem m_135A_95_3 {d d0 : Nat} (hd : d = d0 + 8) {R2 : Int32 → Int32 → Int32 → zS → Prop} {R7 : Int32 → Int32 → Int32 → Int32 → zS → Prop} {R44 : Int32 → Int32 → Int32 → Int32 → Int32 → Int32 → Int32 → Int32 → zS → Prop} {a1 : Int32} {a2 : Int32} {a3 : Int32} {a4 : Int32} {a5 : Int32} {a6 : Int32} {a7 : Int32} {a8 : Int32} {a9 : Int32} {a10 : Int32} {a11 : Int32} {t0 : Int32} {s : zS} {Q : Option Value → zS → Prop} (r2 : ∀ a1 a2 a3 s, R2 a1 a2 a3 s → Zn d [] [(3, 98)] ([(83, 1, 3), (83, 2, 86), (75, 0, 3), (75, 1, 21), (75, 2, 25)] : zW) ([(83, 1, 3), (83, 2, 86), (75, 0, 3), (75, 1, 21), (75, 2, 25)] : zW) xL_10 13 (none) xE_135 (xE_135.drop 2) [.ref 83, .int a1, .int a2, .int a3, .null, .null, .null, .null, .null, .null, .null, .null, .null, .null, .null, .null] [] s Q) (r7 : ∀ a1 a2 a3 a4 s, R7 a1 a2 a3 a4 s → Zn d [] [(3, 98)] ([(83, 1, 3), (83, 2, 86), (75, 0, 3), (75, 1, 21), (75, 2, 25)] : zW) ([(83, 1, 3), (83, 2, 86), (75, 0, 3), (75, 1, 21), (75, 2, 25)] : zW) xL_10 13 (none) xE_135 (xE_135.drop 7) [.ref 83, .int a1, .int a2, .int a3, .int a4, .null, .null, .null, .null, .null, .null, .null, .null, .null, .null, .null] [] s Q) (r44 : ∀ a1 a2 a3 a4 a5 a6 a7 a8 s, R44 a1 a2 a3 a4 a5 a6 a7 a8 s → Zn d [] [(3, 98)] ([(83, 1, 3), (83, 2, 86), (75, 0, 3), (75, 1, 21), (75, 2, 25)] : zW) ([(83, 1, 3), (83, 2, 86), (75, 0, 3), (75, 1, 21), (75, 2, 25)] : zW) xL_10 13 (none) xE_135 (xE_135.drop 44) [.ref 83, .int a1, .int a2, .int a3, .int a4, .int a5, .int a6, .int a7, .int a8, .null, .null, .null, .null, .null, .null, .null] [] s Q) (h : v_135A_95 (fun j => Zt d (wd3 3 j) j) 3 R2 R7 R44 a1 a2 a3 a4 a5 a6 a7 a8 a9 a10 a11 t0 s Q) : Zn d [] [(3, 98)] ([(83, 1, 3), (83, 2, 86), (75, 0, 3), (75, 1, 21), (75, 2, 25)] : zW) ([(83, 1, 3), (83, 2, 86), (75, 0, 3), (75, 1, 21), (75, 2, 25)] : zW) xL_10 13 (none) xE_135 (xE_135.drop 95) [.ref 83, .int a1, .int a2, .int a3, .int a4, .int a5, .int a6, .int a7, .int a8, .int a9, .int a10, .int a11, .null, .null, .null, .null] [.int t0] s Q := by
  unfold v_135A_95 at h
  refine zn_st [.ref 83, .int a1, .int a2, .int a3, .int a4, .int a5, .int a6, .int a7, .int a8, .int a9, .int a10, .int a11, .int t0, .null, .null, .null] rfl rfl rfl ?_
  refine zn_ld rfl rfl rfl ?_
  refine zn_get (v := .ref 3) rfl (zv_C (a := 83) (n := 0) rfl rfl rfl) ?_
  refine zn_ld rfl rfl rfl ?_
  refine zn_ld rfl rfl rfl ?_
  refine zn_get (v := .ref 3) rfl (zv_C (a := 83) (n := 0) rfl rfl rfl) ?_
  refine zn_get (v := .ref 23) rfl (zv_R (a := 3) rfl rfl) ?_
  refine zn_ld rfl rfl rfl ?_
  refine zn_c [.int 18738, .int a7, .ref 23, .int t0, .ref 3] (xo_push (.int 18738)) rfl rfl ?_
  replace h := h _ (i_sub (x := a7) (y := 18738) rfl (show (18738 : Int32).toInt = 18738 by decide))
  refine zn_c [.int (a7 - 18738), .ref 23, .int t0, .ref 3] xo_isub rfl rfl ?_
  refine zn_row (a7 - 18738) [.int t0, .ref 3] (a := 23) hd rfl rfl rfl rfl ?_
  change Zn _ _ _ _ _ _ _ _ _ _ _ [.int (zg s 23 (a7 - 18738)), .int t0, .ref 3] _ _
  refine zn_zt [.ref 3, .int t0, .int (zg s 23 (a7 - 18738))] [] rfl rfl rfl rfl rfl (Zt.imp h (fun v2 s3 h => ?_))
  obtain ⟨rfl, h⟩ := h
  change Zn _ _ _ _ _ _ _ _ _ _ _ [] _ _
  refine zn_ld rfl rfl rfl ?_
  refine zn_get (v := .ref 75) rfl (zv_R (a := 83) rfl rfl) ?_
  refine zn_ld rfl rfl rfl ?_
  refine zn_putI (a := 75) rfl rfl rfl rfl ⟨Int32.le_toInt _, Int.le_of_lt_add_one (Int32.toInt_lt _)⟩ rfl rfl rfl ?_
  replace h := h _ rfl
  refine zn_ld rfl rfl rfl ?_
  refine zn_get (v := .ref 75) rfl (zv_R (a := 83) rfl rfl) ?_
  refine zn_ld rfl rfl rfl ?_
  refine zn_zt [.ref 75, .int a7] [] rfl rfl rfl rfl rfl (Zt.imp h (fun v5 s6 h => ?_))
  obtain ⟨x7, rfl, h⟩ := h
  change Zn _ _ _ _ _ _ _ _ _ _ _ [.int x7] _ _
  refine zn_st [.ref 83, .int a1, .int a2, .int a3, .int a4, .int a5, .int a6, .int x7, .int a8, .int a9, .int a10, .int a11, .int t0, .null, .null, .null] rfl rfl rfl ?_
  replace h := h _ (i_add (x := a8) (y := 1) rfl (show (1 : Int32).toInt = 1 by decide))
  refine zn_inc [.ref 83, .int a1, .int a2, .int a3, .int a4, .int a5, .int a6, .int x7, .int (a8 + 1), .int a9, .int a10, .int a11, .int t0, .null, .null, .null] rfl rfl rfl rfl ?_
  refine zn_go rfl ?_
  refine zn_fg 9 ?_
  refine zn_fg 10 ?_
  refine zn_fg 11 ?_
  refine zn_fg 12 ?_
  exact r44 a1 a2 a3 a4 a5 a6 x7 (a8 + 1) s6 h
set_option maxRecDepth 20000 in
theorem m_135A_44_3 {d d0 : Nat} (hd : d = d0 + 8) {R2 : Int32 → Int32 → Int32 → zS → Prop} {R7 : Int32 → Int32 → Int32 → Int32 → zS → Prop} {R44 : Int32 → Int32 → Int32 → Int32 → Int32 → Int32 → Int32 → Int32 → zS → Prop} {a1 : Int32} {a2 : Int32} {a3 : Int32} {a4 : Int32} {a5 : Int32} {a6 : Int32} {a7 : Int32} {a8 : Int32} {s : zS} {Q : Option Value → zS → Prop} (r2 : ∀ a1 a2 a3 s, R2 a1 a2 a3 s → Zn d [] [(3, 98)] ([(83, 1, 3), (83, 2, 86), (75, 0, 3), (75, 1, 21), (75, 2, 25)] : zW) ([(83, 1, 3), (83, 2, 86), (75, 0, 3), (75, 1, 21), (75, 2, 25)] : zW) xL_10 13 (none) xE_135 (xE_135.drop 2) [.ref 83, .int a1, .int a2, .int a3, .null, .null, .null, .null, .null, .null, .null, .null, .null, .null, .null, .null] [] s Q) (r7 : ∀ a1 a2 a3 a4 s, R7 a1 a2 a3 a4 s → Zn d [] [(3, 98)] ([(83, 1, 3), (83, 2, 86), (75, 0, 3), (75, 1, 21), (75, 2, 25)] : zW) ([(83, 1, 3), (83, 2, 86), (75, 0, 3), (75, 1, 21), (75, 2, 25)] : zW) xL_10 13 (none) xE_135 (xE_135.drop 7) [.ref 83, .int a1, .int a2, .int a3, .int a4, .null, .null, .null, .null, .null, .null, .null, .null, .null, .null, .null] [] s Q) (r44 : ∀ a1 a2 a3 a4 a5 a6 a7 a8 s, R44 a1 a2 a3 a4 a5 a6 a7 a8 s → Zn d [] [(3, 98)] ([(83, 1, 3), (83, 2, 86), (75, 0, 3), (75, 1, 21), (75, 2, 25)] : zW) ([(83, 1, 3), (83, 2, 86), (75, 0, 3), (75, 1, 21), (75, 2, 25)] : zW) xL_10 13 (none) xE_135 (xE_135.drop 44) [.ref 83, .int a1, .int a2, .int a3, .int a4, .int a5, .int a6, .int a7, .int a8, .null, .null, .null, .null, .null, .null, .null] [] s Q) (h : v_135A_44 (fun j => Zt d (wd3 3 j) j) 3 R2 R7 R44 a1 a2 a3 a4 a5 a6 a7 a8 s Q) : Zn d [] [(3, 98)] ([(83, 1, 3), (83, 2, 86), (75, 0, 3), (75, 1, 21), (75, 2, 25)] : zW) ([(83, 1, 3), (83, 2, 86), (75, 0, 3), (75, 1, 21), (75, 2, 25)] : zW) xL_10 13 (none) xE_135 (xE_135.drop 44) [.ref 83, .int a1, .int a2, .int a3, .int a4, .int a5, .int a6, .int a7, .int a8, .null, .null, .null, .null, .null, .null, .null] [] s Q := by
  unfold v_135A_44 at h
  refine zn_ld rfl rfl rfl ?_
  refine zn_brP rfl rfl ⟨fun hcn => ?_, fun hcn => ?_⟩
  · replace h := h.1 ((i_eq (x := a6) (y := 0) rfl (show (0 : Int32).toInt = 0 by decide)).mp hcn)
    exact m_135A_118_3 hd r2 r7 h
  · replace h := h.2 (fun q => hcn ((i_eq (x := a6) (y := 0) rfl (show (0 : Int32).toInt = 0 by decide)).mpr q))
    refine zn_ld rfl rfl rfl ?_
    refine zn_ld rfl rfl rfl ?_
    refine zn_get (v := .ref 3) rfl (zv_C (a := 83) (n := 0) rfl rfl rfl) ?_
    refine zn_get (v := .ref 25) rfl (zv_R (a := 3) rfl rfl) ?_
    refine zn_ld rfl rfl rfl ?_
    refine zn_row a5 [.int a8] (a := 25) hd rfl rfl rfl rfl ?_
    change Zn _ _ _ _ _ _ _ _ _ _ _ [.int (zg s 25 a5), .int a8] _ _
    refine zn_brP rfl rfl ⟨fun hcn => ?_, fun hcn => ?_⟩
    · replace h := h.1 ((i_le (x := zg s 25 a5) (y := a8) rfl rfl).mp hcn)
      exact m_135A_118_3 hd r2 r7 h
    · replace h := h.2 (fun q => hcn ((i_le (x := zg s 25 a5) (y := a8) rfl rfl).mpr q))
      refine zn_ld rfl rfl rfl ?_
      refine zn_get (v := .ref 75) rfl (zv_R (a := 83) rfl rfl) ?_
      refine zn_get (v := .int (s.1 75 3)) rfl (zv_I (a := 75) rfl rfl) ?_
      refine zn_st [.ref 83, .int a1, .int a2, .int a3, .int a4, .int a5, .int a6, .int a7, .int a8, .int (s.1 75 3), .null, .null, .null, .null, .null, .null] rfl rfl rfl ?_
      refine zn_ld rfl rfl rfl ?_
      refine zn_get (v := .ref 75) rfl (zv_R (a := 83) rfl rfl) ?_
      refine zn_ld rfl rfl rfl ?_
      refine zn_get (v := .ref 75) rfl (zv_R (a := 83) rfl rfl) ?_
      refine zn_get (v := .ref 76) rfl (zv_R (a := 75) rfl rfl) ?_
      refine zn_ld rfl rfl rfl ?_
      refine zn_c [.int 0, .int a4, .ref 76, .ref 75] (xo_push (.int 0)) rfl rfl ?_
      refine zn_c [.int 0, .int 0, .int a4, .ref 76, .ref 75] (xo_push (.int 0)) rfl rfl ?_
      refine zn_zt [.ref 75, .ref 76, .int a4, .int 0, .int 0] [] rfl rfl rfl rfl rfl (Zt.imp h (fun v1 s2 h => ?_))
      obtain ⟨rfl, h⟩ := h
      change Zn _ _ _ _ _ _ _ _ _ _ _ [] _ _
      refine zn_ld rfl rfl rfl ?_
      refine zn_get (v := .ref 3) rfl (zv_C (a := 83) (n := 0) rfl rfl rfl) ?_
      refine zn_ld rfl rfl rfl ?_
      refine zn_get (v := .ref 3) rfl (zv_C (a := 83) (n := 0) rfl rfl rfl) ?_
      refine zn_ld rfl rfl rfl ?_
      refine zn_c [.int 2, .int a5, .ref 3, .ref 3] (xo_push (.int 2)) rfl rfl ?_
      refine zn_zt [.ref 3, .int a5, .int 2] [.ref 3] (c := []) rfl rfl rfl rfl rfl (Zt.imp (zp_39 hd (Or.inl rfl)) (fun vq sq hq => ?_))
      obtain ⟨rfl, hq⟩ := hq
      rw [hq]
      change Zn _ _ _ _ _ _ _ _ _ _ _ [.int (zg s2 27 (a5 * 6 + 2)), .ref 3] _ _
      refine zn_ld rfl rfl rfl ?_
      replace h := h _ (i_add (x := zg s2 27 (a5 * 6 + 2)) (y := a8) rfl rfl)
      refine zn_c [.int ((zg s2 27 (a5 * 6 + 2)) + a8), .ref 3] xo_iadd rfl rfl ?_
      refine zn_c [.int 3, .int ((zg s2 27 (a5 * 6 + 2)) + a8), .ref 3] (xo_push (.int 3)) rfl rfl ?_
      refine zn_zt [.ref 3, .int ((zg s2 27 (a5 * 6 + 2)) + a8), .int 3] [] (c := []) rfl rfl rfl rfl rfl (Zt.imp (zp_42 hd (Or.inl rfl)) (fun vq sq hq => ?_))
      obtain ⟨rfl, hq⟩ := hq
      rw [hq]
      change Zn _ _ _ _ _ _ _ _ _ _ _ [.int (zg s2 33 (((zg s2 27 (a5 * 6 + 2)) + a8) * 5 + 3))] _ _
      refine zn_st [.ref 83, .int a1, .int a2, .int a3, .int a4, .int a5, .int a6, .int a7, .int a8, .int (s.1 75 3), .int (zg s2 33 (((zg s2 27 (a5 * 6 + 2)) + a8) * 5 + 3)), .null, .null, .null, .null, .null] rfl rfl rfl ?_
      refine zn_ld rfl rfl rfl ?_
      refine zn_get (v := .ref 75) rfl (zv_R (a := 83) rfl rfl) ?_
      refine zn_ld rfl rfl rfl ?_
      refine zn_ld rfl rfl rfl ?_
      refine zn_get (v := .ref 75) rfl (zv_R (a := 83) rfl rfl) ?_
      refine zn_get (v := .ref 76) rfl (zv_R (a := 75) rfl rfl) ?_
      refine zn_zt [.ref 75, .int (zg s2 33 (((zg s2 27 (a5 * 6 + 2)) + a8) * 5 + 3)), .ref 76] [] rfl rfl rfl rfl rfl (Zt.imp h (fun v6 s7 h => ?_))
      obtain ⟨x8, rfl, h⟩ := h
      change Zn _ _ _ _ _ _ _ _ _ _ _ [.int x8] _ _
      refine zn_st [.ref 83, .int a1, .int a2, .int a3, .int a4, .int a5, .int a6, .int a7, .int a8, .int (s.1 75 3), .int (zg s2 33 (((zg s2 27 (a5 * 6 + 2)) + a8) * 5 + 3)), .int x8, .null, .null, .null, .null] rfl rfl rfl ?_
      refine zn_ld rfl rfl rfl ?_
      refine zn_brP rfl rfl ⟨fun hcn => ?_, fun hcn => ?_⟩
      · replace h := h.1 ((i_le (x := 0) (y := x8) (show (0 : Int32).toInt = 0 by decide) rfl).mp hcn)
        refine zn_ld rfl rfl rfl ?_
        refine zn_get (v := .ref 75) rfl (zv_R (a := 83) rfl rfl) ?_
        refine zn_ld rfl rfl rfl ?_
        refine zn_ld rfl rfl rfl ?_
        refine zn_zt [.ref 75, .int a7, .int x8] [] rfl rfl rfl rfl rfl (Zt.imp h (fun v9 s10 h => ?_))
        obtain ⟨x11, rfl, h⟩ := h
        change Zn _ _ _ _ _ _ _ _ _ _ _ [.int x11] _ _
        exact m_135A_95_3 hd r2 r7 r44 h
      · replace h := h.2 (fun q => hcn ((i_le (x := 0) (y := x8) (show (0 : Int32).toInt = 0 by decide) rfl).mpr q))
        refine zn_c [.int 9] (xo_push (.int 9)) rfl rfl ?_
        refine zn_go rfl ?_
        exact m_135A_95_3 hd r2 r7 r44 h
theorem ml_135A_44_3 {d d0 : Nat} (hd : d = d0 + 8) {R2 : Int32 → Int32 → Int32 → zS → Prop} {R7 : Int32 → Int32 → Int32 → Int32 → zS → Prop} {a1 : Int32} {a2 : Int32} {a3 : Int32} {a4 : Int32} {a5 : Int32} {a6 : Int32} {a7 : Int32} {a8 : Int32} {s : zS} {Q : Option Value → zS → Prop} (r2 : ∀ a1 a2 a3 s, R2 a1 a2 a3 s → Zn d [] [(3, 98)] ([(83, 1, 3), (83, 2, 86), (75, 0, 3), (75, 1, 21), (75, 2, 25)] : zW) ([(83, 1, 3), (83, 2, 86), (75, 0, 3), (75, 1, 21), (75, 2, 25)] : zW) xL_10 13 (none) xE_135 (xE_135.drop 2) [.ref 83, .int a1, .int a2, .int a3, .null, .null, .null, .null, .null, .null, .null, .null, .null, .null, .null, .null] [] s Q) (r7 : ∀ a1 a2 a3 a4 s, R7 a1 a2 a3 a4 s → Zn d [] [(3, 98)] ([(83, 1, 3), (83, 2, 86), (75, 0, 3), (75, 1, 21), (75, 2, 25)] : zW) ([(83, 1, 3), (83, 2, 86), (75, 0, 3), (75, 1, 21), (75, 2, 25)] : zW) xL_10 13 (none) xE_135 (xE_135.drop 7) [.ref 83, .int a1, .int a2, .int a3, .int a4, .null, .null, .null, .null, .null, .null, .null, .null, .null, .null, .null] [] s Q) (h : vl_135A_44 (fun j => Zt d (wd3 3 j) j) 3 R2 R7 a1 a2 a3 a4 a5 a6 a7 a8 s Q) : Zn d [] [(3, 98)] ([(83, 1, 3), (83, 2, 86), (75, 0, 3), (75, 1, 21), (75, 2, 25)] : zW) ([(83, 1, 3), (83, 2, 86), (75, 0, 3), (75, 1, 21), (75, 2, 25)] : zW) xL_10 13 (none) xE_135 (xE_135.drop 44) [.ref 83, .int a1, .int a2, .int a3, .int a4, .int a5, .int a6, .int a7, .int a8, .null, .null, .null, .null, .null, .null, .null] [] s Q := by
  obtain ⟨I, μ, h0, h1⟩ := h
  have key : ∀ (n : Nat) (a1 : Int32) (a2 : Int32) (a3 : Int32) (a4 : Int32) (a5 : Int32) (a6 : Int32) (a7 : Int32) (a8 : Int32) (s : zS), μ a1 a2 a3 a4 a5 a6 a7 a8 s = n → I a1 a2 a3 a4 a5 a6 a7 a8 s → Zn d [] [(3, 98)] ([(83, 1, 3), (83, 2, 86), (75, 0, 3), (75, 1, 21), (75, 2, 25)] : zW) ([(83, 1, 3), (83, 2, 86), (75, 0, 3), (75, 1, 21), (75, 2, 25)] : zW) xL_10 13 (none) xE_135 (xE_135.drop 44) [.ref 83, .int a1, .int a2, .int a3, .int a4, .int a5, .int a6, .int a7, .int a8, .null, .null, .null, .null, .null, .null, .null] [] s Q := by
    intro n
    induction n using Nat.strongRecOn with
    | ind n ih =>
      intro a1 a2 a3 a4 a5 a6 a7 a8 s e hI
      exact m_135A_44_3 hd r2 r7 (fun a1' a2' a3' a4' a5' a6' a7' a8' s' q => ih _ (by rw [← e]; exact q.2) a1' a2' a3' a4' a5' a6' a7' a8' s' rfl q.1) (h1 a1 a2 a3 a4 a5 a6 a7 a8 s hI)
  exact key _ a1 a2 a3 a4 a5 a6 a7 a8 s rfl h0
set_option maxRecDepth 20000 in
theorem m_135A_37_3 {d d0 : Nat} (hd : d = d0 + 8) {R2 : Int32 → Int32 → Int32 → zS → Prop} {R7 : Int32 → Int32 → Int32 → Int32 → zS → Prop} {a1 : Int32} {a2 : Int32} {a3 : Int32} {a4 : Int32} {a5 : Int32} {t0 : Int32} {s : zS} {Q : Option Value → zS → Prop} (r2 : ∀ a1 a2 a3 s, R2 a1 a2 a3 s → Zn d [] [(3, 98)] ([(83, 1, 3), (83, 2, 86), (75, 0, 3), (75, 1, 21), (75, 2, 25)] : zW) ([(83, 1, 3), (83, 2, 86), (75, 0, 3), (75, 1, 21), (75, 2, 25)] : zW) xL_10 13 (none) xE_135 (xE_135.drop 2) [.ref 83, .int a1, .int a2, .int a3, .null, .null, .null, .null, .null, .null, .null, .null, .null, .null, .null, .null] [] s Q) (r7 : ∀ a1 a2 a3 a4 s, R7 a1 a2 a3 a4 s → Zn d [] [(3, 98)] ([(83, 1, 3), (83, 2, 86), (75, 0, 3), (75, 1, 21), (75, 2, 25)] : zW) ([(83, 1, 3), (83, 2, 86), (75, 0, 3), (75, 1, 21), (75, 2, 25)] : zW) xL_10 13 (none) xE_135 (xE_135.drop 7) [.ref 83, .int a1, .int a2, .int a3, .int a4, .null, .null, .null, .null, .null, .null, .null, .null, .null, .null, .null] [] s Q) (h : v_135A_37 (fun j => Zt d (wd3 3 j) j) 3 R2 R7 a1 a2 a3 a4 a5 t0 s Q) : Zn d [] [(3, 98)] ([(83, 1, 3), (83, 2, 86), (75, 0, 3), (75, 1, 21), (75, 2, 25)] : zW) ([(83, 1, 3), (83, 2, 86), (75, 0, 3), (75, 1, 21), (75, 2, 25)] : zW) xL_10 13 (none) xE_135 (xE_135.drop 37) [.ref 83, .int a1, .int a2, .int a3, .int a4, .int a5, .null, .null, .null, .null, .null, .null, .null, .null, .null, .null] [.int t0] s Q := by
  unfold v_135A_37 at h
  refine zn_st [.ref 83, .int a1, .int a2, .int a3, .int a4, .int a5, .int t0, .null, .null, .null, .null, .null, .null, .null, .null, .null] rfl rfl rfl ?_
  refine zn_ld rfl rfl rfl ?_
  refine zn_c [.int 1, .int a4] (xo_push (.int 1)) rfl rfl ?_
  replace h := h _ (i_add (x := a4) (y := 1) rfl (show (1 : Int32).toInt = 1 by decide))
  refine zn_c [.int (a4 + 1)] xo_iadd rfl rfl ?_
  refine zn_st [.ref 83, .int a1, .int a2, .int a3, .int a4, .int a5, .int t0, .int (a4 + 1), .null, .null, .null, .null, .null, .null, .null, .null] rfl rfl rfl ?_
  refine zn_c [.int 0] (xo_push (.int 0)) rfl rfl ?_
  refine zn_st [.ref 83, .int a1, .int a2, .int a3, .int a4, .int a5, .int t0, .int (a4 + 1), .int 0, .null, .null, .null, .null, .null, .null, .null] rfl rfl rfl ?_
  exact ml_135A_44_3 hd r2 r7 h
set_option maxRecDepth 20000 in
theorem m_135A_36_3 {d d0 : Nat} (hd : d = d0 + 8) {R2 : Int32 → Int32 → Int32 → zS → Prop} {R7 : Int32 → Int32 → Int32 → Int32 → zS → Prop} {a1 : Int32} {a2 : Int32} {a3 : Int32} {a4 : Int32} {a5 : Int32} {s : zS} {Q : Option Value → zS → Prop} (r2 : ∀ a1 a2 a3 s, R2 a1 a2 a3 s → Zn d [] [(3, 98)] ([(83, 1, 3), (83, 2, 86), (75, 0, 3), (75, 1, 21), (75, 2, 25)] : zW) ([(83, 1, 3), (83, 2, 86), (75, 0, 3), (75, 1, 21), (75, 2, 25)] : zW) xL_10 13 (none) xE_135 (xE_135.drop 2) [.ref 83, .int a1, .int a2, .int a3, .null, .null, .null, .null, .null, .null, .null, .null, .null, .null, .null, .null] [] s Q) (r7 : ∀ a1 a2 a3 a4 s, R7 a1 a2 a3 a4 s → Zn d [] [(3, 98)] ([(83, 1, 3), (83, 2, 86), (75, 0, 3), (75, 1, 21), (75, 2, 25)] : zW) ([(83, 1, 3), (83, 2, 86), (75, 0, 3), (75, 1, 21), (75, 2, 25)] : zW) xL_10 13 (none) xE_135 (xE_135.drop 7) [.ref 83, .int a1, .int a2, .int a3, .int a4, .null, .null, .null, .null, .null, .null, .null, .null, .null, .null, .null] [] s Q) (h : v_135A_36 (fun j => Zt d (wd3 3 j) j) 3 R2 R7 a1 a2 a3 a4 a5 s Q) : Zn d [] [(3, 98)] ([(83, 1, 3), (83, 2, 86), (75, 0, 3), (75, 1, 21), (75, 2, 25)] : zW) ([(83, 1, 3), (83, 2, 86), (75, 0, 3), (75, 1, 21), (75, 2, 25)] : zW) xL_10 13 (none) xE_135 (xE_135.drop 36) [.ref 83, .int a1, .int a2, .int a3, .int a4, .int a5, .null, .null, .null, .null, .null, .null, .null, .null, .null, .null] [] s Q := by
  unfold v_135A_36 at h
  refine zn_c [.int 0] (xo_push (.int 0)) rfl rfl ?_
  exact m_135A_37_3 hd r2 r7 h
set_option maxRecDepth 20000 in
theorem m_135A_7_3 {d d0 : Nat} (hd : d = d0 + 8) {R2 : Int32 → Int32 → Int32 → zS → Prop} {R7 : Int32 → Int32 → Int32 → Int32 → zS → Prop} {a1 : Int32} {a2 : Int32} {a3 : Int32} {a4 : Int32} {s : zS} {Q : Option Value → zS → Prop} (r2 : ∀ a1 a2 a3 s, R2 a1 a2 a3 s → Zn d [] [(3, 98)] ([(83, 1, 3), (83, 2, 86), (75, 0, 3), (75, 1, 21), (75, 2, 25)] : zW) ([(83, 1, 3), (83, 2, 86), (75, 0, 3), (75, 1, 21), (75, 2, 25)] : zW) xL_10 13 (none) xE_135 (xE_135.drop 2) [.ref 83, .int a1, .int a2, .int a3, .null, .null, .null, .null, .null, .null, .null, .null, .null, .null, .null, .null] [] s Q) (r7 : ∀ a1 a2 a3 a4 s, R7 a1 a2 a3 a4 s → Zn d [] [(3, 98)] ([(83, 1, 3), (83, 2, 86), (75, 0, 3), (75, 1, 21), (75, 2, 25)] : zW) ([(83, 1, 3), (83, 2, 86), (75, 0, 3), (75, 1, 21), (75, 2, 25)] : zW) xL_10 13 (none) xE_135 (xE_135.drop 7) [.ref 83, .int a1, .int a2, .int a3, .int a4, .null, .null, .null, .null, .null, .null, .null, .null, .null, .null, .null] [] s Q) (h : v_135A_7 (fun j => Zt d (wd3 3 j) j) 3 R2 R7 a1 a2 a3 a4 s Q) : Zn d [] [(3, 98)] ([(83, 1, 3), (83, 2, 86), (75, 0, 3), (75, 1, 21), (75, 2, 25)] : zW) ([(83, 1, 3), (83, 2, 86), (75, 0, 3), (75, 1, 21), (75, 2, 25)] : zW) xL_10 13 (none) xE_135 (xE_135.drop 7) [.ref 83, .int a1, .int a2, .int a3, .int a4, .null, .null, .null, .null, .null, .null, .null, .null, .null, .null, .null] [] s Q := by
  unfold v_135A_7 at h
  refine zn_ld rfl rfl rfl ?_
  refine zn_ld rfl rfl rfl ?_
  refine zn_brP rfl rfl ⟨fun hcn => ?_, fun hcn => ?_⟩
  · replace h := h.1 ((i_lt (x := a4) (y := a1) rfl rfl).mp hcn)
    exact m_135A_120_3 hd r2 h
  · replace h := h.2 (fun q => hcn ((i_lt (x := a4) (y := a1) rfl rfl).mpr q))
    refine zn_ld rfl rfl rfl ?_
    refine zn_get (v := .ref 3) rfl (zv_C (a := 83) (n := 0) rfl rfl rfl) ?_
    refine zn_get (v := .int (s.1 3 14)) rfl (zv_I (a := 3) rfl rfl) ?_
    refine zn_brN rfl rfl ⟨fun hcn => ?_, fun hcn => ?_⟩
    · replace h := h.1 (fun q => hcn ((i_eq (x := s.1 3 14) (y := 0) rfl (show (0 : Int32).toInt = 0 by decide)).mpr q))
      exact m_135A_120_3 hd r2 h
    · replace h := h.2 ((i_eq (x := s.1 3 14) (y := 0) rfl (show (0 : Int32).toInt = 0 by decide)).mp hcn)
      refine zn_ld rfl rfl rfl ?_
      refine zn_get (v := .ref 3) rfl (zv_C (a := 83) (n := 0) rfl rfl rfl) ?_
      refine zn_get (v := .ref 21) rfl (zv_R (a := 3) rfl rfl) ?_
      refine zn_ld rfl rfl rfl ?_
      refine zn_row a4 [] (a := 21) hd rfl rfl rfl rfl ?_
      change Zn _ _ _ _ _ _ _ _ _ _ _ [.int (zg s 21 a4)] _ _
      refine zn_st [.ref 83, .int a1, .int a2, .int a3, .int a4, .int (zg s 21 a4), .null, .null, .null, .null, .null, .null, .null, .null, .null, .null] rfl rfl rfl ?_
      refine zn_ld rfl rfl rfl ?_
      refine zn_get (v := .ref 3) rfl (zv_C (a := 83) (n := 0) rfl rfl rfl) ?_
      refine zn_get (v := .ref 25) rfl (zv_R (a := 3) rfl rfl) ?_
      refine zn_ld rfl rfl rfl ?_
      refine zn_row (zg s 21 a4) [] (a := 25) hd rfl rfl rfl rfl ?_
      change Zn _ _ _ _ _ _ _ _ _ _ _ [.int (zg s 25 (zg s 21 a4))] _ _
      refine zn_brP rfl rfl ⟨fun hcn => ?_, fun hcn => ?_⟩
      · replace h := h.1 ((i_le (x := zg s 25 (zg s 21 a4)) (y := 0) rfl (show (0 : Int32).toInt = 0 by decide)).mp hcn)
        exact m_135A_36_3 hd r2 r7 h
      · replace h := h.2 (fun q => hcn ((i_le (x := zg s 25 (zg s 21 a4)) (y := 0) rfl (show (0 : Int32).toInt = 0 by decide)).mpr q))
        refine zn_ld rfl rfl rfl ?_
        refine zn_get (v := .ref 75) rfl (zv_R (a := 83) rfl rfl) ?_
        refine zn_ld rfl rfl rfl ?_
        refine zn_zt [.ref 75, .int a4] [] rfl rfl rfl rfl rfl (Zt.imp h (fun v1 s2 h => ?_))
        obtain ⟨x3, rfl, h⟩ := h
        change Zn _ _ _ _ _ _ _ _ _ _ _ [.int x3] _ _
        refine zn_ld rfl rfl rfl ?_
        refine zn_c [.int 1, .int a3, .int x3] (xo_push (.int 1)) rfl rfl ?_
        replace h := h _ (i_add (x := a3) (y := 1) rfl (show (1 : Int32).toInt = 1 by decide))
        refine zn_c [.int (a3 + 1), .int x3] xo_iadd rfl rfl ?_
        refine zn_brN rfl rfl ⟨fun hcn => ?_, fun hcn => ?_⟩
        · replace h := h.1 (fun q => hcn ((i_eq (x := x3) (y := (a3 + 1)) rfl rfl).mpr q))
          exact m_135A_36_3 hd r2 r7 h
        · replace h := h.2 ((i_eq (x := x3) (y := (a3 + 1)) rfl rfl).mp hcn)
          refine zn_c [.int 1] (xo_push (.int 1)) rfl rfl ?_
          refine zn_go rfl ?_
          exact m_135A_37_3 hd r2 r7 h
theorem ml_135A_7_3 {d d0 : Nat} (hd : d = d0 + 8) {R2 : Int32 → Int32 → Int32 → zS → Prop} {a1 : Int32} {a2 : Int32} {a3 : Int32} {a4 : Int32} {s : zS} {Q : Option Value → zS → Prop} (r2 : ∀ a1 a2 a3 s, R2 a1 a2 a3 s → Zn d [] [(3, 98)] ([(83, 1, 3), (83, 2, 86), (75, 0, 3), (75, 1, 21), (75, 2, 25)] : zW) ([(83, 1, 3), (83, 2, 86), (75, 0, 3), (75, 1, 21), (75, 2, 25)] : zW) xL_10 13 (none) xE_135 (xE_135.drop 2) [.ref 83, .int a1, .int a2, .int a3, .null, .null, .null, .null, .null, .null, .null, .null, .null, .null, .null, .null] [] s Q) (h : vl_135A_7 (fun j => Zt d (wd3 3 j) j) 3 R2 a1 a2 a3 a4 s Q) : Zn d [] [(3, 98)] ([(83, 1, 3), (83, 2, 86), (75, 0, 3), (75, 1, 21), (75, 2, 25)] : zW) ([(83, 1, 3), (83, 2, 86), (75, 0, 3), (75, 1, 21), (75, 2, 25)] : zW) xL_10 13 (none) xE_135 (xE_135.drop 7) [.ref 83, .int a1, .int a2, .int a3, .int a4, .null, .null, .null, .null, .null, .null, .null, .null, .null, .null, .null] [] s Q := by
  obtain ⟨I, μ, h0, h1⟩ := h
  have key : ∀ (n : Nat) (a1 : Int32) (a2 : Int32) (a3 : Int32) (a4 : Int32) (s : zS), μ a1 a2 a3 a4 s = n → I a1 a2 a3 a4 s → Zn d [] [(3, 98)] ([(83, 1, 3), (83, 2, 86), (75, 0, 3), (75, 1, 21), (75, 2, 25)] : zW) ([(83, 1, 3), (83, 2, 86), (75, 0, 3), (75, 1, 21), (75, 2, 25)] : zW) xL_10 13 (none) xE_135 (xE_135.drop 7) [.ref 83, .int a1, .int a2, .int a3, .int a4, .null, .null, .null, .null, .null, .null, .null, .null, .null, .null, .null] [] s Q := by
    intro n
    induction n using Nat.strongRecOn with
    | ind n ih =>
      intro a1 a2 a3 a4 s e hI
      exact m_135A_7_3 hd r2 (fun a1' a2' a3' a4' s' q => ih _ (by rw [← e]; exact q.2) a1' a2' a3' a4' s' rfl q.1) (h1 a1 a2 a3 a4 s hI)
  exact key _ a1 a2 a3 a4 s rfl h0
set_option maxRecDepth 20000 in
theorem m_135A_2_3 {d d0 : Nat} (hd : d = d0 + 8) {R2 : Int32 → Int32 → Int32 → zS → Prop} {a1 : Int32} {a2 : Int32} {a3 : Int32} {s : zS} {Q : Option Value → zS → Prop} (r2 : ∀ a1 a2 a3 s, R2 a1 a2 a3 s → Zn d [] [(3, 98)] ([(83, 1, 3), (83, 2, 86), (75, 0, 3), (75, 1, 21), (75, 2, 25)] : zW) ([(83, 1, 3), (83, 2, 86), (75, 0, 3), (75, 1, 21), (75, 2, 25)] : zW) xL_10 13 (none) xE_135 (xE_135.drop 2) [.ref 83, .int a1, .int a2, .int a3, .null, .null, .null, .null, .null, .null, .null, .null, .null, .null, .null, .null] [] s Q) (h : v_135A_2 (fun j => Zt d (wd3 3 j) j) 3 R2 a1 a2 a3 s Q) : Zn d [] [(3, 98)] ([(83, 1, 3), (83, 2, 86), (75, 0, 3), (75, 1, 21), (75, 2, 25)] : zW) ([(83, 1, 3), (83, 2, 86), (75, 0, 3), (75, 1, 21), (75, 2, 25)] : zW) xL_10 13 (none) xE_135 (xE_135.drop 2) [.ref 83, .int a1, .int a2, .int a3, .null, .null, .null, .null, .null, .null, .null, .null, .null, .null, .null, .null] [] s Q := by
  unfold v_135A_2 at h
  refine zn_ld rfl rfl rfl ?_
  refine zn_ld rfl rfl rfl ?_
  refine zn_brP rfl rfl ⟨fun hcn => ?_, fun hcn => ?_⟩
  · replace h := h.1 ((i_le (x := a2) (y := a3) rfl rfl).mp hcn)
    exact zn_ret0 rfl h
  · replace h := h.2 (fun q => hcn ((i_le (x := a2) (y := a3) rfl rfl).mpr q))
    refine zn_ld rfl rfl rfl ?_
    refine zn_st [.ref 83, .int a1, .int a2, .int a3, .int a3, .null, .null, .null, .null, .null, .null, .null, .null, .null, .null, .null] rfl rfl rfl ?_
    exact ml_135A_7_3 hd r2 h
theorem ml_135A_2_3 {d d0 : Nat} (hd : d = d0 + 8)  {a1 : Int32} {a2 : Int32} {a3 : Int32} {s : zS} {Q : Option Value → zS → Prop}  (h : vl_135A_2 (fun j => Zt d (wd3 3 j) j) 3  a1 a2 a3 s Q) : Zn d [] [(3, 98)] ([(83, 1, 3), (83, 2, 86), (75, 0, 3), (75, 1, 21), (75, 2, 25)] : zW) ([(83, 1, 3), (83, 2, 86), (75, 0, 3), (75, 1, 21), (75, 2, 25)] : zW) xL_10 13 (none) xE_135 (xE_135.drop 2) [.ref 83, .int a1, .int a2, .int a3, .null, .null, .null, .null, .null, .null, .null, .null, .null, .null, .null, .null] [] s Q := by
  obtain ⟨I, μ, h0, h1⟩ := h
  have key : ∀ (n : Nat) (a1 : Int32) (a2 : Int32) (a3 : Int32) (s : zS), μ a1 a2 a3 s = n → I a1 a2 a3 s → Zn d [] [(3, 98)] ([(83, 1, 3), (83, 2, 86), (75, 0, 3), (75, 1, 21), (75, 2, 25)] : zW) ([(83, 1, 3), (83, 2, 86), (75, 0, 3), (75, 1, 21), (75, 2, 25)] : zW) xL_10 13 (none) xE_135 (xE_135.drop 2) [.ref 83, .int a1, .int a2, .int a3, .null, .null, .null, .null, .null, .null, .null, .null, .null, .null, .null, .null] [] s Q := by
    intro n
    induction n using Nat.strongRecOn with
    | ind n ih =>
      intro a1 a2 a3 s e hI
      exact m_135A_2_3 hd (fun a1' a2' a3' s' q => ih _ (by rw [← e]; exact q.2) a1' a2' a3' s' rfl q.1) (h1 a1 a2 a3 s hI)
  exact key _ a1 a2 a3 s rfl h0
set_option maxRecDepth 20000 in
theorem m_135A_0_3 {d d0 : Nat} (hd : d = d0 + 8)  {a1 : Int32} {a2 : Int32} {s : zS} {Q : Option Value → zS → Prop}  (h : v_135A_0 (fun j => Zt d (wd3 3 j) j) 3  a1 a2 s Q) : Zn d [] [(3, 98)] ([(83, 1, 3), (83, 2, 86), (75, 0, 3), (75, 1, 21), (75, 2, 25)] : zW) ([(83, 1, 3), (83, 2, 86), (75, 0, 3), (75, 1, 21), (75, 2, 25)] : zW) xL_10 13 (none) xE_135 (xE_135.drop 0) [.ref 83, .int a1, .int a2, .null, .null, .null, .null, .null, .null, .null, .null, .null, .null, .null, .null, .null] [] s Q := by
  unfold v_135A_0 at h
  refine zn_ld rfl rfl rfl ?_
  refine zn_st [.ref 83, .int a1, .int a2, .int a1, .null, .null, .null, .null, .null, .null, .null, .null, .null, .null, .null, .null] rfl rfl rfl ?_
  exact ml_135A_2_3 hd  h
theorem zq_135A_3 {d : Nat} {a1 : Int32} {a2 : Int32} {s : zS} {Q : Option Value → zS → Prop} (h : v_135A_0 (fun j => Zt (d + 8) (wd3 3 j) j) 3 a1 a2 s Q) : Zt (d + 9) ([(83, 1, 3), (83, 2, 86), (75, 0, 3), (75, 1, 21), (75, 2, 25)] : zW) 135 [.ref 83, .int a1, .int a2] s Q := zt_of (E := xE_135) (L := xL_10) (ml := 13) (ret := none) rfl rfl rfl (m_135A_0_3 rfl h)
set_option maxRecDepth 20000 in
theorem m_135A_120_39 {d d0 : Nat} (hd : d = d0 + 8) {R2 : Int32 → Int32 → Int32 → zS → Prop} {a1 : Int32} {a2 : Int32} {a3 : Int32} {a4 : Int32} {s : zS} {Q : Option Value → zS → Prop} (r2 : ∀ a1 a2 a3 s, R2 a1 a2 a3 s → Zn d [] [(39, 98)] ([(83, 1, 39), (83, 2, 86), (75, 0, 39), (75, 1, 57), (75, 2, 61)] : zW) ([(83, 1, 39), (83, 2, 86), (75, 0, 39), (75, 1, 57), (75, 2, 61)] : zW) xL_10 13 (none) xE_135 (xE_135.drop 2) [.ref 83, .int a1, .int a2, .int a3, .null, .null, .null, .null, .null, .null, .null, .null, .null, .null, .null, .null] [] s Q) (h : v_135A_120 (fun j => Zt d (wd3 39 j) j) 39 R2 a1 a2 a3 a4 s Q) : Zn d [] [(39, 98)] ([(83, 1, 39), (83, 2, 86), (75, 0, 39), (75, 1, 57), (75, 2, 61)] : zW) ([(83, 1, 39), (83, 2, 86), (75, 0, 39), (75, 1, 57), (75, 2, 61)] : zW) xL_10 13 (none) xE_135 (xE_135.drop 120) [.ref 83, .int a1, .int a2, .int a3, .int a4, .null, .null, .null, .null, .null, .null, .null, .null, .null, .null, .null] [] s Q := by
  unfold v_135A_120 at h
  replace h := h _ (i_add (x := a3) (y := 1) rfl (show (1 : Int32).toInt = 1 by decide))
  refine zn_inc [.ref 83, .int a1, .int a2, .int (a3 + 1), .int a4, .null, .null, .null, .null, .null, .null, .null, .null, .null, .null, .null] rfl rfl rfl rfl ?_
  refine zn_go rfl ?_
  refine zn_fg 4 ?_
  exact r2 a1 a2 (a3 + 1) s h
set_option maxRecDepth 20000 in
theorem m_135A_118_39 {d d0 : Nat} (hd : d = d0 + 8) {R2 : Int32 → Int32 → Int32 → zS → Prop} {R7 : Int32 → Int32 → Int32 → Int32 → zS → Prop} {a1 : Int32} {a2 : Int32} {a3 : Int32} {a4 : Int32} {a5 : Int32} {a6 : Int32} {a7 : Int32} {a8 : Int32} {s : zS} {Q : Option Value → zS → Prop} (r2 : ∀ a1 a2 a3 s, R2 a1 a2 a3 s → Zn d [] [(39, 98)] ([(83, 1, 39), (83, 2, 86), (75, 0, 39), (75, 1, 57), (75, 2, 61)] : zW) ([(83, 1, 39), (83, 2, 86), (75, 0, 39), (75, 1, 57), (75, 2, 61)] : zW) xL_10 13 (none) xE_135 (xE_135.drop 2) [.ref 83, .int a1, .int a2, .int a3, .null, .null, .null, .null, .null, .null, .null, .null, .null, .null, .null, .null] [] s Q) (r7 : ∀ a1 a2 a3 a4 s, R7 a1 a2 a3 a4 s → Zn d [] [(39, 98)] ([(83, 1, 39), (83, 2, 86), (75, 0, 39), (75, 1, 57), (75, 2, 61)] : zW) ([(83, 1, 39), (83, 2, 86), (75, 0, 39), (75, 1, 57), (75, 2, 61)] : zW) xL_10 13 (none) xE_135 (xE_135.drop 7) [.ref 83, .int a1, .int a2, .int a3, .int a4, .null, .null, .null, .null, .null, .null, .null, .null, .null, .null, .null] [] s Q) (h : v_135A_118 (fun j => Zt d (wd3 39 j) j) 39 R2 R7 a1 a2 a3 a4 a5 a6 a7 a8 s Q) : Zn d [] [(39, 98)] ([(83, 1, 39), (83, 2, 86), (75, 0, 39), (75, 1, 57), (75, 2, 61)] : zW) ([(83, 1, 39), (83, 2, 86), (75, 0, 39), (75, 1, 57), (75, 2, 61)] : zW) xL_10 13 (none) xE_135 (xE_135.drop 118) [.ref 83, .int a1, .int a2, .int a3, .int a4, .int a5, .int a6, .int a7, .int a8, .null, .null, .null, .null, .null, .null, .null] [] s Q := by
  unfold v_135A_118 at h
  replace h := h _ (i_add (x := a4) (y := (-1)) rfl (show ((-1) : Int32).toInt = (-1) by decide))
  refine zn_inc [.ref 83, .int a1, .int a2, .int a3, .int (a4 + (-1)), .int a5, .int a6, .int a7, .int a8, .null, .null, .null, .null, .null, .null, .null] rfl rfl rfl rfl ?_
  refine zn_go rfl ?_
  refine zn_fg 5 ?_
  refine zn_fg 6 ?_
  refine zn_fg 7 ?_
  refine zn_fg 8 ?_
  exact r7 a1 a2 a3 (a4 + (-1)) s h
set_option maxRecDepth 20000 in
theorem m_135A_95_39 {d d0 : Nat} (hd : d = d0 + 8) {R2 : Int32 → Int32 → Int32 → zS → Prop} {R7 : Int32 → Int32 → Int32 → Int32 → zS → Prop} {R44 : Int32 → Int32 → Int32 → Int32 → Int32 → Int32 → Int32 → Int32 → zS → Prop} {a1 : Int32} {a2 : Int32} {a3 : Int32} {a4 : Int32} {a5 : Int32} {a6 : Int32} {a7 : Int32} {a8 : Int32} {a9 : Int32} {a10 : Int32} {a11 : Int32} {t0 : Int32} {s : zS} {Q : Option Value → zS → Prop} (r2 : ∀ a1 a2 a3 s, R2 a1 a2 a3 s → Zn d [] [(39, 98)] ([(83, 1, 39), (83, 2, 86), (75, 0, 39), (75, 1, 57), (75, 2, 61)] : zW) ([(83, 1, 39), (83, 2, 86), (75, 0, 39), (75, 1, 57), (75, 2, 61)] : zW) xL_10 13 (none) xE_135 (xE_135.drop 2) [.ref 83, .int a1, .int a2, .int a3, .null, .null, .null, .null, .null, .null, .null, .null, .null, .null, .null, .null] [] s Q) (r7 : ∀ a1 a2 a3 a4 s, R7 a1 a2 a3 a4 s → Zn d [] [(39, 98)] ([(83, 1, 39), (83, 2, 86), (75, 0, 39), (75, 1, 57), (75, 2, 61)] : zW) ([(83, 1, 39), (83, 2, 86), (75, 0, 39), (75, 1, 57), (75, 2, 61)] : zW) xL_10 13 (none) xE_135 (xE_135.drop 7) [.ref 83, .int a1, .int a2, .int a3, .int a4, .null, .null, .null, .null, .null, .null, .null, .null, .null, .null, .null] [] s Q) (r44 : ∀ a1 a2 a3 a4 a5 a6 a7 a8 s, R44 a1 a2 a3 a4 a5 a6 a7 a8 s → Zn d [] [(39, 98)] ([(83, 1, 39), (83, 2, 86), (75, 0, 39), (75, 1, 57), (75, 2, 61)] : zW) ([(83, 1, 39), (83, 2, 86), (75, 0, 39), (75, 1, 57), (75, 2, 61)] : zW) xL_10 13 (none) xE_135 (xE_135.drop 44) [.ref 83, .int a1, .int a2, .int a3, .int a4, .int a5, .int a6, .int a7, .int a8, .null, .null, .null, .null, .null, .null, .null] [] s Q) (h : v_135A_95 (fun j => Zt d (wd3 39 j) j) 39 R2 R7 R44 a1 a2 a3 a4 a5 a6 a7 a8 a9 a10 a11 t0 s Q) : Zn d [] [(39, 98)] ([(83, 1, 39), (83, 2, 86), (75, 0, 39), (75, 1, 57), (75, 2, 61)] : zW) ([(83, 1, 39), (83, 2, 86), (75, 0, 39), (75, 1, 57), (75, 2, 61)] : zW) xL_10 13 (none) xE_135 (xE_135.drop 95) [.ref 83, .int a1, .int a2, .int a3, .int a4, .int a5, .int a6, .int a7, .int a8, .int a9, .int a10, .int a11, .null, .null, .null, .null] [.int t0] s Q := by
  unfold v_135A_95 at h
  refine zn_st [.ref 83, .int a1, .int a2, .int a3, .int a4, .int a5, .int a6, .int a7, .int a8, .int a9, .int a10, .int a11, .int t0, .null, .null, .null] rfl rfl rfl ?_
  refine zn_ld rfl rfl rfl ?_
  refine zn_get (v := .ref 39) rfl (zv_C (a := 83) (n := 0) rfl rfl rfl) ?_
  refine zn_ld rfl rfl rfl ?_
  refine zn_ld rfl rfl rfl ?_
  refine zn_get (v := .ref 39) rfl (zv_C (a := 83) (n := 0) rfl rfl rfl) ?_
  refine zn_get (v := .ref 59) rfl (zv_R (a := 39) rfl rfl) ?_
  refine zn_ld rfl rfl rfl ?_
  refine zn_c [.int 18738, .int a7, .ref 59, .int t0, .ref 39] (xo_push (.int 18738)) rfl rfl ?_
  replace h := h _ (i_sub (x := a7) (y := 18738) rfl (show (18738 : Int32).toInt = 18738 by decide))
  refine zn_c [.int (a7 - 18738), .ref 59, .int t0, .ref 39] xo_isub rfl rfl ?_
  refine zn_row (a7 - 18738) [.int t0, .ref 39] (a := 59) hd rfl rfl rfl rfl ?_
  change Zn _ _ _ _ _ _ _ _ _ _ _ [.int (zg s 59 (a7 - 18738)), .int t0, .ref 39] _ _
  refine zn_zt [.ref 39, .int t0, .int (zg s 59 (a7 - 18738))] [] rfl rfl rfl rfl rfl (Zt.imp h (fun v2 s3 h => ?_))
  obtain ⟨rfl, h⟩ := h
  change Zn _ _ _ _ _ _ _ _ _ _ _ [] _ _
  refine zn_ld rfl rfl rfl ?_
  refine zn_get (v := .ref 75) rfl (zv_R (a := 83) rfl rfl) ?_
  refine zn_ld rfl rfl rfl ?_
  refine zn_putI (a := 75) rfl rfl rfl rfl ⟨Int32.le_toInt _, Int.le_of_lt_add_one (Int32.toInt_lt _)⟩ rfl rfl rfl ?_
  replace h := h _ rfl
  refine zn_ld rfl rfl rfl ?_
  refine zn_get (v := .ref 75) rfl (zv_R (a := 83) rfl rfl) ?_
  refine zn_ld rfl rfl rfl ?_
  refine zn_zt [.ref 75, .int a7] [] rfl rfl rfl rfl rfl (Zt.imp h (fun v5 s6 h => ?_))
  obtain ⟨x7, rfl, h⟩ := h
  change Zn _ _ _ _ _ _ _ _ _ _ _ [.int x7] _ _
  refine zn_st [.ref 83, .int a1, .int a2, .int a3, .int a4, .int a5, .int a6, .int x7, .int a8, .int a9, .int a10, .int a11, .int t0, .null, .null, .null] rfl rfl rfl ?_
  replace h := h _ (i_add (x := a8) (y := 1) rfl (show (1 : Int32).toInt = 1 by decide))
  refine zn_inc [.ref 83, .int a1, .int a2, .int a3, .int a4, .int a5, .int a6, .int x7, .int (a8 + 1), .int a9, .int a10, .int a11, .int t0, .null, .null, .null] rfl rfl rfl rfl ?_
  refine zn_go rfl ?_
  refine zn_fg 9 ?_
  refine zn_fg 10 ?_
  refine zn_fg 11 ?_
  refine zn_fg 12 ?_
  exact r44 a1 a2 a3 a4 a5 a6 x7 (a8 + 1) s6 h
set_option maxRecDepth 20000 in
theorem m_135A_44_39 {d d0 : Nat} (hd : d = d0 + 8) {R2 : Int32 → Int32 → Int32 → zS → Prop} {R7 : Int32 → Int32 → Int32 → Int32 → zS → Prop} {R44 : Int32 → Int32 → Int32 → Int32 → Int32 → Int32 → Int32 → Int32 → zS → Prop} {a1 : Int32} {a2 : Int32} {a3 : Int32} {a4 : Int32} {a5 : Int32} {a6 : Int32} {a7 : Int32} {a8 : Int32} {s : zS} {Q : Option Value → zS → Prop} (r2 : ∀ a1 a2 a3 s, R2 a1 a2 a3 s → Zn d [] [(39, 98)] ([(83, 1, 39), (83, 2, 86), (75, 0, 39), (75, 1, 57), (75, 2, 61)] : zW) ([(83, 1, 39), (83, 2, 86), (75, 0, 39), (75, 1, 57), (75, 2, 61)] : zW) xL_10 13 (none) xE_135 (xE_135.drop 2) [.ref 83, .int a1, .int a2, .int a3, .null, .null, .null, .null, .null, .null, .null, .null, .null, .null, .null, .null] [] s Q) (r7 : ∀ a1 a2 a3 a4 s, R7 a1 a2 a3 a4 s → Zn d [] [(39, 98)] ([(83, 1, 39), (83, 2, 86), (75, 0, 39), (75, 1, 57), (75, 2, 61)] : zW) ([(83, 1, 39), (83, 2, 86), (75, 0, 39), (75, 1, 57), (75, 2, 61)] : zW) xL_10 13 (none) xE_135 (xE_135.drop 7) [.ref 83, .int a1, .int a2, .int a3, .int a4, .null, .null, .null, .null, .null, .null, .null, .null, .null, .null, .null] [] s Q) (r44 : ∀ a1 a2 a3 a4 a5 a6 a7 a8 s, R44 a1 a2 a3 a4 a5 a6 a7 a8 s → Zn d [] [(39, 98)] ([(83, 1, 39), (83, 2, 86), (75, 0, 39), (75, 1, 57), (75, 2, 61)] : zW) ([(83, 1, 39), (83, 2, 86), (75, 0, 39), (75, 1, 57), (75, 2, 61)] : zW) xL_10 13 (none) xE_135 (xE_135.drop 44) [.ref 83, .int a1, .int a2, .int a3, .int a4, .int a5, .int a6, .int a7, .int a8, .null, .null, .null, .null, .null, .null, .null] [] s Q) (h : v_135A_44 (fun j => Zt d (wd3 39 j) j) 39 R2 R7 R44 a1 a2 a3 a4 a5 a6 a7 a8 s Q) : Zn d [] [(39, 98)] ([(83, 1, 39), (83, 2, 86), (75, 0, 39), (75, 1, 57), (75, 2, 61)] : zW) ([(83, 1, 39), (83, 2, 86), (75, 0, 39), (75, 1, 57), (75, 2, 61)] : zW) xL_10 13 (none) xE_135 (xE_135.drop 44) [.ref 83, .int a1, .int a2, .int a3, .int a4, .int a5, .int a6, .int a7, .int a8, .null, .null, .null, .null, .null, .null, .null] [] s Q := by
  unfold v_135A_44 at h
  refine zn_ld rfl rfl rfl ?_
  refine zn_brP rfl rfl ⟨fun hcn => ?_, fun hcn => ?_⟩
  · replace h := h.1 ((i_eq (x := a6) (y := 0) rfl (show (0 : Int32).toInt = 0 by decide)).mp hcn)
    exact m_135A_118_39 hd r2 r7 h
  · replace h := h.2 (fun q => hcn ((i_eq (x := a6) (y := 0) rfl (show (0 : Int32).toInt = 0 by decide)).mpr q))
    refine zn_ld rfl rfl rfl ?_
    refine zn_ld rfl rfl rfl ?_
    refine zn_get (v := .ref 39) rfl (zv_C (a := 83) (n := 0) rfl rfl rfl) ?_
    refine zn_get (v := .ref 61) rfl (zv_R (a := 39) rfl rfl) ?_
    refine zn_ld rfl rfl rfl ?_
    refine zn_row a5 [.int a8] (a := 61) hd rfl rfl rfl rfl ?_
    change Zn _ _ _ _ _ _ _ _ _ _ _ [.int (zg s 61 a5), .int a8] _ _
    refine zn_brP rfl rfl ⟨fun hcn => ?_, fun hcn => ?_⟩
    · replace h := h.1 ((i_le (x := zg s 61 a5) (y := a8) rfl rfl).mp hcn)
      exact m_135A_118_39 hd r2 r7 h
    · replace h := h.2 (fun q => hcn ((i_le (x := zg s 61 a5) (y := a8) rfl rfl).mpr q))
      refine zn_ld rfl rfl rfl ?_
      refine zn_get (v := .ref 75) rfl (zv_R (a := 83) rfl rfl) ?_
      refine zn_get (v := .int (s.1 75 3)) rfl (zv_I (a := 75) rfl rfl) ?_
      refine zn_st [.ref 83, .int a1, .int a2, .int a3, .int a4, .int a5, .int a6, .int a7, .int a8, .int (s.1 75 3), .null, .null, .null, .null, .null, .null] rfl rfl rfl ?_
      refine zn_ld rfl rfl rfl ?_
      refine zn_get (v := .ref 75) rfl (zv_R (a := 83) rfl rfl) ?_
      refine zn_ld rfl rfl rfl ?_
      refine zn_get (v := .ref 75) rfl (zv_R (a := 83) rfl rfl) ?_
      refine zn_get (v := .ref 76) rfl (zv_R (a := 75) rfl rfl) ?_
      refine zn_ld rfl rfl rfl ?_
      refine zn_c [.int 0, .int a4, .ref 76, .ref 75] (xo_push (.int 0)) rfl rfl ?_
      refine zn_c [.int 0, .int 0, .int a4, .ref 76, .ref 75] (xo_push (.int 0)) rfl rfl ?_
      refine zn_zt [.ref 75, .ref 76, .int a4, .int 0, .int 0] [] rfl rfl rfl rfl rfl (Zt.imp h (fun v1 s2 h => ?_))
      obtain ⟨rfl, h⟩ := h
      change Zn _ _ _ _ _ _ _ _ _ _ _ [] _ _
      refine zn_ld rfl rfl rfl ?_
      refine zn_get (v := .ref 39) rfl (zv_C (a := 83) (n := 0) rfl rfl rfl) ?_
      refine zn_ld rfl rfl rfl ?_
      refine zn_get (v := .ref 39) rfl (zv_C (a := 83) (n := 0) rfl rfl rfl) ?_
      refine zn_ld rfl rfl rfl ?_
      refine zn_c [.int 2, .int a5, .ref 39, .ref 39] (xo_push (.int 2)) rfl rfl ?_
      refine zn_zt [.ref 39, .int a5, .int 2] [.ref 39] (c := []) rfl rfl rfl rfl rfl (Zt.imp (zp_39 hd (Or.inr rfl)) (fun vq sq hq => ?_))
      obtain ⟨rfl, hq⟩ := hq
      rw [hq]
      change Zn _ _ _ _ _ _ _ _ _ _ _ [.int (zg s2 63 (a5 * 6 + 2)), .ref 39] _ _
      refine zn_ld rfl rfl rfl ?_
      replace h := h _ (i_add (x := zg s2 63 (a5 * 6 + 2)) (y := a8) rfl rfl)
      refine zn_c [.int ((zg s2 63 (a5 * 6 + 2)) + a8), .ref 39] xo_iadd rfl rfl ?_
      refine zn_c [.int 3, .int ((zg s2 63 (a5 * 6 + 2)) + a8), .ref 39] (xo_push (.int 3)) rfl rfl ?_
      refine zn_zt [.ref 39, .int ((zg s2 63 (a5 * 6 + 2)) + a8), .int 3] [] (c := []) rfl rfl rfl rfl rfl (Zt.imp (zp_42 hd (Or.inr rfl)) (fun vq sq hq => ?_))
      obtain ⟨rfl, hq⟩ := hq
      rw [hq]
      change Zn _ _ _ _ _ _ _ _ _ _ _ [.int (zg s2 69 (((zg s2 63 (a5 * 6 + 2)) + a8) * 5 + 3))] _ _
      refine zn_st [.ref 83, .int a1, .int a2, .int a3, .int a4, .int a5, .int a6, .int a7, .int a8, .int (s.1 75 3), .int (zg s2 69 (((zg s2 63 (a5 * 6 + 2)) + a8) * 5 + 3)), .null, .null, .null, .null, .null] rfl rfl rfl ?_
      refine zn_ld rfl rfl rfl ?_
      refine zn_get (v := .ref 75) rfl (zv_R (a := 83) rfl rfl) ?_
      refine zn_ld rfl rfl rfl ?_
      refine zn_ld rfl rfl rfl ?_
      refine zn_get (v := .ref 75) rfl (zv_R (a := 83) rfl rfl) ?_
      refine zn_get (v := .ref 76) rfl (zv_R (a := 75) rfl rfl) ?_
      refine zn_zt [.ref 75, .int (zg s2 69 (((zg s2 63 (a5 * 6 + 2)) + a8) * 5 + 3)), .ref 76] [] rfl rfl rfl rfl rfl (Zt.imp h (fun v6 s7 h => ?_))
      obtain ⟨x8, rfl, h⟩ := h
      change Zn _ _ _ _ _ _ _ _ _ _ _ [.int x8] _ _
      refine zn_st [.ref 83, .int a1, .int a2, .int a3, .int a4, .int a5, .int a6, .int a7, .int a8, .int (s.1 75 3), .int (zg s2 69 (((zg s2 63 (a5 * 6 + 2)) + a8) * 5 + 3)), .int x8, .null, .null, .null, .null] rfl rfl rfl ?_
      refine zn_ld rfl rfl rfl ?_
      refine zn_brP rfl rfl ⟨fun hcn => ?_, fun hcn => ?_⟩
      · replace h := h.1 ((i_le (x := 0) (y := x8) (show (0 : Int32).toInt = 0 by decide) rfl).mp hcn)
        refine zn_ld rfl rfl rfl ?_
        refine zn_get (v := .ref 75) rfl (zv_R (a := 83) rfl rfl) ?_
        refine zn_ld rfl rfl rfl ?_
        refine zn_ld rfl rfl rfl ?_
        refine zn_zt [.ref 75, .int a7, .int x8] [] rfl rfl rfl rfl rfl (Zt.imp h (fun v9 s10 h => ?_))
        obtain ⟨x11, rfl, h⟩ := h
        change Zn _ _ _ _ _ _ _ _ _ _ _ [.int x11] _ _
        exact m_135A_95_39 hd r2 r7 r44 h
      · replace h := h.2 (fun q => hcn ((i_le (x := 0) (y := x8) (show (0 : Int32).toInt = 0 by decide) rfl).mpr q))
        refine zn_c [.int 9] (xo_push (.int 9)) rfl rfl ?_
        refine zn_go rfl ?_
        exact m_135A_95_39 hd r2 r7 r44 h
theorem ml_135A_44_39 {d d0 : Nat} (hd : d = d0 + 8) {R2 : Int32 → Int32 → Int32 → zS → Prop} {R7 : Int32 → Int32 → Int32 → Int32 → zS → Prop} {a1 : Int32} {a2 : Int32} {a3 : Int32} {a4 : Int32} {a5 : Int32} {a6 : Int32} {a7 : Int32} {a8 : Int32} {s : zS} {Q : Option Value → zS → Prop} (r2 : ∀ a1 a2 a3 s, R2 a1 a2 a3 s → Zn d [] [(39, 98)] ([(83, 1, 39), (83, 2, 86), (75, 0, 39), (75, 1, 57), (75, 2, 61)] : zW) ([(83, 1, 39), (83, 2, 86), (75, 0, 39), (75, 1, 57), (75, 2, 61)] : zW) xL_10 13 (none) xE_135 (xE_135.drop 2) [.ref 83, .int a1, .int a2, .int a3, .null, .null, .null, .null, .null, .null, .null, .null, .null, .null, .null, .null] [] s Q) (r7 : ∀ a1 a2 a3 a4 s, R7 a1 a2 a3 a4 s → Zn d [] [(39, 98)] ([(83, 1, 39), (83, 2, 86), (75, 0, 39), (75, 1, 57), (75, 2, 61)] : zW) ([(83, 1, 39), (83, 2, 86), (75, 0, 39), (75, 1, 57), (75, 2, 61)] : zW) xL_10 13 (none) xE_135 (xE_135.drop 7) [.ref 83, .int a1, .int a2, .int a3, .int a4, .null, .null, .null, .null, .null, .null, .null, .null, .null, .null, .null] [] s Q) (h : vl_135A_44 (fun j => Zt d (wd3 39 j) j) 39 R2 R7 a1 a2 a3 a4 a5 a6 a7 a8 s Q) : Zn d [] [(39, 98)] ([(83, 1, 39), (83, 2, 86), (75, 0, 39), (75, 1, 57), (75, 2, 61)] : zW) ([(83, 1, 39), (83, 2, 86), (75, 0, 39), (75, 1, 57), (75, 2, 61)] : zW) xL_10 13 (none) xE_135 (xE_135.drop 44) [.ref 83, .int a1, .int a2, .int a3, .int a4, .int a5, .int a6, .int a7, .int a8, .null, .null, .null, .null, .null, .null, .null] [] s Q := by
  obtain ⟨I, μ, h0, h1⟩ := h
  have key : ∀ (n : Nat) (a1 : Int32) (a2 : Int32) (a3 : Int32) (a4 : Int32) (a5 : Int32) (a6 : Int32) (a7 : Int32) (a8 : Int32) (s : zS), μ a1 a2 a3 a4 a5 a6 a7 a8 s = n → I a1 a2 a3 a4 a5 a6 a7 a8 s → Zn d [] [(39, 98)] ([(83, 1, 39), (83, 2, 86), (75, 0, 39), (75, 1, 57), (75, 2, 61)] : zW) ([(83, 1, 39), (83, 2, 86), (75, 0, 39), (75, 1, 57), (75, 2, 61)] : zW) xL_10 13 (none) xE_135 (xE_135.drop 44) [.ref 83, .int a1, .int a2, .int a3, .int a4, .int a5, .int a6, .int a7, .int a8, .null, .null, .null, .null, .null, .null, .null] [] s Q := by
    intro n
    induction n using Nat.strongRecOn with
    | ind n ih =>
      intro a1 a2 a3 a4 a5 a6 a7 a8 s e hI
      exact m_135A_44_39 hd r2 r7 (fun a1' a2' a3' a4' a5' a6' a7' a8' s' q => ih _ (by rw [← e]; exact q.2) a1' a2' a3' a4' a5' a6' a7' a8' s' rfl q.1) (h1 a1 a2 a3 a4 a5 a6 a7 a8 s hI)
  exact key _ a1 a2 a3 a4 a5 a6 a7 a8 s rfl h0
set_option maxRecDepth 20000 in
theorem m_135A_37_39 {d d0 : Nat} (hd : d = d0 + 8) {R2 : Int32 → Int32 → Int32 → zS → Prop} {R7 : Int32 → Int32 → Int32 → Int32 → zS → Prop} {a1 : Int32} {a2 : Int32} {a3 : Int32} {a4 : Int32} {a5 : Int32} {t0 : Int32} {s : zS} {Q : Option Value → zS → Prop} (r2 : ∀ a1 a2 a3 s, R2 a1 a2 a3 s → Zn d [] [(39, 98)] ([(83, 1, 39), (83, 2, 86), (75, 0, 39), (75, 1, 57), (75, 2, 61)] : zW) ([(83, 1, 39), (83, 2, 86), (75, 0, 39), (75, 1, 57), (75, 2, 61)] : zW) xL_10 13 (none) xE_135 (xE_135.drop 2) [.ref 83, .int a1, .int a2, .int a3, .null, .null, .null, .null, .null, .null, .null, .null, .null, .null, .null, .null] [] s Q) (r7 : ∀ a1 a2 a3 a4 s, R7 a1 a2 a3 a4 s → Zn d [] [(39, 98)] ([(83, 1, 39), (83, 2, 86), (75, 0, 39), (75, 1, 57), (75, 2, 61)] : zW) ([(83, 1, 39), (83, 2, 86), (75, 0, 39), (75, 1, 57), (75, 2, 61)] : zW) xL_10 13 (none) xE_135 (xE_135.drop 7) [.ref 83, .int a1, .int a2, .int a3, .int a4, .null, .null, .null, .null, .null, .null, .null, .null, .null, .null, .null] [] s Q) (h : v_135A_37 (fun j => Zt d (wd3 39 j) j) 39 R2 R7 a1 a2 a3 a4 a5 t0 s Q) : Zn d [] [(39, 98)] ([(83, 1, 39), (83, 2, 86), (75, 0, 39), (75, 1, 57), (75, 2, 61)] : zW) ([(83, 1, 39), (83, 2, 86), (75, 0, 39), (75, 1, 57), (75, 2, 61)] : zW) xL_10 13 (none) xE_135 (xE_135.drop 37) [.ref 83, .int a1, .int a2, .int a3, .int a4, .int a5, .null, .null, .null, .null, .null, .null, .null, .null, .null, .null] [.int t0] s Q := by
  unfold v_135A_37 at h
  refine zn_st [.ref 83, .int a1, .int a2, .int a3, .int a4, .int a5, .int t0, .null, .null, .null, .null, .null, .null, .null, .null, .null] rfl rfl rfl ?_
  refine zn_ld rfl rfl rfl ?_
  refine zn_c [.int 1, .int a4] (xo_push (.int 1)) rfl rfl ?_
  replace h := h _ (i_add (x := a4) (y := 1) rfl (show (1 : Int32).toInt = 1 by decide))
  refine zn_c [.int (a4 + 1)] xo_iadd rfl rfl ?_
  refine zn_st [.ref 83, .int a1, .int a2, .int a3, .int a4, .int a5, .int t0, .int (a4 + 1), .null, .null, .null, .null, .null, .null, .null, .null] rfl rfl rfl ?_
  refine zn_c [.int 0] (xo_push (.int 0)) rfl rfl ?_
  refine zn_st [.ref 83, .int a1, .int a2, .int a3, .int a4, .int a5, .int t0, .int (a4 + 1), .int 0, .null, .null, .null, .null, .null, .null, .null] rfl rfl rfl ?_
  exact ml_135A_44_39 hd r2 r7 h
set_option maxRecDepth 20000 in
theorem m_135A_36_39 {d d0 : Nat} (hd : d = d0 + 8) {R2 : Int32 → Int32 → Int32 → zS → Prop} {R7 : Int32 → Int32 → Int32 → Int32 → zS → Prop} {a1 : Int32} {a2 : Int32} {a3 : Int32} {a4 : Int32} {a5 : Int32} {s : zS} {Q : Option Value → zS → Prop} (r2 : ∀ a1 a2 a3 s, R2 a1 a2 a3 s → Zn d [] [(39, 98)] ([(83, 1, 39), (83, 2, 86), (75, 0, 39), (75, 1, 57), (75, 2, 61)] : zW) ([(83, 1, 39), (83, 2, 86), (75, 0, 39), (75, 1, 57), (75, 2, 61)] : zW) xL_10 13 (none) xE_135 (xE_135.drop 2) [.ref 83, .int a1, .int a2, .int a3, .null, .null, .null, .null, .null, .null, .null, .null, .null, .null, .null, .null] [] s Q) (r7 : ∀ a1 a2 a3 a4 s, R7 a1 a2 a3 a4 s → Zn d [] [(39, 98)] ([(83, 1, 39), (83, 2, 86), (75, 0, 39), (75, 1, 57), (75, 2, 61)] : zW) ([(83, 1, 39), (83, 2, 86), (75, 0, 39), (75, 1, 57), (75, 2, 61)] : zW) xL_10 13 (none) xE_135 (xE_135.drop 7) [.ref 83, .int a1, .int a2, .int a3, .int a4, .null, .null, .null, .null, .null, .null, .null, .null, .null, .null, .null] [] s Q) (h : v_135A_36 (fun j => Zt d (wd3 39 j) j) 39 R2 R7 a1 a2 a3 a4 a5 s Q) : Zn d [] [(39, 98)] ([(83, 1, 39), (83, 2, 86), (75, 0, 39), (75, 1, 57), (75, 2, 61)] : zW) ([(83, 1, 39), (83, 2, 86), (75, 0, 39), (75, 1, 57), (75, 2, 61)] : zW) xL_10 13 (none) xE_135 (xE_135.drop 36) [.ref 83, .int a1, .int a2, .int a3, .int a4, .int a5, .null, .null, .null, .null, .null, .null, .null, .null, .null, .null] [] s Q := by
  unfold v_135A_36 at h
  refine zn_c [.int 0] (xo_push (.int 0)) rfl rfl ?_
  exact m_135A_37_39 hd r2 r7 h
set_option maxRecDepth 20000 in
theorem m_135A_7_39 {d d0 : Nat} (hd : d = d0 + 8) {R2 : Int32 → Int32 → Int32 → zS → Prop} {R7 : Int32 → Int32 → Int32 → Int32 → zS → Prop} {a1 : Int32} {a2 : Int32} {a3 : Int32} {a4 : Int32} {s : zS} {Q : Option Value → zS → Prop} (r2 : ∀ a1 a2 a3 s, R2 a1 a2 a3 s → Zn d [] [(39, 98)] ([(83, 1, 39), (83, 2, 86), (75, 0, 39), (75, 1, 57), (75, 2, 61)] : zW) ([(83, 1, 39), (83, 2, 86), (75, 0, 39), (75, 1, 57), (75, 2, 61)] : zW) xL_10 13 (none) xE_135 (xE_135.drop 2) [.ref 83, .int a1, .int a2, .int a3, .null, .null, .null, .null, .null, .null, .null, .null, .null, .null, .null, .null] [] s Q) (r7 : ∀ a1 a2 a3 a4 s, R7 a1 a2 a3 a4 s → Zn d [] [(39, 98)] ([(83, 1, 39), (83, 2, 86), (75, 0, 39), (75, 1, 57), (75, 2, 61)] : zW) ([(83, 1, 39), (83, 2, 86), (75, 0, 39), (75, 1, 57), (75, 2, 61)] : zW) xL_10 13 (none) xE_135 (xE_135.drop 7) [.ref 83, .int a1, .int a2, .int a3, .int a4, .null, .null, .null, .null, .null, .null, .null, .null, .null, .null, .null] [] s Q) (h : v_135A_7 (fun j => Zt d (wd3 39 j) j) 39 R2 R7 a1 a2 a3 a4 s Q) : Zn d [] [(39, 98)] ([(83, 1, 39), (83, 2, 86), (75, 0, 39), (75, 1, 57), (75, 2, 61)] : zW) ([(83, 1, 39), (83, 2, 86), (75, 0, 39), (75, 1, 57), (75, 2, 61)] : zW) xL_10 13 (none) xE_135 (xE_135.drop 7) [.ref 83, .int a1, .int a2, .int a3, .int a4, .null, .null, .null, .null, .null, .null, .null, .null, .null, .null, .null] [] s Q := by
  unfold v_135A_7 at h
  refine zn_ld rfl rfl rfl ?_
  refine zn_ld rfl rfl rfl ?_
  refine zn_brP rfl rfl ⟨fun hcn => ?_, fun hcn => ?_⟩
  · replace h := h.1 ((i_lt (x := a4) (y := a1) rfl rfl).mp hcn)
    exact m_135A_120_39 hd r2 h
  · replace h := h.2 (fun q => hcn ((i_lt (x := a4) (y := a1) rfl rfl).mpr q))
    refine zn_ld rfl rfl rfl ?_
    refine zn_get (v := .ref 39) rfl (zv_C (a := 83) (n := 0) rfl rfl rfl) ?_
    refine zn_get (v := .int (s.1 39 14)) rfl (zv_I (a := 39) rfl rfl) ?_
    refine zn_brN rfl rfl ⟨fun hcn => ?_, fun hcn => ?_⟩
    · replace h := h.1 (fun q => hcn ((i_eq (x := s.1 39 14) (y := 0) rfl (show (0 : Int32).toInt = 0 by decide)).mpr q))
      exact m_135A_120_39 hd r2 h
    · replace h := h.2 ((i_eq (x := s.1 39 14) (y := 0) rfl (show (0 : Int32).toInt = 0 by decide)).mp hcn)
      refine zn_ld rfl rfl rfl ?_
      refine zn_get (v := .ref 39) rfl (zv_C (a := 83) (n := 0) rfl rfl rfl) ?_
      refine zn_get (v := .ref 57) rfl (zv_R (a := 39) rfl rfl) ?_
      refine zn_ld rfl rfl rfl ?_
      refine zn_row a4 [] (a := 57) hd rfl rfl rfl rfl ?_
      change Zn _ _ _ _ _ _ _ _ _ _ _ [.int (zg s 57 a4)] _ _
      refine zn_st [.ref 83, .int a1, .int a2, .int a3, .int a4, .int (zg s 57 a4), .null, .null, .null, .null, .null, .null, .null, .null, .null, .null] rfl rfl rfl ?_
      refine zn_ld rfl rfl rfl ?_
      refine zn_get (v := .ref 39) rfl (zv_C (a := 83) (n := 0) rfl rfl rfl) ?_
      refine zn_get (v := .ref 61) rfl (zv_R (a := 39) rfl rfl) ?_
      refine zn_ld rfl rfl rfl ?_
      refine zn_row (zg s 57 a4) [] (a := 61) hd rfl rfl rfl rfl ?_
      change Zn _ _ _ _ _ _ _ _ _ _ _ [.int (zg s 61 (zg s 57 a4))] _ _
      refine zn_brP rfl rfl ⟨fun hcn => ?_, fun hcn => ?_⟩
      · replace h := h.1 ((i_le (x := zg s 61 (zg s 57 a4)) (y := 0) rfl (show (0 : Int32).toInt = 0 by decide)).mp hcn)
        exact m_135A_36_39 hd r2 r7 h
      · replace h := h.2 (fun q => hcn ((i_le (x := zg s 61 (zg s 57 a4)) (y := 0) rfl (show (0 : Int32).toInt = 0 by decide)).mpr q))
        refine zn_ld rfl rfl rfl ?_
        refine zn_get (v := .ref 75) rfl (zv_R (a := 83) rfl rfl) ?_
        refine zn_ld rfl rfl rfl ?_
        refine zn_zt [.ref 75, .int a4] [] rfl rfl rfl rfl rfl (Zt.imp h (fun v1 s2 h => ?_))
        obtain ⟨x3, rfl, h⟩ := h
        change Zn _ _ _ _ _ _ _ _ _ _ _ [.int x3] _ _
        refine zn_ld rfl rfl rfl ?_
        refine zn_c [.int 1, .int a3, .int x3] (xo_push (.int 1)) rfl rfl ?_
        replace h := h _ (i_add (x := a3) (y := 1) rfl (show (1 : Int32).toInt = 1 by decide))
        refine zn_c [.int (a3 + 1), .int x3] xo_iadd rfl rfl ?_
        refine zn_brN rfl rfl ⟨fun hcn => ?_, fun hcn => ?_⟩
        · replace h := h.1 (fun q => hcn ((i_eq (x := x3) (y := (a3 + 1)) rfl rfl).mpr q))
          exact m_135A_36_39 hd r2 r7 h
        · replace h := h.2 ((i_eq (x := x3) (y := (a3 + 1)) rfl rfl).mp hcn)
          refine zn_c [.int 1] (xo_push (.int 1)) rfl rfl ?_
          refine zn_go rfl ?_
          exact m_135A_37_39 hd r2 r7 h
theorem ml_135A_7_39 {d d0 : Nat} (hd : d = d0 + 8) {R2 : Int32 → Int32 → Int32 → zS → Prop} {a1 : Int32} {a2 : Int32} {a3 : Int32} {a4 : Int32} {s : zS} {Q : Option Value → zS → Prop} (r2 : ∀ a1 a2 a3 s, R2 a1 a2 a3 s → Zn d [] [(39, 98)] ([(83, 1, 39), (83, 2, 86), (75, 0, 39), (75, 1, 57), (75, 2, 61)] : zW) ([(83, 1, 39), (83, 2, 86), (75, 0, 39), (75, 1, 57), (75, 2, 61)] : zW) xL_10 13 (none) xE_135 (xE_135.drop 2) [.ref 83, .int a1, .int a2, .int a3, .null, .null, .null, .null, .null, .null, .null, .null, .null, .null, .null, .null] [] s Q) (h : vl_135A_7 (fun j => Zt d (wd3 39 j) j) 39 R2 a1 a2 a3 a4 s Q) : Zn d [] [(39, 98)] ([(83, 1, 39), (83, 2, 86), (75, 0, 39), (75, 1, 57), (75, 2, 61)] : zW) ([(83, 1, 39), (83, 2, 86), (75, 0, 39), (75, 1, 57), (75, 2, 61)] : zW) xL_10 13 (none) xE_135 (xE_135.drop 7) [.ref 83, .int a1, .int a2, .int a3, .int a4, .null, .null, .null, .null, .null, .null, .null, .null, .null, .null, .null] [] s Q := by
  obtain ⟨I, μ, h0, h1⟩ := h
  have key : ∀ (n : Nat) (a1 : Int32) (a2 : Int32) (a3 : Int32) (a4 : Int32) (s : zS), μ a1 a2 a3 a4 s = n → I a1 a2 a3 a4 s → Zn d [] [(39, 98)] ([(83, 1, 39), (83, 2, 86), (75, 0, 39), (75, 1, 57), (75, 2, 61)] : zW) ([(83, 1, 39), (83, 2, 86), (75, 0, 39), (75, 1, 57), (75, 2, 61)] : zW) xL_10 13 (none) xE_135 (xE_135.drop 7) [.ref 83, .int a1, .int a2, .int a3, .int a4, .null, .null, .null, .null, .null, .null, .null, .null, .null, .null, .null] [] s Q := by
    intro n
    induction n using Nat.strongRecOn with
    | ind n ih =>
      intro a1 a2 a3 a4 s e hI
      exact m_135A_7_39 hd r2 (fun a1' a2' a3' a4' s' q => ih _ (by rw [← e]; exact q.2) a1' a2' a3' a4' s' rfl q.1) (h1 a1 a2 a3 a4 s hI)
  exact key _ a1 a2 a3 a4 s rfl h0
set_option maxRecDepth 20000 in
theorem m_135A_2_39 {d d0 : Nat} (hd : d = d0 + 8) {R2 : Int32 → Int32 → Int32 → zS → Prop} {a1 : Int32} {a2 : Int32} {a3 : Int32} {s : zS} {Q : Option Value → zS → Prop} (r2 : ∀ a1 a2 a3 s, R2 a1 a2 a3 s → Zn d [] [(39, 98)] ([(83, 1, 39), (83, 2, 86), (75, 0, 39), (75, 1, 57), (75, 2, 61)] : zW) ([(83, 1, 39), (83, 2, 86), (75, 0, 39), (75, 1, 57), (75, 2, 61)] : zW) xL_10 13 (none) xE_135 (xE_135.drop 2) [.ref 83, .int a1, .int a2, .int a3, .null, .null, .null, .null, .null, .null, .null, .null, .null, .null, .null, .null] [] s Q) (h : v_135A_2 (fun j => Zt d (wd3 39 j) j) 39 R2 a1 a2 a3 s Q) : Zn d [] [(39, 98)] ([(83, 1, 39), (83, 2, 86), (75, 0, 39), (75, 1, 57), (75, 2, 61)] : zW) ([(83, 1, 39), (83, 2, 86), (75, 0, 39), (75, 1, 57), (75, 2, 61)] : zW) xL_10 13 (none) xE_135 (xE_135.drop 2) [.ref 83, .int a1, .int a2, .int a3, .null, .null, .null, .null, .null, .null, .null, .null, .null, .null, .null, .null] [] s Q := by
  unfold v_135A_2 at h
  refine zn_ld rfl rfl rfl ?_
  refine zn_ld rfl rfl rfl ?_
  refine zn_brP rfl rfl ⟨fun hcn => ?_, fun hcn => ?_⟩
  · replace h := h.1 ((i_le (x := a2) (y := a3) rfl rfl).mp hcn)
    exact zn_ret0 rfl h
  · replace h := h.2 (fun q => hcn ((i_le (x := a2) (y := a3) rfl rfl).mpr q))
    refine zn_ld rfl rfl rfl ?_
    refine zn_st [.ref 83, .int a1, .int a2, .int a3, .int a3, .null, .null, .null, .null, .null, .null, .null, .null, .null, .null, .null] rfl rfl rfl ?_
    exact ml_135A_7_39 hd r2 h
theorem ml_135A_2_39 {d d0 : Nat} (hd : d = d0 + 8)  {a1 : Int32} {a2 : Int32} {a3 : Int32} {s : zS} {Q : Option Value → zS → Prop}  (h : vl_135A_2 (fun j => Zt d (wd3 39 j) j) 39  a1 a2 a3 s Q) : Zn d [] [(39, 98)] ([(83, 1, 39), (83, 2, 86), (75, 0, 39), (75, 1, 57), (75, 2, 61)] : zW) ([(83, 1, 39), (83, 2, 86), (75, 0, 39), (75, 1, 57), (75, 2, 61)] : zW) xL_10 13 (none) xE_135 (xE_135.drop 2) [.ref 83, .int a1, .int a2, .int a3, .null, .null, .null, .null, .null, .null, .null, .null, .null, .null, .null, .null] [] s Q := by
  obtain ⟨I, μ, h0, h1⟩ := h
  have key : ∀ (n : Nat) (a1 : Int32) (a2 : Int32) (a3 : Int32) (s : zS), μ a1 a2 a3 s = n → I a1 a2 a3 s → Zn d [] [(39, 98)] ([(83, 1, 39), (83, 2, 86), (75, 0, 39), (75, 1, 57), (75, 2, 61)] : zW) ([(83, 1, 39), (83, 2, 86), (75, 0, 39), (75, 1, 57), (75, 2, 61)] : zW) xL_10 13 (none) xE_135 (xE_135.drop 2) [.ref 83, .int a1, .int a2, .int a3, .null, .null, .null, .null, .null, .null, .null, .null, .null, .null, .null, .null] [] s Q := by
    intro n
    induction n using Nat.strongRecOn with
    | ind n ih =>
      intro a1 a2 a3 s e hI
      exact m_135A_2_39 hd (fun a1' a2' a3' s' q => ih _ (by rw [← e]; exact q.2) a1' a2' a3' s' rfl q.1) (h1 a1 a2 a3 s hI)
  exact key _ a1 a2 a3 s rfl h0
set_option maxRecDepth 20000 in
theorem m_135A_0_39 {d d0 : Nat} (hd : d = d0 + 8)  {a1 : Int32} {a2 : Int32} {s : zS} {Q : Option Value → zS → Prop}  (h : v_135A_0 (fun j => Zt d (wd3 39 j) j) 39  a1 a2 s Q) : Zn d [] [(39, 98)] ([(83, 1, 39), (83, 2, 86), (75, 0, 39), (75, 1, 57), (75, 2, 61)] : zW) ([(83, 1, 39), (83, 2, 86), (75, 0, 39), (75, 1, 57), (75, 2, 61)] : zW) xL_10 13 (none) xE_135 (xE_135.drop 0) [.ref 83, .int a1, .int a2, .null, .null, .null, .null, .null, .null, .null, .null, .null, .null, .null, .null, .null] [] s Q := by
  unfold v_135A_0 at h
  refine zn_ld rfl rfl rfl ?_
  refine zn_st [.ref 83, .int a1, .int a2, .int a1, .null, .null, .null, .null, .null, .null, .null, .null, .null, .null, .null, .null] rfl rfl rfl ?_
  exact ml_135A_2_39 hd  h
theorem zq_135A_39 {d : Nat} {a1 : Int32} {a2 : Int32} {s : zS} {Q : Option Value → zS → Prop} (h : v_135A_0 (fun j => Zt (d + 8) (wd3 39 j) j) 39 a1 a2 s Q) : Zt (d + 9) ([(83, 1, 39), (83, 2, 86), (75, 0, 39), (75, 1, 57), (75, 2, 61)] : zW) 135 [.ref 83, .int a1, .int a2] s Q := zt_of (E := xE_135) (L := xL_10) (ml := 13) (ret := none) rfl rfl rfl (m_135A_0_39 rfl h)
theorem zc_135A {d P : Nat} (hP : P = 3 ∨ P = 39) {a1 : Int32} {a2 : Int32} {s : zS} {Q : Option Value → zS → Prop} (h : v_135A_0 (fun j => Zt (d + 8) (wd3 P j) j) P a1 a2 s Q) : Zt (d + 9) (wd3 P 135) 135 [.ref 83, .int a1, .int a2] s Q := by
  rcases hP with rfl | rfl
  · exact zq_135A_3 h
  · exact zq_135A_39 h
/-! FeatherBench$Told.use -/
def v_121A_0 (T : Nat → List Value → zS → (Option Value → zS → Prop) → Prop) (P : Nat)   (s : zS) (Q : Option Value → zS → Prop) : Prop :=
  Q none s
set_option maxRecDepth 20000 in
theorem m_121A_0_3 {d d0 : Nat} (hd : d = d0 + 4)   {s : zS} {Q : Option Value → zS → Prop}  (h : v_121A_0 (fun j => Zt d (wd3 3 j) j) 3   s Q) : Zn d [(83, 1), (83, 2)] [] ([] : zW) ([(83, 2, 86), (83, 1, 3)] : zW) xL_10 3 (none) xE_121 (xE_121.drop 0) [.ref 83, .ref 3, .ref 86, .null, .null, .null] [] s Q := by
  unfold v_121A_0 at h
  refine zn_ld rfl rfl rfl ?_
  refine zn_ld rfl rfl rfl ?_
  refine zn_putR (a := 83) (b := 3) rfl rfl rfl rfl rfl rfl rfl rfl rfl ?_
  refine zn_ld rfl rfl rfl ?_
  refine zn_ld rfl rfl rfl ?_
  refine zn_putR (a := 83) (b := 86) rfl rfl rfl rfl rfl rfl rfl rfl rfl ?_
  exact zn_ret0 rfl h
theorem zq_121A_3 {d : Nat}  {s : zS} {Q : Option Value → zS → Prop} (h : v_121A_0 (fun j => Zt (d + 4) (wd3 3 j) j) 3  s Q) : Zu (d + 5) [(83, 1), (83, 2)] ([] : zW) ([(83, 2, 86), (83, 1, 3)] : zW) 121 [.ref 83, .ref 3, .ref 86] s Q := zu_of (E := xE_121) (L := xL_10) (ml := 3) (ret := none) rfl rfl rfl (m_121A_0_3 rfl h)
set_option maxRecDepth 20000 in
theorem m_121A_0_39 {d d0 : Nat} (hd : d = d0 + 4)   {s : zS} {Q : Option Value → zS → Prop}  (h : v_121A_0 (fun j => Zt d (wd3 39 j) j) 39   s Q) : Zn d [(83, 1), (83, 2)] [] ([] : zW) ([(83, 2, 86), (83, 1, 39)] : zW) xL_10 3 (none) xE_121 (xE_121.drop 0) [.ref 83, .ref 39, .ref 86, .null, .null, .null] [] s Q := by
  unfold v_121A_0 at h
  refine zn_ld rfl rfl rfl ?_
  refine zn_ld rfl rfl rfl ?_
  refine zn_putR (a := 83) (b := 39) rfl rfl rfl rfl rfl rfl rfl rfl rfl ?_
  refine zn_ld rfl rfl rfl ?_
  refine zn_ld rfl rfl rfl ?_
  refine zn_putR (a := 83) (b := 86) rfl rfl rfl rfl rfl rfl rfl rfl rfl ?_
  exact zn_ret0 rfl h
theorem zq_121A_39 {d : Nat}  {s : zS} {Q : Option Value → zS → Prop} (h : v_121A_0 (fun j => Zt (d + 4) (wd3 39 j) j) 39  s Q) : Zu (d + 5) [(83, 1), (83, 2)] ([] : zW) ([(83, 2, 86), (83, 1, 39)] : zW) 121 [.ref 83, .ref 39, .ref 86] s Q := zu_of (E := xE_121) (L := xL_10) (ml := 3) (ret := none) rfl rfl rfl (m_121A_0_39 rfl h)
theorem zc_121A {d P : Nat} (hP : P = 3 ∨ P = 39)  {s : zS} {Q : Option Value → zS → Prop} (h : v_121A_0 (fun j => Zt (d + 4) (wd3 P j) j) P  s Q) : Zu (d + 5) [(83, 1), (83, 2)] [] [(83, 2, 86), (83, 1, P)] 121 [.ref 83, .ref P, .ref 86] s Q := by
  rcases hP with rfl | rfl
  · exact zq_121A_3 h
  · exact zq_121A_39 h
/-! FeatherBench$Asked.countOne -/
def v_3_0 (T : Nat → List Value → zS → (Option Value → zS → Prop) → Prop) (P : Nat)  (a1 : Int32) (s : zS) (Q : Option Value → zS → Prop) : Prop :=
  ∀ x1 : Int32, (-2147483648 ≤ (zg s 97 (zg s 103 a1)).toInt + 1 ∧ (zg s 97 (zg s 103 a1)).toInt + 1 ≤ 2147483647 → x1.toInt = (zg s 97 (zg s 103 a1)).toInt + 1) → ∀ s2, s2 = zt s 97 (zg s 103 a1) x1 → Q none s2
set_option maxRecDepth 20000 in
theorem m_3_0_3 {d d0 : Nat} (hd : d = d0 + 8)  {a1 : Int32} {s : zS} {Q : Option Value → zS → Prop}  (h : v_3_0 (fun j => Zt d (wd3 3 j) j) 3  a1 s Q) : Zn d [] [] ([] : zW) ([] : zW) xL_0 3 (none) xE_3 (xE_3.drop 0) [.ref 85, .int a1, .null, .null, .null] [] s Q := by
  unfold v_3_0 at h
  refine zn_ld rfl rfl rfl ?_
  refine zn_get (v := .ref 103) rfl (zv_R (a := 85) rfl rfl) ?_
  refine zn_ld rfl rfl rfl ?_
  refine zn_row a1 [] (a := 103) hd rfl rfl rfl rfl ?_
  change Zn _ _ _ _ _ _ _ _ _ _ _ [.int (zg s 103 a1)] _ _
  refine zn_st [.ref 85, .int a1, .int (zg s 103 a1), .null, .null] rfl rfl rfl ?_
  refine zn_ld rfl rfl rfl ?_
  refine zn_get (v := .ref 86) rfl (zv_R (a := 85) rfl rfl) ?_
  refine zn_get (v := .ref 97) rfl (zv_R (a := 86) rfl rfl) ?_
  refine zn_ld rfl rfl rfl ?_
  refine zn_ld rfl rfl rfl ?_
  refine zn_get (v := .ref 86) rfl (zv_R (a := 85) rfl rfl) ?_
  refine zn_get (v := .ref 97) rfl (zv_R (a := 86) rfl rfl) ?_
  refine zn_ld rfl rfl rfl ?_
  refine zn_row (zg s 103 a1) [.int (zg s 103 a1), .ref 97] (a := 97) hd rfl rfl rfl rfl ?_
  change Zn _ _ _ _ _ _ _ _ _ _ _ [.int (zg s 97 (zg s 103 a1)), .int (zg s 103 a1), .ref 97] _ _
  refine zn_c [.int 1, .int (zg s 97 (zg s 103 a1)), .int (zg s 103 a1), .ref 97] (xo_push (.int 1)) rfl rfl ?_
  replace h := h _ (i_add (x := zg s 97 (zg s 103 a1)) (y := 1) rfl (show (1 : Int32).toInt = 1 by decide))
  refine zn_c [.int ((zg s 97 (zg s 103 a1)) + 1), .int (zg s 103 a1), .ref 97] xo_iadd rfl rfl ?_
  refine zn_set (zg s 103 a1) ((zg s 97 (zg s 103 a1)) + 1) [] (a := 97) hd rfl rfl rfl rfl ⟨Int32.le_toInt _, Int.le_of_lt_add_one (Int32.toInt_lt _)⟩ rfl rfl ?_
  replace h := h _ rfl
  exact zn_ret0 rfl h
theorem zq_3_3 {d : Nat} {a1 : Int32} {s : zS} {Q : Option Value → zS → Prop} (h : v_3_0 (fun j => Zt (d + 8) (wd3 3 j) j) 3 a1 s Q) : Zt (d + 9) ([] : zW) 3 [.ref 85, .int a1] s Q := zt_of (E := xE_3) (L := xL_0) (ml := 3) (ret := none) rfl rfl rfl (m_3_0_3 rfl h)
set_option maxRecDepth 20000 in
theorem m_3_0_39 {d d0 : Nat} (hd : d = d0 + 8)  {a1 : Int32} {s : zS} {Q : Option Value → zS → Prop}  (h : v_3_0 (fun j => Zt d (wd3 39 j) j) 39  a1 s Q) : Zn d [] [] ([] : zW) ([] : zW) xL_0 3 (none) xE_3 (xE_3.drop 0) [.ref 85, .int a1, .null, .null, .null] [] s Q := by
  unfold v_3_0 at h
  refine zn_ld rfl rfl rfl ?_
  refine zn_get (v := .ref 103) rfl (zv_R (a := 85) rfl rfl) ?_
  refine zn_ld rfl rfl rfl ?_
  refine zn_row a1 [] (a := 103) hd rfl rfl rfl rfl ?_
  change Zn _ _ _ _ _ _ _ _ _ _ _ [.int (zg s 103 a1)] _ _
  refine zn_st [.ref 85, .int a1, .int (zg s 103 a1), .null, .null] rfl rfl rfl ?_
  refine zn_ld rfl rfl rfl ?_
  refine zn_get (v := .ref 86) rfl (zv_R (a := 85) rfl rfl) ?_
  refine zn_get (v := .ref 97) rfl (zv_R (a := 86) rfl rfl) ?_
  refine zn_ld rfl rfl rfl ?_
  refine zn_ld rfl rfl rfl ?_
  refine zn_get (v := .ref 86) rfl (zv_R (a := 85) rfl rfl) ?_
  refine zn_get (v := .ref 97) rfl (zv_R (a := 86) rfl rfl) ?_
  refine zn_ld rfl rfl rfl ?_
  refine zn_row (zg s 103 a1) [.int (zg s 103 a1), .ref 97] (a := 97) hd rfl rfl rfl rfl ?_
  change Zn _ _ _ _ _ _ _ _ _ _ _ [.int (zg s 97 (zg s 103 a1)), .int (zg s 103 a1), .ref 97] _ _
  refine zn_c [.int 1, .int (zg s 97 (zg s 103 a1)), .int (zg s 103 a1), .ref 97] (xo_push (.int 1)) rfl rfl ?_
  replace h := h _ (i_add (x := zg s 97 (zg s 103 a1)) (y := 1) rfl (show (1 : Int32).toInt = 1 by decide))
  refine zn_c [.int ((zg s 97 (zg s 103 a1)) + 1), .int (zg s 103 a1), .ref 97] xo_iadd rfl rfl ?_
  refine zn_set (zg s 103 a1) ((zg s 97 (zg s 103 a1)) + 1) [] (a := 97) hd rfl rfl rfl rfl ⟨Int32.le_toInt _, Int.le_of_lt_add_one (Int32.toInt_lt _)⟩ rfl rfl ?_
  replace h := h _ rfl
  exact zn_ret0 rfl h
theorem zq_3_39 {d : Nat} {a1 : Int32} {s : zS} {Q : Option Value → zS → Prop} (h : v_3_0 (fun j => Zt (d + 8) (wd3 39 j) j) 39 a1 s Q) : Zt (d + 9) ([] : zW) 3 [.ref 85, .int a1] s Q := zt_of (E := xE_3) (L := xL_0) (ml := 3) (ret := none) rfl rfl rfl (m_3_0_39 rfl h)
theorem zc_3 {d P : Nat} (hP : P = 3 ∨ P = 39) {a1 : Int32} {s : zS} {Q : Option Value → zS → Prop} (h : v_3_0 (fun j => Zt (d + 8) (wd3 P j) j) P a1 s Q) : Zt (d + 9) (wd3 P 3) 3 [.ref 85, .int a1] s Q := by
  rcases hP with rfl | rfl
  · exact zq_3_3 h
  · exact zq_3_39 h
/-! FeatherBench$Asked.passType -/
def v_2_90 (T : Nat → List Value → zS → (Option Value → zS → Prop) → Prop) (P : Nat)  (a1 : Int32) (a2 : Int32) (a3 : Int32) (a4 : Int32) (s : zS) (Q : Option Value → zS → Prop) : Prop :=
  Q (some (.int (-1))) s
def v_2_87 (T : Nat → List Value → zS → (Option Value → zS → Prop) → Prop) (P : Nat) (R6 : Int32 → Int32 → Int32 → Int32 → zS → Prop) (a1 : Int32) (a2 : Int32) (a3 : Int32) (a4 : Int32) (s : zS) (Q : Option Value → zS → Prop) : Prop :=
  ∀ x1 : Int32, (-2147483648 ≤ a2.toInt + 1 ∧ a2.toInt + 1 ≤ 2147483647 → x1.toInt = a2.toInt + 1) → ∀ x2 : Int32, (-2147483648 ≤ a4.toInt + 1 ∧ a4.toInt + 1 ≤ 2147483647 → x2.toInt = a4.toInt + 1) → R6 a1 x1 a3 x2 s
def v_2_63 (T : Nat → List Value → zS → (Option Value → zS → Prop) → Prop) (P : Nat) (R6 : Int32 → Int32 → Int32 → Int32 → zS → Prop) (a1 : Int32) (a2 : Int32) (a3 : Int32) (a4 : Int32) (s : zS) (Q : Option Value → zS → Prop) : Prop :=
  (¬ (a3.toInt = 1) → (¬ ((zg s 89 a2).toInt = 44) → (a2.toInt = (zg s 103 a3).toInt → v_2_87 T P R6 a1 a2 a3 a4 s Q) ∧ (¬ (a2.toInt = (zg s 103 a3).toInt) → Q (some (.int (-1))) s)) ∧ ((zg s 89 a2).toInt = 44 → T 3 [.ref 85, .int a3] s (fun v1 s2 => v1 = none ∧ (v_2_87 T P R6 a1 a2 a3 a4 s2 Q)))) ∧ (a3.toInt = 1 → Q (some (.int a2)) s)
def v_2_47 (T : Nat → List Value → zS → (Option Value → zS → Prop) → Prop) (P : Nat) (R6 : Int32 → Int32 → Int32 → Int32 → zS → Prop) (R47 : Int32 → Int32 → Int32 → Int32 → zS → Prop) (a1 : Int32) (a2 : Int32) (a3 : Int32) (a4 : Int32) (s : zS) (Q : Option Value → zS → Prop) : Prop :=
  (a3.toInt ≤ 1 → v_2_63 T P R6 a1 a2 a3 a4 s Q) ∧ (¬ (a3.toInt ≤ 1) → (¬ ((zg s 89 a2).toInt = 93) → v_2_63 T P R6 a1 a2 a3 a4 s Q) ∧ ((zg s 89 a2).toInt = 93 → T 3 [.ref 85, .int a3] s (fun v1 s2 => v1 = none ∧ (∀ x3 : Int32, (-2147483648 ≤ a3.toInt + (-1) ∧ a3.toInt + (-1) ≤ 2147483647 → x3.toInt = a3.toInt + (-1)) → ∀ x4 : Int32, (-2147483648 ≤ a2.toInt + 1 ∧ a2.toInt + 1 ≤ 2147483647 → x4.toInt = a2.toInt + 1) → R47 a1 x4 x3 a4 s2))))
def vl_2_47 (T : Nat → List Value → zS → (Option Value → zS → Prop) → Prop) (P : Nat) (R6 : Int32 → Int32 → Int32 → Int32 → zS → Prop) (a1 : Int32) (a2 : Int32) (a3 : Int32) (a4 : Int32) (s : zS) (Q : Option Value → zS → Prop) : Prop :=
  ∃ (I : Int32 → Int32 → Int32 → Int32 → zS → Prop) (μ : Int32 → Int32 → Int32 → Int32 → zS → Nat), I a1 a2 a3 a4 s ∧ ∀ (a1 : Int32) (a2 : Int32) (a3 : Int32) (a4 : Int32) (s : zS), I a1 a2 a3 a4 s → v_2_47 T P R6 (fun a1' a2' a3' a4' s' => I a1' a2' a3' a4' s' ∧ μ a1' a2' a3' a4' s' < μ a1 a2 a3 a4 s) a1 a2 a3 a4 s Q
def v_2_35 (T : Nat → List Value → zS → (Option Value → zS → Prop) → Prop) (P : Nat) (R6 : Int32 → Int32 → Int32 → Int32 → zS → Prop) (a1 : Int32) (a2 : Int32) (a3 : Int32) (a4 : Int32) (t1 : Int32) (s : zS) (Q : Option Value → zS → Prop) : Prop :=
  (0 ≤ t1.toInt ∧ t1.toInt ≤ 1) ∧ (∀ s1, s1 = zf s 85 4 t1 → ∀ s2, s2 = zt s1 103 a3 a2 → ∀ s3, s3 = zt s2 97 a2 0 → vl_2_47 T P R6 a1 a2 a3 a4 s3 Q)
def v_2_32 (T : Nat → List Value → zS → (Option Value → zS → Prop) → Prop) (P : Nat) (R6 : Int32 → Int32 → Int32 → Int32 → zS → Prop) (a1 : Int32) (a2 : Int32) (a3 : Int32) (a4 : Int32) (s : zS) (Q : Option Value → zS → Prop) : Prop :=
  v_2_35 T P R6 a1 a2 a3 a4 1 s Q
def v_2_6 (T : Nat → List Value → zS → (Option Value → zS → Prop) → Prop) (P : Nat) (R6 : Int32 → Int32 → Int32 → Int32 → zS → Prop) (a1 : Int32) (a2 : Int32) (a3 : Int32) (a4 : Int32) (s : zS) (Q : Option Value → zS → Prop) : Prop :=
  (4000 ≤ a4.toInt → v_2_90 T P  a1 a2 a3 a4 s Q) ∧ (¬ (4000 ≤ a4.toInt) → (¬ ((zg s 89 a2).toInt = 1) → v_2_90 T P  a1 a2 a3 a4 s Q) ∧ ((zg s 89 a2).toInt = 1 → ∀ x1 : Int32, (-2147483648 ≤ a2.toInt + 1 ∧ a2.toInt + 1 ≤ 2147483647 → x1.toInt = a2.toInt + 1) → (¬ ((zg s 89 x1).toInt = 91) → vl_2_47 T P R6 a1 x1 a3 a4 s Q) ∧ ((zg s 89 x1).toInt = 91 → ∀ x2 : Int32, (-2147483648 ≤ a3.toInt + 1 ∧ a3.toInt + 1 ≤ 2147483647 → x2.toInt = a3.toInt + 1) → (¬ ((s.1 85 4).toInt = 0) → v_2_32 T P R6 a1 x1 x2 a4 s Q) ∧ ((s.1 85 4).toInt = 0 → (x2.toInt ≤ 10 → v_2_35 T P R6 a1 x1 x2 a4 0 s Q) ∧ (¬ (x2.toInt ≤ 10) → v_2_32 T P R6 a1 x1 x2 a4 s Q)))))
def vl_2_6 (T : Nat → List Value → zS → (Option Value → zS → Prop) → Prop) (P : Nat)  (a1 : Int32) (a2 : Int32) (a3 : Int32) (a4 : Int32) (s : zS) (Q : Option Value → zS → Prop) : Prop :=
  ∃ (I : Int32 → Int32 → Int32 → Int32 → zS → Prop) (μ : Int32 → Int32 → Int32 → Int32 → zS → Nat), I a1 a2 a3 a4 s ∧ ∀ (a1 : Int32) (a2 : Int32) (a3 : Int32) (a4 : Int32) (s : zS), I a1 a2 a3 a4 s → v_2_6 T P (fun a1' a2' a3' a4' s' => I a1' a2' a3' a4' s' ∧ μ a1' a2' a3' a4' s' < μ a1 a2 a3 a4 s) a1 a2 a3 a4 s Q
def v_2_0 (T : Nat → List Value → zS → (Option Value → zS → Prop) → Prop) (P : Nat)  (a1 : Int32) (s : zS) (Q : Option Value → zS → Prop) : Prop :=
  vl_2_6 T P  a1 a1 1 0 s Q
set_option maxRecDepth 20000 in
theorem m_2_90_3 {d d0 : Nat} (hd : d = d0 + 8)  {a1 : Int32} {a2 : Int32} {a3 : Int32} {a4 : Int32} {s : zS} {Q : Option Value → zS → Prop}  (h : v_2_90 (fun j => Zt d (wd3 3 j) j) 3  a1 a2 a3 a4 s Q) : Zn d [] [] ([] : zW) ([] : zW) xL_0 5 (some .int) xE_2 (xE_2.drop 90) [.ref 85, .int a1, .int a2, .int a3, .int a4, .null, .null] [] s Q := by
  unfold v_2_90 at h
  refine zn_c [.int (-1)] (xo_push (.int (-1))) rfl rfl ?_
  exact zn_retI rfl h
set_option maxRecDepth 20000 in
theorem m_2_87_3 {d d0 : Nat} (hd : d = d0 + 8) {R6 : Int32 → Int32 → Int32 → Int32 → zS → Prop} {a1 : Int32} {a2 : Int32} {a3 : Int32} {a4 : Int32} {s : zS} {Q : Option Value → zS → Prop} (r6 : ∀ a1 a2 a3 a4 s, R6 a1 a2 a3 a4 s → Zn d [] [] ([] : zW) ([] : zW) xL_0 5 (some .int) xE_2 (xE_2.drop 6) [.ref 85, .int a1, .int a2, .int a3, .int a4, .null, .null] [] s Q) (h : v_2_87 (fun j => Zt d (wd3 3 j) j) 3 R6 a1 a2 a3 a4 s Q) : Zn d [] [] ([] : zW) ([] : zW) xL_0 5 (some .int) xE_2 (xE_2.drop 87) [.ref 85, .int a1, .int a2, .int a3, .int a4, .null, .null] [] s Q := by
  unfold v_2_87 at h
  replace h := h _ (i_add (x := a2) (y := 1) rfl (show (1 : Int32).toInt = 1 by decide))
  refine zn_inc [.ref 85, .int a1, .int (a2 + 1), .int a3, .int a4, .null, .null] rfl rfl rfl rfl ?_
  replace h := h _ (i_add (x := a4) (y := 1) rfl (show (1 : Int32).toInt = 1 by decide))
  refine zn_inc [.ref 85, .int a1, .int (a2 + 1), .int a3, .int (a4 + 1), .null, .null] rfl rfl rfl rfl ?_
  refine zn_go rfl ?_
  exact r6 a1 (a2 + 1) a3 (a4 + 1) s h
set_option maxRecDepth 20000 in
theorem m_2_63_3 {d d0 : Nat} (hd : d = d0 + 8) {R6 : Int32 → Int32 → Int32 → Int32 → zS → Prop} {a1 : Int32} {a2 : Int32} {a3 : Int32} {a4 : Int32} {s : zS} {Q : Option Value → zS → Prop} (r6 : ∀ a1 a2 a3 a4 s, R6 a1 a2 a3 a4 s → Zn d [] [] ([] : zW) ([] : zW) xL_0 5 (some .int) xE_2 (xE_2.drop 6) [.ref 85, .int a1, .int a2, .int a3, .int a4, .null, .null] [] s Q) (h : v_2_63 (fun j => Zt d (wd3 3 j) j) 3 R6 a1 a2 a3 a4 s Q) : Zn d [] [] ([] : zW) ([] : zW) xL_0 5 (some .int) xE_2 (xE_2.drop 63) [.ref 85, .int a1, .int a2, .int a3, .int a4, .null, .null] [] s Q := by
  unfold v_2_63 at h
  refine zn_ld rfl rfl rfl ?_
  refine zn_c [.int 1, .int a3] (xo_push (.int 1)) rfl rfl ?_
  refine zn_brN rfl rfl ⟨fun hcn => ?_, fun hcn => ?_⟩
  · replace h := h.1 (fun q => hcn ((i_eq (x := a3) (y := 1) rfl (show (1 : Int32).toInt = 1 by decide)).mpr q))
    refine zn_ld rfl rfl rfl ?_
    refine zn_get (v := .ref 86) rfl (zv_R (a := 85) rfl rfl) ?_
    refine zn_get (v := .ref 89) rfl (zv_R (a := 86) rfl rfl) ?_
    refine zn_ld rfl rfl rfl ?_
    refine zn_row a2 [] (a := 89) hd rfl rfl rfl rfl ?_
    change Zn _ _ _ _ _ _ _ _ _ _ _ [.int (zg s 89 a2)] _ _
    refine zn_c [.int 44, .int (zg s 89 a2)] (xo_push (.int 44)) rfl rfl ?_
    refine zn_brN rfl rfl ⟨fun hcn => ?_, fun hcn => ?_⟩
    · replace h := h.1 (fun q => hcn ((i_eq (x := zg s 89 a2) (y := 44) rfl (show (44 : Int32).toInt = 44 by decide)).mpr q))
      refine zn_ld rfl rfl rfl ?_
      refine zn_ld rfl rfl rfl ?_
      refine zn_get (v := .ref 103) rfl (zv_R (a := 85) rfl rfl) ?_
      refine zn_ld rfl rfl rfl ?_
      refine zn_row a3 [.int a2] (a := 103) hd rfl rfl rfl rfl ?_
      change Zn _ _ _ _ _ _ _ _ _ _ _ [.int (zg s 103 a3), .int a2] _ _
      refine zn_brP rfl rfl ⟨fun hcn => ?_, fun hcn => ?_⟩
      · replace h := h.1 ((i_eq (x := a2) (y := zg s 103 a3) rfl rfl).mp hcn)
        exact m_2_87_3 hd r6 h
      · replace h := h.2 (fun q => hcn ((i_eq (x := a2) (y := zg s 103 a3) rfl rfl).mpr q))
        refine zn_c [.int (-1)] (xo_push (.int (-1))) rfl rfl ?_
        exact zn_retI rfl h
    · replace h := h.2 ((i_eq (x := zg s 89 a2) (y := 44) rfl (show (44 : Int32).toInt = 44 by decide)).mp hcn)
      refine zn_ld rfl rfl rfl ?_
      refine zn_ld rfl rfl rfl ?_
      refine zn_zt [.ref 85, .int a3] [] rfl rfl rfl rfl rfl (Zt.imp h (fun v1 s2 h => ?_))
      obtain ⟨rfl, h⟩ := h
      change Zn _ _ _ _ _ _ _ _ _ _ _ [] _ _
      refine zn_go rfl ?_
      exact m_2_87_3 hd r6 h
  · replace h := h.2 ((i_eq (x := a3) (y := 1) rfl (show (1 : Int32).toInt = 1 by decide)).mp hcn)
    refine zn_ld rfl rfl rfl ?_
    exact zn_retI rfl h
set_option maxRecDepth 20000 in
theorem m_2_47_3 {d d0 : Nat} (hd : d = d0 + 8) {R6 : Int32 → Int32 → Int32 → Int32 → zS → Prop} {R47 : Int32 → Int32 → Int32 → Int32 → zS → Prop} {a1 : Int32} {a2 : Int32} {a3 : Int32} {a4 : Int32} {s : zS} {Q : Option Value → zS → Prop} (r6 : ∀ a1 a2 a3 a4 s, R6 a1 a2 a3 a4 s → Zn d [] [] ([] : zW) ([] : zW) xL_0 5 (some .int) xE_2 (xE_2.drop 6) [.ref 85, .int a1, .int a2, .int a3, .int a4, .null, .null] [] s Q) (r47 : ∀ a1 a2 a3 a4 s, R47 a1 a2 a3 a4 s → Zn d [] [] ([] : zW) ([] : zW) xL_0 5 (some .int) xE_2 (xE_2.drop 47) [.ref 85, .int a1, .int a2, .int a3, .int a4, .null, .null] [] s Q) (h : v_2_47 (fun j => Zt d (wd3 3 j) j) 3 R6 R47 a1 a2 a3 a4 s Q) : Zn d [] [] ([] : zW) ([] : zW) xL_0 5 (some .int) xE_2 (xE_2.drop 47) [.ref 85, .int a1, .int a2, .int a3, .int a4, .null, .null] [] s Q := by
  unfold v_2_47 at h
  refine zn_ld rfl rfl rfl ?_
  refine zn_c [.int 1, .int a3] (xo_push (.int 1)) rfl rfl ?_
  refine zn_brP rfl rfl ⟨fun hcn => ?_, fun hcn => ?_⟩
  · replace h := h.1 ((i_le (x := a3) (y := 1) rfl (show (1 : Int32).toInt = 1 by decide)).mp hcn)
    exact m_2_63_3 hd r6 h
  · replace h := h.2 (fun q => hcn ((i_le (x := a3) (y := 1) rfl (show (1 : Int32).toInt = 1 by decide)).mpr q))
    refine zn_ld rfl rfl rfl ?_
    refine zn_get (v := .ref 86) rfl (zv_R (a := 85) rfl rfl) ?_
    refine zn_get (v := .ref 89) rfl (zv_R (a := 86) rfl rfl) ?_
    refine zn_ld rfl rfl rfl ?_
    refine zn_row a2 [] (a := 89) hd rfl rfl rfl rfl ?_
    change Zn _ _ _ _ _ _ _ _ _ _ _ [.int (zg s 89 a2)] _ _
    refine zn_c [.int 93, .int (zg s 89 a2)] (xo_push (.int 93)) rfl rfl ?_
    refine zn_brN rfl rfl ⟨fun hcn => ?_, fun hcn => ?_⟩
    · replace h := h.1 (fun q => hcn ((i_eq (x := zg s 89 a2) (y := 93) rfl (show (93 : Int32).toInt = 93 by decide)).mpr q))
      exact m_2_63_3 hd r6 h
    · replace h := h.2 ((i_eq (x := zg s 89 a2) (y := 93) rfl (show (93 : Int32).toInt = 93 by decide)).mp hcn)
      refine zn_ld rfl rfl rfl ?_
      refine zn_ld rfl rfl rfl ?_
      refine zn_zt [.ref 85, .int a3] [] rfl rfl rfl rfl rfl (Zt.imp h (fun v1 s2 h => ?_))
      obtain ⟨rfl, h⟩ := h
      change Zn _ _ _ _ _ _ _ _ _ _ _ [] _ _
      replace h := h _ (i_add (x := a3) (y := (-1)) rfl (show ((-1) : Int32).toInt = (-1) by decide))
      refine zn_inc [.ref 85, .int a1, .int a2, .int (a3 + (-1)), .int a4, .null, .null] rfl rfl rfl rfl ?_
      replace h := h _ (i_add (x := a2) (y := 1) rfl (show (1 : Int32).toInt = 1 by decide))
      refine zn_inc [.ref 85, .int a1, .int (a2 + 1), .int (a3 + (-1)), .int a4, .null, .null] rfl rfl rfl rfl ?_
      refine zn_go rfl ?_
      exact r47 a1 (a2 + 1) (a3 + (-1)) a4 s2 h
theorem ml_2_47_3 {d d0 : Nat} (hd : d = d0 + 8) {R6 : Int32 → Int32 → Int32 → Int32 → zS → Prop} {a1 : Int32} {a2 : Int32} {a3 : Int32} {a4 : Int32} {s : zS} {Q : Option Value → zS → Prop} (r6 : ∀ a1 a2 a3 a4 s, R6 a1 a2 a3 a4 s → Zn d [] [] ([] : zW) ([] : zW) xL_0 5 (some .int) xE_2 (xE_2.drop 6) [.ref 85, .int a1, .int a2, .int a3, .int a4, .null, .null] [] s Q) (h : vl_2_47 (fun j => Zt d (wd3 3 j) j) 3 R6 a1 a2 a3 a4 s Q) : Zn d [] [] ([] : zW) ([] : zW) xL_0 5 (some .int) xE_2 (xE_2.drop 47) [.ref 85, .int a1, .int a2, .int a3, .int a4, .null, .null] [] s Q := by
  obtain ⟨I, μ, h0, h1⟩ := h
  have key : ∀ (n : Nat) (a1 : Int32) (a2 : Int32) (a3 : Int32) (a4 : Int32) (s : zS), μ a1 a2 a3 a4 s = n → I a1 a2 a3 a4 s → Zn d [] [] ([] : zW) ([] : zW) xL_0 5 (some .int) xE_2 (xE_2.drop 47) [.ref 85, .int a1, .int a2, .int a3, .int a4, .null, .null] [] s Q := by
    intro n
    induction n using Nat.strongRecOn with
    | ind n ih =>
      intro a1 a2 a3 a4 s e hI
      exact m_2_47_3 hd r6 (fun a1' a2' a3' a4' s' q => ih _ (by rw [← e]; exact q.2) a1' a2' a3' a4' s' rfl q.1) (h1 a1 a2 a3 a4 s hI)
  exact key _ a1 a2 a3 a4 s rfl h0
set_option maxRecDepth 20000 in
theorem m_2_35_3 {d d0 : Nat} (hd : d = d0 + 8) {R6 : Int32 → Int32 → Int32 → Int32 → zS → Prop} {a1 : Int32} {a2 : Int32} {a3 : Int32} {a4 : Int32} {t1 : Int32} {s : zS} {Q : Option Value → zS → Prop} (r6 : ∀ a1 a2 a3 a4 s, R6 a1 a2 a3 a4 s → Zn d [] [] ([] : zW) ([] : zW) xL_0 5 (some .int) xE_2 (xE_2.drop 6) [.ref 85, .int a1, .int a2, .int a3, .int a4, .null, .null] [] s Q) (h : v_2_35 (fun j => Zt d (wd3 3 j) j) 3 R6 a1 a2 a3 a4 t1 s Q) : Zn d [] [] ([] : zW) ([] : zW) xL_0 5 (some .int) xE_2 (xE_2.drop 35) [.ref 85, .int a1, .int a2, .int a3, .int a4, .null, .null] [.int t1, .ref 85] s Q := by
  unfold v_2_35 at h
  refine zn_putI (a := 85) rfl rfl rfl rfl h.1 (i_z (x := t1) rfl (by have := h.1; omega)) rfl rfl ?_
  replace h := h.2
  replace h := h _ rfl
  refine zn_ld rfl rfl rfl ?_
  refine zn_get (v := .ref 103) rfl (zv_R (a := 85) rfl rfl) ?_
  refine zn_ld rfl rfl rfl ?_
  refine zn_ld rfl rfl rfl ?_
  refine zn_set a3 a2 [] (a := 103) hd rfl rfl rfl rfl ⟨Int32.le_toInt _, Int.le_of_lt_add_one (Int32.toInt_lt _)⟩ rfl rfl ?_
  replace h := h _ rfl
  refine zn_ld rfl rfl rfl ?_
  refine zn_get (v := .ref 86) rfl (zv_R (a := 85) rfl rfl) ?_
  refine zn_get (v := .ref 97) rfl (zv_R (a := 86) rfl rfl) ?_
  refine zn_ld rfl rfl rfl ?_
  refine zn_c [.int 0, .int a2, .ref 97] (xo_push (.int 0)) rfl rfl ?_
  refine zn_set a2 0 [] (a := 97) hd rfl rfl rfl rfl ⟨Int32.le_toInt _, Int.le_of_lt_add_one (Int32.toInt_lt _)⟩ rfl rfl ?_
  replace h := h _ rfl
  exact ml_2_47_3 hd r6 h
set_option maxRecDepth 20000 in
theorem m_2_32_3 {d d0 : Nat} (hd : d = d0 + 8) {R6 : Int32 → Int32 → Int32 → Int32 → zS → Prop} {a1 : Int32} {a2 : Int32} {a3 : Int32} {a4 : Int32} {s : zS} {Q : Option Value → zS → Prop} (r6 : ∀ a1 a2 a3 a4 s, R6 a1 a2 a3 a4 s → Zn d [] [] ([] : zW) ([] : zW) xL_0 5 (some .int) xE_2 (xE_2.drop 6) [.ref 85, .int a1, .int a2, .int a3, .int a4, .null, .null] [] s Q) (h : v_2_32 (fun j => Zt d (wd3 3 j) j) 3 R6 a1 a2 a3 a4 s Q) : Zn d [] [] ([] : zW) ([] : zW) xL_0 5 (some .int) xE_2 (xE_2.drop 32) [.ref 85, .int a1, .int a2, .int a3, .int a4, .null, .null] [.ref 85] s Q := by
  unfold v_2_32 at h
  refine zn_c [.int 1, .ref 85] (xo_push (.int 1)) rfl rfl ?_
  refine zn_go rfl ?_
  exact m_2_35_3 hd r6 h
set_option maxRecDepth 20000 in
theorem m_2_6_3 {d d0 : Nat} (hd : d = d0 + 8) {R6 : Int32 → Int32 → Int32 → Int32 → zS → Prop} {a1 : Int32} {a2 : Int32} {a3 : Int32} {a4 : Int32} {s : zS} {Q : Option Value → zS → Prop} (r6 : ∀ a1 a2 a3 a4 s, R6 a1 a2 a3 a4 s → Zn d [] [] ([] : zW) ([] : zW) xL_0 5 (some .int) xE_2 (xE_2.drop 6) [.ref 85, .int a1, .int a2, .int a3, .int a4, .null, .null] [] s Q) (h : v_2_6 (fun j => Zt d (wd3 3 j) j) 3 R6 a1 a2 a3 a4 s Q) : Zn d [] [] ([] : zW) ([] : zW) xL_0 5 (some .int) xE_2 (xE_2.drop 6) [.ref 85, .int a1, .int a2, .int a3, .int a4, .null, .null] [] s Q := by
  unfold v_2_6 at h
  refine zn_ld rfl rfl rfl ?_
  refine zn_c [.int 4000, .int a4] (xo_push (.int 4000)) rfl rfl ?_
  refine zn_brP rfl rfl ⟨fun hcn => ?_, fun hcn => ?_⟩
  · replace h := h.1 ((i_le (x := 4000) (y := a4) (show (4000 : Int32).toInt = 4000 by decide) rfl).mp hcn)
    exact m_2_90_3 hd  h
  · replace h := h.2 (fun q => hcn ((i_le (x := 4000) (y := a4) (show (4000 : Int32).toInt = 4000 by decide) rfl).mpr q))
    refine zn_ld rfl rfl rfl ?_
    refine zn_get (v := .ref 86) rfl (zv_R (a := 85) rfl rfl) ?_
    refine zn_get (v := .ref 89) rfl (zv_R (a := 86) rfl rfl) ?_
    refine zn_ld rfl rfl rfl ?_
    refine zn_row a2 [] (a := 89) hd rfl rfl rfl rfl ?_
    change Zn _ _ _ _ _ _ _ _ _ _ _ [.int (zg s 89 a2)] _ _
    refine zn_c [.int 1, .int (zg s 89 a2)] (xo_push (.int 1)) rfl rfl ?_
    refine zn_brN rfl rfl ⟨fun hcn => ?_, fun hcn => ?_⟩
    · replace h := h.1 (fun q => hcn ((i_eq (x := zg s 89 a2) (y := 1) rfl (show (1 : Int32).toInt = 1 by decide)).mpr q))
      exact m_2_90_3 hd  h
    · replace h := h.2 ((i_eq (x := zg s 89 a2) (y := 1) rfl (show (1 : Int32).toInt = 1 by decide)).mp hcn)
      replace h := h _ (i_add (x := a2) (y := 1) rfl (show (1 : Int32).toInt = 1 by decide))
      refine zn_inc [.ref 85, .int a1, .int (a2 + 1), .int a3, .int a4, .null, .null] rfl rfl rfl rfl ?_
      refine zn_ld rfl rfl rfl ?_
      refine zn_get (v := .ref 86) rfl (zv_R (a := 85) rfl rfl) ?_
      refine zn_get (v := .ref 89) rfl (zv_R (a := 86) rfl rfl) ?_
      refine zn_ld rfl rfl rfl ?_
      refine zn_row (a2 + 1) [] (a := 89) hd rfl rfl rfl rfl ?_
      change Zn _ _ _ _ _ _ _ _ _ _ _ [.int (zg s 89 (a2 + 1))] _ _
      refine zn_c [.int 91, .int (zg s 89 (a2 + 1))] (xo_push (.int 91)) rfl rfl ?_
      refine zn_brN rfl rfl ⟨fun hcn => ?_, fun hcn => ?_⟩
      · replace h := h.1 (fun q => hcn ((i_eq (x := zg s 89 (a2 + 1)) (y := 91) rfl (show (91 : Int32).toInt = 91 by decide)).mpr q))
        exact ml_2_47_3 hd r6 h
      · replace h := h.2 ((i_eq (x := zg s 89 (a2 + 1)) (y := 91) rfl (show (91 : Int32).toInt = 91 by decide)).mp hcn)
        replace h := h _ (i_add (x := a3) (y := 1) rfl (show (1 : Int32).toInt = 1 by decide))
        refine zn_inc [.ref 85, .int a1, .int (a2 + 1), .int (a3 + 1), .int a4, .null, .null] rfl rfl rfl rfl ?_
        refine zn_ld rfl rfl rfl ?_
        refine zn_ld rfl rfl rfl ?_
        refine zn_get (v := .int (s.1 85 4)) rfl (zv_I (a := 85) rfl rfl) ?_
        refine zn_brN rfl rfl ⟨fun hcn => ?_, fun hcn => ?_⟩
        · replace h := h.1 (fun q => hcn ((i_eq (x := s.1 85 4) (y := 0) rfl (show (0 : Int32).toInt = 0 by decide)).mpr q))
          exact m_2_32_3 hd r6 h
        · replace h := h.2 ((i_eq (x := s.1 85 4) (y := 0) rfl (show (0 : Int32).toInt = 0 by decide)).mp hcn)
          refine zn_ld rfl rfl rfl ?_
          refine zn_c [.int 10, .int (a3 + 1), .ref 85] (xo_push (.int 10)) rfl rfl ?_
          refine zn_brP rfl rfl ⟨fun hcn => ?_, fun hcn => ?_⟩
          · replace h := h.1 ((i_le (x := (a3 + 1)) (y := 10) rfl (show (10 : Int32).toInt = 10 by decide)).mp hcn)
            refine zn_c [.int 0, .ref 85] (xo_push (.int 0)) rfl rfl ?_
            exact m_2_35_3 hd r6 h
          · replace h := h.2 (fun q => hcn ((i_le (x := (a3 + 1)) (y := 10) rfl (show (10 : Int32).toInt = 10 by decide)).mpr q))
            exact m_2_32_3 hd r6 h
theorem ml_2_6_3 {d d0 : Nat} (hd : d = d0 + 8)  {a1 : Int32} {a2 : Int32} {a3 : Int32} {a4 : Int32} {s : zS} {Q : Option Value → zS → Prop}  (h : vl_2_6 (fun j => Zt d (wd3 3 j) j) 3  a1 a2 a3 a4 s Q) : Zn d [] [] ([] : zW) ([] : zW) xL_0 5 (some .int) xE_2 (xE_2.drop 6) [.ref 85, .int a1, .int a2, .int a3, .int a4, .null, .null] [] s Q := by
  obtain ⟨I, μ, h0, h1⟩ := h
  have key : ∀ (n : Nat) (a1 : Int32) (a2 : Int32) (a3 : Int32) (a4 : Int32) (s : zS), μ a1 a2 a3 a4 s = n → I a1 a2 a3 a4 s → Zn d [] [] ([] : zW) ([] : zW) xL_0 5 (some .int) xE_2 (xE_2.drop 6) [.ref 85, .int a1, .int a2, .int a3, .int a4, .null, .null] [] s Q := by
    intro n
    induction n using Nat.strongRecOn with
    | ind n ih =>
      intro a1 a2 a3 a4 s e hI
      exact m_2_6_3 hd (fun a1' a2' a3' a4' s' q => ih _ (by rw [← e]; exact q.2) a1' a2' a3' a4' s' rfl q.1) (h1 a1 a2 a3 a4 s hI)
  exact key _ a1 a2 a3 a4 s rfl h0
set_option maxRecDepth 20000 in
theorem m_2_0_3 {d d0 : Nat} (hd : d = d0 + 8)  {a1 : Int32} {s : zS} {Q : Option Value → zS → Prop}  (h : v_2_0 (fun j => Zt d (wd3 3 j) j) 3  a1 s Q) : Zn d [] [] ([] : zW) ([] : zW) xL_0 5 (some .int) xE_2 (xE_2.drop 0) [.ref 85, .int a1, .null, .null, .null, .null, .null] [] s Q := by
  unfold v_2_0 at h
  refine zn_ld rfl rfl rfl ?_
  refine zn_st [.ref 85, .int a1, .int a1, .null, .null, .null, .null] rfl rfl rfl ?_
  refine zn_c [.int 1] (xo_push (.int 1)) rfl rfl ?_
  refine zn_st [.ref 85, .int a1, .int a1, .int 1, .null, .null, .null] rfl rfl rfl ?_
  refine zn_c [.int 0] (xo_push (.int 0)) rfl rfl ?_
  refine zn_st [.ref 85, .int a1, .int a1, .int 1, .int 0, .null, .null] rfl rfl rfl ?_
  exact ml_2_6_3 hd  h
theorem zq_2_3 {d : Nat} {a1 : Int32} {s : zS} {Q : Option Value → zS → Prop} (h : v_2_0 (fun j => Zt (d + 8) (wd3 3 j) j) 3 a1 s Q) : Zt (d + 9) ([] : zW) 2 [.ref 85, .int a1] s Q := zt_of (E := xE_2) (L := xL_0) (ml := 5) (ret := some .int) rfl rfl rfl (m_2_0_3 rfl h)
set_option maxRecDepth 20000 in
theorem m_2_90_39 {d d0 : Nat} (hd : d = d0 + 8)  {a1 : Int32} {a2 : Int32} {a3 : Int32} {a4 : Int32} {s : zS} {Q : Option Value → zS → Prop}  (h : v_2_90 (fun j => Zt d (wd3 39 j) j) 39  a1 a2 a3 a4 s Q) : Zn d [] [] ([] : zW) ([] : zW) xL_0 5 (some .int) xE_2 (xE_2.drop 90) [.ref 85, .int a1, .int a2, .int a3, .int a4, .null, .null] [] s Q := by
  unfold v_2_90 at h
  refine zn_c [.int (-1)] (xo_push (.int (-1))) rfl rfl ?_
  exact zn_retI rfl h
set_option maxRecDepth 20000 in
theorem m_2_87_39 {d d0 : Nat} (hd : d = d0 + 8) {R6 : Int32 → Int32 → Int32 → Int32 → zS → Prop} {a1 : Int32} {a2 : Int32} {a3 : Int32} {a4 : Int32} {s : zS} {Q : Option Value → zS → Prop} (r6 : ∀ a1 a2 a3 a4 s, R6 a1 a2 a3 a4 s → Zn d [] [] ([] : zW) ([] : zW) xL_0 5 (some .int) xE_2 (xE_2.drop 6) [.ref 85, .int a1, .int a2, .int a3, .int a4, .null, .null] [] s Q) (h : v_2_87 (fun j => Zt d (wd3 39 j) j) 39 R6 a1 a2 a3 a4 s Q) : Zn d [] [] ([] : zW) ([] : zW) xL_0 5 (some .int) xE_2 (xE_2.drop 87) [.ref 85, .int a1, .int a2, .int a3, .int a4, .null, .null] [] s Q := by
  unfold v_2_87 at h
  replace h := h _ (i_add (x := a2) (y := 1) rfl (show (1 : Int32).toInt = 1 by decide))
  refine zn_inc [.ref 85, .int a1, .int (a2 + 1), .int a3, .int a4, .null, .null] rfl rfl rfl rfl ?_
  replace h := h _ (i_add (x := a4) (y := 1) rfl (show (1 : Int32).toInt = 1 by decide))
  refine zn_inc [.ref 85, .int a1, .int (a2 + 1), .int a3, .int (a4 + 1), .null, .null] rfl rfl rfl rfl ?_
  refine zn_go rfl ?_
  exact r6 a1 (a2 + 1) a3 (a4 + 1) s h
set_option maxRecDepth 20000 in
theorem m_2_63_39 {d d0 : Nat} (hd : d = d0 + 8) {R6 : Int32 → Int32 → Int32 → Int32 → zS → Prop} {a1 : Int32} {a2 : Int32} {a3 : Int32} {a4 : Int32} {s : zS} {Q : Option Value → zS → Prop} (r6 : ∀ a1 a2 a3 a4 s, R6 a1 a2 a3 a4 s → Zn d [] [] ([] : zW) ([] : zW) xL_0 5 (some .int) xE_2 (xE_2.drop 6) [.ref 85, .int a1, .int a2, .int a3, .int a4, .null, .null] [] s Q) (h : v_2_63 (fun j => Zt d (wd3 39 j) j) 39 R6 a1 a2 a3 a4 s Q) : Zn d [] [] ([] : zW) ([] : zW) xL_0 5 (some .int) xE_2 (xE_2.drop 63) [.ref 85, .int a1, .int a2, .int a3, .int a4, .null, .null] [] s Q := by
  unfold v_2_63 at h
  refine zn_ld rfl rfl rfl ?_
  refine zn_c [.int 1, .int a3] (xo_push (.int 1)) rfl rfl ?_
  refine zn_brN rfl rfl ⟨fun hcn => ?_, fun hcn => ?_⟩
  · replace h := h.1 (fun q => hcn ((i_eq (x := a3) (y := 1) rfl (show (1 : Int32).toInt = 1 by decide)).mpr q))
    refine zn_ld rfl rfl rfl ?_
    refine zn_get (v := .ref 86) rfl (zv_R (a := 85) rfl rfl) ?_
    refine zn_get (v := .ref 89) rfl (zv_R (a := 86) rfl rfl) ?_
    refine zn_ld rfl rfl rfl ?_
    refine zn_row a2 [] (a := 89) hd rfl rfl rfl rfl ?_
    change Zn _ _ _ _ _ _ _ _ _ _ _ [.int (zg s 89 a2)] _ _
    refine zn_c [.int 44, .int (zg s 89 a2)] (xo_push (.int 44)) rfl rfl ?_
    refine zn_brN rfl rfl ⟨fun hcn => ?_, fun hcn => ?_⟩
    · replace h := h.1 (fun q => hcn ((i_eq (x := zg s 89 a2) (y := 44) rfl (show (44 : Int32).toInt = 44 by decide)).mpr q))
      refine zn_ld rfl rfl rfl ?_
      refine zn_ld rfl rfl rfl ?_
      refine zn_get (v := .ref 103) rfl (zv_R (a := 85) rfl rfl) ?_
      refine zn_ld rfl rfl rfl ?_
      refine zn_row a3 [.int a2] (a := 103) hd rfl rfl rfl rfl ?_
      change Zn _ _ _ _ _ _ _ _ _ _ _ [.int (zg s 103 a3), .int a2] _ _
      refine zn_brP rfl rfl ⟨fun hcn => ?_, fun hcn => ?_⟩
      · replace h := h.1 ((i_eq (x := a2) (y := zg s 103 a3) rfl rfl).mp hcn)
        exact m_2_87_39 hd r6 h
      · replace h := h.2 (fun q => hcn ((i_eq (x := a2) (y := zg s 103 a3) rfl rfl).mpr q))
        refine zn_c [.int (-1)] (xo_push (.int (-1))) rfl rfl ?_
        exact zn_retI rfl h
    · replace h := h.2 ((i_eq (x := zg s 89 a2) (y := 44) rfl (show (44 : Int32).toInt = 44 by decide)).mp hcn)
      refine zn_ld rfl rfl rfl ?_
      refine zn_ld rfl rfl rfl ?_
      refine zn_zt [.ref 85, .int a3] [] rfl rfl rfl rfl rfl (Zt.imp h (fun v1 s2 h => ?_))
      obtain ⟨rfl, h⟩ := h
      change Zn _ _ _ _ _ _ _ _ _ _ _ [] _ _
      refine zn_go rfl ?_
      exact m_2_87_39 hd r6 h
  · replace h := h.2 ((i_eq (x := a3) (y := 1) rfl (show (1 : Int32).toInt = 1 by decide)).mp hcn)
    refine zn_ld rfl rfl rfl ?_
    exact zn_retI rfl h
set_option maxRecDepth 20000 in
theorem m_2_47_39 {d d0 : Nat} (hd : d = d0 + 8) {R6 : Int32 → Int32 → Int32 → Int32 → zS → Prop} {R47 : Int32 → Int32 → Int32 → Int32 → zS → Prop} {a1 : Int32} {a2 : Int32} {a3 : Int32} {a4 : Int32} {s : zS} {Q : Option Value → zS → Prop} (r6 : ∀ a1 a2 a3 a4 s, R6 a1 a2 a3 a4 s → Zn d [] [] ([] : zW) ([] : zW) xL_0 5 (some .int) xE_2 (xE_2.drop 6) [.ref 85, .int a1, .int a2, .int a3, .int a4, .null, .null] [] s Q) (r47 : ∀ a1 a2 a3 a4 s, R47 a1 a2 a3 a4 s → Zn d [] [] ([] : zW) ([] : zW) xL_0 5 (some .int) xE_2 (xE_2.drop 47) [.ref 85, .int a1, .int a2, .int a3, .int a4, .null, .null] [] s Q) (h : v_2_47 (fun j => Zt d (wd3 39 j) j) 39 R6 R47 a1 a2 a3 a4 s Q) : Zn d [] [] ([] : zW) ([] : zW) xL_0 5 (some .int) xE_2 (xE_2.drop 47) [.ref 85, .int a1, .int a2, .int a3, .int a4, .null, .null] [] s Q := by
  unfold v_2_47 at h
  refine zn_ld rfl rfl rfl ?_
  refine zn_c [.int 1, .int a3] (xo_push (.int 1)) rfl rfl ?_
  refine zn_brP rfl rfl ⟨fun hcn => ?_, fun hcn => ?_⟩
  · replace h := h.1 ((i_le (x := a3) (y := 1) rfl (show (1 : Int32).toInt = 1 by decide)).mp hcn)
    exact m_2_63_39 hd r6 h
  · replace h := h.2 (fun q => hcn ((i_le (x := a3) (y := 1) rfl (show (1 : Int32).toInt = 1 by decide)).mpr q))
    refine zn_ld rfl rfl rfl ?_
    refine zn_get (v := .ref 86) rfl (zv_R (a := 85) rfl rfl) ?_
    refine zn_get (v := .ref 89) rfl (zv_R (a := 86) rfl rfl) ?_
    refine zn_ld rfl rfl rfl ?_
    refine zn_row a2 [] (a := 89) hd rfl rfl rfl rfl ?_
    change Zn _ _ _ _ _ _ _ _ _ _ _ [.int (zg s 89 a2)] _ _
    refine zn_c [.int 93, .int (zg s 89 a2)] (xo_push (.int 93)) rfl rfl ?_
    refine zn_brN rfl rfl ⟨fun hcn => ?_, fun hcn => ?_⟩
    · replace h := h.1 (fun q => hcn ((i_eq (x := zg s 89 a2) (y := 93) rfl (show (93 : Int32).toInt = 93 by decide)).mpr q))
      exact m_2_63_39 hd r6 h
    · replace h := h.2 ((i_eq (x := zg s 89 a2) (y := 93) rfl (show (93 : Int32).toInt = 93 by decide)).mp hcn)
      refine zn_ld rfl rfl rfl ?_
      refine zn_ld rfl rfl rfl ?_
      refine zn_zt [.ref 85, .int a3] [] rfl rfl rfl rfl rfl (Zt.imp h (fun v1 s2 h => ?_))
      obtain ⟨rfl, h⟩ := h
      change Zn _ _ _ _ _ _ _ _ _ _ _ [] _ _
      replace h := h _ (i_add (x := a3) (y := (-1)) rfl (show ((-1) : Int32).toInt = (-1) by decide))
      refine zn_inc [.ref 85, .int a1, .int a2, .int (a3 + (-1)), .int a4, .null, .null] rfl rfl rfl rfl ?_
      replace h := h _ (i_add (x := a2) (y := 1) rfl (show (1 : Int32).toInt = 1 by decide))
      refine zn_inc [.ref 85, .int a1, .int (a2 + 1), .int (a3 + (-1)), .int a4, .null, .null] rfl rfl rfl rfl ?_
      refine zn_go rfl ?_
      exact r47 a1 (a2 + 1) (a3 + (-1)) a4 s2 h
theorem ml_2_47_39 {d d0 : Nat} (hd : d = d0 + 8) {R6 : Int32 → Int32 → Int32 → Int32 → zS → Prop} {a1 : Int32} {a2 : Int32} {a3 : Int32} {a4 : Int32} {s : zS} {Q : Option Value → zS → Prop} (r6 : ∀ a1 a2 a3 a4 s, R6 a1 a2 a3 a4 s → Zn d [] [] ([] : zW) ([] : zW) xL_0 5 (some .int) xE_2 (xE_2.drop 6) [.ref 85, .int a1, .int a2, .int a3, .int a4, .null, .null] [] s Q) (h : vl_2_47 (fun j => Zt d (wd3 39 j) j) 39 R6 a1 a2 a3 a4 s Q) : Zn d [] [] ([] : zW) ([] : zW) xL_0 5 (some .int) xE_2 (xE_2.drop 47) [.ref 85, .int a1, .int a2, .int a3, .int a4, .null, .null] [] s Q := by
  obtain ⟨I, μ, h0, h1⟩ := h
  have key : ∀ (n : Nat) (a1 : Int32) (a2 : Int32) (a3 : Int32) (a4 : Int32) (s : zS), μ a1 a2 a3 a4 s = n → I a1 a2 a3 a4 s → Zn d [] [] ([] : zW) ([] : zW) xL_0 5 (some .int) xE_2 (xE_2.drop 47) [.ref 85, .int a1, .int a2, .int a3, .int a4, .null, .null] [] s Q := by
    intro n
    induction n using Nat.strongRecOn with
    | ind n ih =>
      intro a1 a2 a3 a4 s e hI
      exact m_2_47_39 hd r6 (fun a1' a2' a3' a4' s' q => ih _ (by rw [← e]; exact q.2) a1' a2' a3' a4' s' rfl q.1) (h1 a1 a2 a3 a4 s hI)
  exact key _ a1 a2 a3 a4 s rfl h0
set_option maxRecDepth 20000 in
theorem m_2_35_39 {d d0 : Nat} (hd : d = d0 + 8) {R6 : Int32 → Int32 → Int32 → Int32 → zS → Prop} {a1 : Int32} {a2 : Int32} {a3 : Int32} {a4 : Int32} {t1 : Int32} {s : zS} {Q : Option Value → zS → Prop} (r6 : ∀ a1 a2 a3 a4 s, R6 a1 a2 a3 a4 s → Zn d [] [] ([] : zW) ([] : zW) xL_0 5 (some .int) xE_2 (xE_2.drop 6) [.ref 85, .int a1, .int a2, .int a3, .int a4, .null, .null] [] s Q) (h : v_2_35 (fun j => Zt d (wd3 39 j) j) 39 R6 a1 a2 a3 a4 t1 s Q) : Zn d [] [] ([] : zW) ([] : zW) xL_0 5 (some .int) xE_2 (xE_2.drop 35) [.ref 85, .int a1, .int a2, .int a3, .int a4, .null, .null] [.int t1, .ref 85] s Q := by
  unfold v_2_35 at h
  refine zn_putI (a := 85) rfl rfl rfl rfl h.1 (i_z (x := t1) rfl (by have := h.1; omega)) rfl rfl ?_
  replace h := h.2
  replace h := h _ rfl
  refine zn_ld rfl rfl rfl ?_
  refine zn_get (v := .ref 103) rfl (zv_R (a := 85) rfl rfl) ?_
  refine zn_ld rfl rfl rfl ?_
  refine zn_ld rfl rfl rfl ?_
  refine zn_set a3 a2 [] (a := 103) hd rfl rfl rfl rfl ⟨Int32.le_toInt _, Int.le_of_lt_add_one (Int32.toInt_lt _)⟩ rfl rfl ?_
  replace h := h _ rfl
  refine zn_ld rfl rfl rfl ?_
  refine zn_get (v := .ref 86) rfl (zv_R (a := 85) rfl rfl) ?_
  refine zn_get (v := .ref 97) rfl (zv_R (a := 86) rfl rfl) ?_
  refine zn_ld rfl rfl rfl ?_
  refine zn_c [.int 0, .int a2, .ref 97] (xo_push (.int 0)) rfl rfl ?_
  refine zn_set a2 0 [] (a := 97) hd rfl rfl rfl rfl ⟨Int32.le_toInt _, Int.le_of_lt_add_one (Int32.toInt_lt _)⟩ rfl rfl ?_
  replace h := h _ rfl
  exact ml_2_47_39 hd r6 h
set_option maxRecDepth 20000 in
theorem m_2_32_39 {d d0 : Nat} (hd : d = d0 + 8) {R6 : Int32 → Int32 → Int32 → Int32 → zS → Prop} {a1 : Int32} {a2 : Int32} {a3 : Int32} {a4 : Int32} {s : zS} {Q : Option Value → zS → Prop} (r6 : ∀ a1 a2 a3 a4 s, R6 a1 a2 a3 a4 s → Zn d [] [] ([] : zW) ([] : zW) xL_0 5 (some .int) xE_2 (xE_2.drop 6) [.ref 85, .int a1, .int a2, .int a3, .int a4, .null, .null] [] s Q) (h : v_2_32 (fun j => Zt d (wd3 39 j) j) 39 R6 a1 a2 a3 a4 s Q) : Zn d [] [] ([] : zW) ([] : zW) xL_0 5 (some .int) xE_2 (xE_2.drop 32) [.ref 85, .int a1, .int a2, .int a3, .int a4, .null, .null] [.ref 85] s Q := by
  unfold v_2_32 at h
  refine zn_c [.int 1, .ref 85] (xo_push (.int 1)) rfl rfl ?_
  refine zn_go rfl ?_
  exact m_2_35_39 hd r6 h
set_option maxRecDepth 20000 in
theorem m_2_6_39 {d d0 : Nat} (hd : d = d0 + 8) {R6 : Int32 → Int32 → Int32 → Int32 → zS → Prop} {a1 : Int32} {a2 : Int32} {a3 : Int32} {a4 : Int32} {s : zS} {Q : Option Value → zS → Prop} (r6 : ∀ a1 a2 a3 a4 s, R6 a1 a2 a3 a4 s → Zn d [] [] ([] : zW) ([] : zW) xL_0 5 (some .int) xE_2 (xE_2.drop 6) [.ref 85, .int a1, .int a2, .int a3, .int a4, .null, .null] [] s Q) (h : v_2_6 (fun j => Zt d (wd3 39 j) j) 39 R6 a1 a2 a3 a4 s Q) : Zn d [] [] ([] : zW) ([] : zW) xL_0 5 (some .int) xE_2 (xE_2.drop 6) [.ref 85, .int a1, .int a2, .int a3, .int a4, .null, .null] [] s Q := by
  unfold v_2_6 at h
  refine zn_ld rfl rfl rfl ?_
  refine zn_c [.int 4000, .int a4] (xo_push (.int 4000)) rfl rfl ?_
  refine zn_brP rfl rfl ⟨fun hcn => ?_, fun hcn => ?_⟩
  · replace h := h.1 ((i_le (x := 4000) (y := a4) (show (4000 : Int32).toInt = 4000 by decide) rfl).mp hcn)
    exact m_2_90_39 hd  h
  · replace h := h.2 (fun q => hcn ((i_le (x := 4000) (y := a4) (show (4000 : Int32).toInt = 4000 by decide) rfl).mpr q))
    refine zn_ld rfl rfl rfl ?_
    refine zn_get (v := .ref 86) rfl (zv_R (a := 85) rfl rfl) ?_
    refine zn_get (v := .ref 89) rfl (zv_R (a := 86) rfl rfl) ?_
    refine zn_ld rfl rfl rfl ?_
    refine zn_row a2 [] (a := 89) hd rfl rfl rfl rfl ?_
    change Zn _ _ _ _ _ _ _ _ _ _ _ [.int (zg s 89 a2)] _ _
    refine zn_c [.int 1, .int (zg s 89 a2)] (xo_push (.int 1)) rfl rfl ?_
    refine zn_brN rfl rfl ⟨fun hcn => ?_, fun hcn => ?_⟩
    · replace h := h.1 (fun q => hcn ((i_eq (x := zg s 89 a2) (y := 1) rfl (show (1 : Int32).toInt = 1 by decide)).mpr q))
      exact m_2_90_39 hd  h
    · replace h := h.2 ((i_eq (x := zg s 89 a2) (y := 1) rfl (show (1 : Int32).toInt = 1 by decide)).mp hcn)
      replace h := h _ (i_add (x := a2) (y := 1) rfl (show (1 : Int32).toInt = 1 by decide))
      refine zn_inc [.ref 85, .int a1, .int (a2 + 1), .int a3, .int a4, .null, .null] rfl rfl rfl rfl ?_
      refine zn_ld rfl rfl rfl ?_
      refine zn_get (v := .ref 86) rfl (zv_R (a := 85) rfl rfl) ?_
      refine zn_get (v := .ref 89) rfl (zv_R (a := 86) rfl rfl) ?_
      refine zn_ld rfl rfl rfl ?_
      refine zn_row (a2 + 1) [] (a := 89) hd rfl rfl rfl rfl ?_
      change Zn _ _ _ _ _ _ _ _ _ _ _ [.int (zg s 89 (a2 + 1))] _ _
      refine zn_c [.int 91, .int (zg s 89 (a2 + 1))] (xo_push (.int 91)) rfl rfl ?_
      refine zn_brN rfl rfl ⟨fun hcn => ?_, fun hcn => ?_⟩
      · replace h := h.1 (fun q => hcn ((i_eq (x := zg s 89 (a2 + 1)) (y := 91) rfl (show (91 : Int32).toInt = 91 by decide)).mpr q))
        exact ml_2_47_39 hd r6 h
      · replace h := h.2 ((i_eq (x := zg s 89 (a2 + 1)) (y := 91) rfl (show (91 : Int32).toInt = 91 by decide)).mp hcn)
        replace h := h _ (i_add (x := a3) (y := 1) rfl (show (1 : Int32).toInt = 1 by decide))
        refine zn_inc [.ref 85, .int a1, .int (a2 + 1), .int (a3 + 1), .int a4, .null, .null] rfl rfl rfl rfl ?_
        refine zn_ld rfl rfl rfl ?_
        refine zn_ld rfl rfl rfl ?_
        refine zn_get (v := .int (s.1 85 4)) rfl (zv_I (a := 85) rfl rfl) ?_
        refine zn_brN rfl rfl ⟨fun hcn => ?_, fun hcn => ?_⟩
        · replace h := h.1 (fun q => hcn ((i_eq (x := s.1 85 4) (y := 0) rfl (show (0 : Int32).toInt = 0 by decide)).mpr q))
          exact m_2_32_39 hd r6 h
        · replace h := h.2 ((i_eq (x := s.1 85 4) (y := 0) rfl (show (0 : Int32).toInt = 0 by decide)).mp hcn)
          refine zn_ld rfl rfl rfl ?_
          refine zn_c [.int 10, .int (a3 + 1), .ref 85] (xo_push (.int 10)) rfl rfl ?_
          refine zn_brP rfl rfl ⟨fun hcn => ?_, fun hcn => ?_⟩
          · replace h := h.1 ((i_le (x := (a3 + 1)) (y := 10) rfl (show (10 : Int32).toInt = 10 by decide)).mp hcn)
            refine zn_c [.int 0, .ref 85] (xo_push (.int 0)) rfl rfl ?_
            exact m_2_35_39 hd r6 h
          · replace h := h.2 (fun q => hcn ((i_le (x := (a3 + 1)) (y := 10) rfl (show (10 : Int32).toInt = 10 by decide)).mpr q))
            exact m_2_32_39 hd r6 h
theorem ml_2_6_39 {d d0 : Nat} (hd : d = d0 + 8)  {a1 : Int32} {a2 : Int32} {a3 : Int32} {a4 : Int32} {s : zS} {Q : Option Value → zS → Prop}  (h : vl_2_6 (fun j => Zt d (wd3 39 j) j) 39  a1 a2 a3 a4 s Q) : Zn d [] [] ([] : zW) ([] : zW) xL_0 5 (some .int) xE_2 (xE_2.drop 6) [.ref 85, .int a1, .int a2, .int a3, .int a4, .null, .null] [] s Q := by
  obtain ⟨I, μ, h0, h1⟩ := h
  have key : ∀ (n : Nat) (a1 : Int32) (a2 : Int32) (a3 : Int32) (a4 : Int32) (s : zS), μ a1 a2 a3 a4 s = n → I a1 a2 a3 a4 s → Zn d [] [] ([] : zW) ([] : zW) xL_0 5 (some .int) xE_2 (xE_2.drop 6) [.ref 85, .int a1, .int a2, .int a3, .int a4, .null, .null] [] s Q := by
    intro n
    induction n using Nat.strongRecOn with
    | ind n ih =>
      intro a1 a2 a3 a4 s e hI
      exact m_2_6_39 hd (fun a1' a2' a3' a4' s' q => ih _ (by rw [← e]; exact q.2) a1' a2' a3' a4' s' rfl q.1) (h1 a1 a2 a3 a4 s hI)
  exact key _ a1 a2 a3 a4 s rfl h0
set_option maxRecDepth 20000 in
theorem m_2_0_39 {d d0 : Nat} (hd : d = d0 + 8)  {a1 : Int32} {s : zS} {Q : Option Value → zS → Prop}  (h : v_2_0 (fun j => Zt d (wd3 39 j) j) 39  a1 s Q) : Zn d [] [] ([] : zW) ([] : zW) xL_0 5 (some .int) xE_2 (xE_2.drop 0) [.ref 85, .int a1, .null, .null, .null, .null, .null] [] s Q := by
  unfold v_2_0 at h
  refine zn_ld rfl rfl rfl ?_
  refine zn_st [.ref 85, .int a1, .int a1, .null, .null, .null, .null] rfl rfl rfl ?_
  refine zn_c [.int 1] (xo_push (.int 1)) rfl rfl ?_
  refine zn_st [.ref 85, .int a1, .int a1, .int 1, .null, .null, .null] rfl rfl rfl ?_
  refine zn_c [.int 0] (xo_push (.int 0)) rfl rfl ?_
  refine zn_st [.ref 85, .int a1, .int a1, .int 1, .int 0, .null, .null] rfl rfl rfl ?_
  exact ml_2_6_39 hd  h
theorem zq_2_39 {d : Nat} {a1 : Int32} {s : zS} {Q : Option Value → zS → Prop} (h : v_2_0 (fun j => Zt (d + 8) (wd3 39 j) j) 39 a1 s Q) : Zt (d + 9) ([] : zW) 2 [.ref 85, .int a1] s Q := zt_of (E := xE_2) (L := xL_0) (ml := 5) (ret := some .int) rfl rfl rfl (m_2_0_39 rfl h)
theorem zc_2 {d P : Nat} (hP : P = 3 ∨ P = 39) {a1 : Int32} {s : zS} {Q : Option Value → zS → Prop} (h : v_2_0 (fun j => Zt (d + 8) (wd3 P j) j) P a1 s Q) : Zt (d + 9) (wd3 P 2) 2 [.ref 85, .int a1] s Q := by
  rcases hP with rfl | rfl
  · exact zq_2_3 h
  · exact zq_2_39 h
/-! FeatherBench$Asked.read -/
def v_1_106 (T : Nat → List Value → zS → (Option Value → zS → Prop) → Prop) (P : Nat) (dz : Nat)  (a2 : Int32) (a3 : Int32) (a4 : Int32) (a5 : Int32) (t0 : Int32) (s : zS) (Q : Option Value → zS → Prop) : Prop :=
  Q (some (.int t0)) s
def v_1_97 (T : Nat → List Value → zS → (Option Value → zS → Prop) → Prop) (P : Nat) (dz : Nat)  (a2 : Int32) (a3 : Int32) (a4 : Int32) (a5 : Int32) (s : zS) (Q : Option Value → zS → Prop) : Prop :=
  (18 ≤ a4.toInt ∧ a4.toInt ≤ 2000000000) ∧ (∀ s1, s1 = zf s P 10 a4 → (¬ ((s1.1 P 14).toInt = 0) → v_1_106 T P dz  a2 a3 a4 a5 (-2) s1 Q) ∧ ((s1.1 P 14).toInt = 0 → v_1_106 T P dz  a2 a3 a4 a5 0 s1 Q))
def v_1_77 (T : Nat → List Value → zS → (Option Value → zS → Prop) → Prop) (P : Nat) (dz : Nat) (R61 : Int32 → Int32 → Int32 → Int32 → zS → Prop) (a2 : Int32) (a3 : Int32) (a4 : Int32) (a5 : Int32) (a6 : Int32) (t1 : Int32) (s : zS) (Q : Option Value → zS → Prop) : Prop :=
  ∀ s1, s1 = zf s 85 5 t1 → ∀ s2, s2 = zf s1 85 6 a6 → T 132 [.ref 83, .int a3, .int 1] s2 (fun v3 s4 => ∃ x5, v3 = some (.int x5) ∧ (∀ x6 : Int32, (-2147483648 ≤ x5.toInt + 1 ∧ x5.toInt + 1 ≤ 2147483647 → x6.toInt = x5.toInt + 1) → T 135 [.ref 83, .int a6, .int (s4.1 P 10)] s4 (fun v7 s8 => v7 = none ∧ (∀ x9 : Int32, (-2147483648 ≤ a5.toInt + 1 ∧ a5.toInt + 1 ≤ 2147483647 → x9.toInt = a5.toInt + 1) → R61 a2 x6 a4 x9 s8))))
def v_1_61 (T : Nat → List Value → zS → (Option Value → zS → Prop) → Prop) (P : Nat) (dz : Nat) (R61 : Int32 → Int32 → Int32 → Int32 → zS → Prop) (a2 : Int32) (a3 : Int32) (a4 : Int32) (a5 : Int32) (s : zS) (Q : Option Value → zS → Prop) : Prop :=
  (a2.toInt ≤ a5.toInt → v_1_97 T P dz  a2 a3 a4 a5 s Q) ∧ (¬ (a2.toInt ≤ a5.toInt) → (¬ ((s.1 P 14).toInt = 0) → v_1_97 T P dz  a2 a3 a4 a5 s Q) ∧ ((s.1 P 14).toInt = 0 → (¬ (a5.toInt = 0) → v_1_77 T P dz R61 a2 a3 a4 a5 (s.1 P 10) (s.1 85 5) s Q) ∧ (a5.toInt = 0 → v_1_77 T P dz R61 a2 a3 a4 a5 (s.1 P 10) (s.1 P 10) s Q)))
def vl_1_61 (T : Nat → List Value → zS → (Option Value → zS → Prop) → Prop) (P : Nat) (dz : Nat)  (a2 : Int32) (a3 : Int32) (a4 : Int32) (a5 : Int32) (s : zS) (Q : Option Value → zS → Prop) : Prop :=
  ∃ (I : Int32 → Int32 → Int32 → Int32 → zS → Prop) (μ : Int32 → Int32 → Int32 → Int32 → zS → Nat), I a2 a3 a4 a5 s ∧ ∀ (a2 : Int32) (a3 : Int32) (a4 : Int32) (a5 : Int32) (s : zS), I a2 a3 a4 a5 s → v_1_61 T P dz (fun a2' a3' a4' a5' s' => I a2' a3' a4' a5' s' ∧ μ a2' a3' a4' a5' s' < μ a2 a3 a4 a5 s) a2 a3 a4 a5 s Q
def v_1_30 (T : Nat → List Value → zS → (Option Value → zS → Prop) → Prop) (P : Nat) (dz : Nat)  (a2 : Int32) (a3 : Int32) (a4 : Int32) (s : zS) (Q : Option Value → zS → Prop) : Prop :=
  Q (some (.int (-1))) s
def v_1_29 (T : Nat → List Value → zS → (Option Value → zS → Prop) → Prop) (P : Nat) (dz : Nat) (R7 : Int32 → Int32 → Int32 → zS → Prop) (a2 : Int32) (a3 : Int32) (a4 : Int32) (t0 : Int32) (t1 : Int32) (s : zS) (Q : Option Value → zS → Prop) : Prop :=
  (t0.toInt = t1.toInt → ∀ x1 : Int32, (-2147483648 ≤ a3.toInt + 1 ∧ a3.toInt + 1 ≤ 2147483647 → x1.toInt = a3.toInt + 1) → ∀ x2 : Int32, (-2147483648 ≤ a4.toInt + 1 ∧ a4.toInt + 1 ≤ 2147483647 → x2.toInt = a4.toInt + 1) → R7 a2 x1 x2 s) ∧ (¬ (t0.toInt = t1.toInt) → v_1_30 T P dz  a2 a3 a4 s Q)
def v_1_7 (T : Nat → List Value → zS → (Option Value → zS → Prop) → Prop) (P : Nat) (dz : Nat) (R7 : Int32 → Int32 → Int32 → zS → Prop) (a2 : Int32) (a3 : Int32) (a4 : Int32) (s : zS) (Q : Option Value → zS → Prop) : Prop :=
  (a2.toInt ≤ a4.toInt → ((s.1 85 4).toInt = 0 → Zu dz [(75, 0), (75, 1), (75, 2)] [] [(75, 2, P + 22), (75, 1, P + 18), (75, 0, P)] 81 [.ref 75, .ref P, .int 18] s (fun v1 s2 => v1 = none ∧ (Zu dz [(83, 1), (83, 2)] [] [(83, 2, 86), (83, 1, P)] 121 [.ref 83, .ref P, .ref 86] s2 (fun v3 s4 => v3 = none ∧ (∀ s5, s5 = zf s4 P 14 0 → vl_1_61 T P dz  a2 0 (s5.1 P 10) 0 s5 Q))))) ∧ (¬ ((s.1 85 4).toInt = 0) → Q (some (.int (-2))) s)) ∧ (¬ (a2.toInt ≤ a4.toInt) → T 2 [.ref 85, .int a3] s (fun v6 s7 => ∃ x8, v6 = some (.int x8) ∧ ((x8.toInt < 0 → v_1_30 T P dz  a2 x8 a4 s7 Q) ∧ (¬ (x8.toInt < 0) → ∀ x9 : Int32, (-2147483648 ≤ a2.toInt - 1 ∧ a2.toInt - 1 ≤ 2147483647 → x9.toInt = a2.toInt - 1) → (x9.toInt ≤ a4.toInt → v_1_29 T P dz R7 a2 x8 a4 (zg s7 89 x8) 0 s7 Q) ∧ (¬ (x9.toInt ≤ a4.toInt) → v_1_29 T P dz R7 a2 x8 a4 (zg s7 89 x8) 59 s7 Q)))))
def vl_1_7 (T : Nat → List Value → zS → (Option Value → zS → Prop) → Prop) (P : Nat) (dz : Nat)  (a2 : Int32) (a3 : Int32) (a4 : Int32) (s : zS) (Q : Option Value → zS → Prop) : Prop :=
  ∃ (I : Int32 → Int32 → Int32 → zS → Prop) (μ : Int32 → Int32 → Int32 → zS → Nat), I a2 a3 a4 s ∧ ∀ (a2 : Int32) (a3 : Int32) (a4 : Int32) (s : zS), I a2 a3 a4 s → v_1_7 T P dz (fun a2' a3' a4' s' => I a2' a3' a4' s' ∧ μ a2' a3' a4' s' < μ a2 a3 a4 s) a2 a3 a4 s Q
def v_1_0 (T : Nat → List Value → zS → (Option Value → zS → Prop) → Prop) (P : Nat) (dz : Nat)  (a2 : Int32) (s : zS) (Q : Option Value → zS → Prop) : Prop :=
  ∀ s1, s1 = zf s 85 4 0 → vl_1_7 T P dz  a2 0 0 s1 Q
set_option maxRecDepth 20000 in
theorem m_1_106_3 {d d0 : Nat} (hd : d = d0 + 8)  {a2 : Int32} {a3 : Int32} {a4 : Int32} {a5 : Int32} {t0 : Int32} {s : zS} {Q : Option Value → zS → Prop}  (h : v_1_106 (fun j => Zt d (wd3 3 j) j) 3 d  a2 a3 a4 a5 t0 s Q) : Zm d [(75, 0), (75, 1), (75, 2), (83, 1), (83, 2)] [(3, 98)] ([(83, 2, 86), (83, 1, 3), (75, 2, 25), (75, 1, 21), (75, 0, 3)] : zW) xL_0 7 (some .int) xE_1 (xE_1.drop 106) [.ref 85, .ref 3, .int a2, .int a3, .int a4, .int a5, .null, .null, .null, .null] [.int t0] s (zR Q ([(83, 2, 86), (83, 1, 3), (75, 2, 25), (75, 1, 21), (75, 0, 3)] : zW)) := by
  unfold v_1_106 at h
  exact zm_retW rfl rfl h
set_option maxRecDepth 20000 in
theorem m_1_97_3 {d d0 : Nat} (hd : d = d0 + 8)  {a2 : Int32} {a3 : Int32} {a4 : Int32} {a5 : Int32} {s : zS} {Q : Option Value → zS → Prop}  (h : v_1_97 (fun j => Zt d (wd3 3 j) j) 3 d  a2 a3 a4 a5 s Q) : Zm d [(75, 0), (75, 1), (75, 2), (83, 1), (83, 2)] [(3, 98)] ([(83, 2, 86), (83, 1, 3), (75, 2, 25), (75, 1, 21), (75, 0, 3)] : zW) xL_0 7 (some .int) xE_1 (xE_1.drop 97) [.ref 85, .ref 3, .int a2, .int a3, .int a4, .int a5, .null, .null, .null, .null] [] s (zR Q ([(83, 2, 86), (83, 1, 3), (75, 2, 25), (75, 1, 21), (75, 0, 3)] : zW)) := by
  unfold v_1_97 at h
  refine zm_ld rfl rfl rfl ?_
  refine zm_ld rfl rfl rfl ?_
  refine zm_putI (a := 3) rfl rfl rfl rfl ⟨Int.le_trans (by decide) h.1.1, h.1.2⟩ rfl rfl rfl ?_ (hkl := Or.inr (Or.inl ⟨⟨by decide, rfl⟩, h.1.1⟩))
  replace h := h.2
  replace h := h _ rfl
  refine zm_ld rfl rfl rfl ?_
  refine zm_get (v := .int ((zf s 3 10 a4).1 3 14)) rfl (zv_I (a := 3) rfl rfl) ?_
  refine zm_brN rfl rfl ⟨fun hcn => ?_, fun hcn => ?_⟩
  · replace h := h.1 (fun q => hcn ((i_eq (x := (zf s 3 10 a4).1 3 14) (y := 0) rfl (show (0 : Int32).toInt = 0 by decide)).mpr q))
    refine zm_c [.int (-2)] (xo_push (.int (-2))) rfl rfl ?_
    exact m_1_106_3 hd  h
  · replace h := h.2 ((i_eq (x := (zf s 3 10 a4).1 3 14) (y := 0) rfl (show (0 : Int32).toInt = 0 by decide)).mp hcn)
    refine zm_c [.int 0] (xo_push (.int 0)) rfl rfl ?_
    refine zm_go rfl ?_
    exact m_1_106_3 hd  h
set_option maxRecDepth 20000 in
theorem m_1_77_3 {d d0 : Nat} (hd : d = d0 + 8) {R61 : Int32 → Int32 → Int32 → Int32 → zS → Prop} {a2 : Int32} {a3 : Int32} {a4 : Int32} {a5 : Int32} {a6 : Int32} {t1 : Int32} {s : zS} {Q : Option Value → zS → Prop} (r61 : ∀ a2 a3 a4 a5 s, R61 a2 a3 a4 a5 s → Zm d [(75, 0), (75, 1), (75, 2), (83, 1), (83, 2)] [(3, 98)] ([(83, 2, 86), (83, 1, 3), (75, 2, 25), (75, 1, 21), (75, 0, 3)] : zW) xL_0 7 (some .int) xE_1 (xE_1.drop 61) [.ref 85, .ref 3, .int a2, .int a3, .int a4, .int a5, .null, .null, .null, .null] [] s (zR Q ([(83, 2, 86), (83, 1, 3), (75, 2, 25), (75, 1, 21), (75, 0, 3)] : zW))) (h : v_1_77 (fun j => Zt d (wd3 3 j) j) 3 d R61 a2 a3 a4 a5 a6 t1 s Q) : Zm d [(75, 0), (75, 1), (75, 2), (83, 1), (83, 2)] [(3, 98)] ([(83, 2, 86), (83, 1, 3), (75, 2, 25), (75, 1, 21), (75, 0, 3)] : zW) xL_0 7 (some .int) xE_1 (xE_1.drop 77) [.ref 85, .ref 3, .int a2, .int a3, .int a4, .int a5, .int a6, .null, .null, .null] [.int t1, .ref 85] s (zR Q ([(83, 2, 86), (83, 1, 3), (75, 2, 25), (75, 1, 21), (75, 0, 3)] : zW)) := by
  unfold v_1_77 at h
  refine zm_putI (a := 85) rfl rfl rfl rfl ⟨Int32.le_toInt _, Int.le_of_lt_add_one (Int32.toInt_lt _)⟩ rfl rfl rfl ?_
  replace h := h _ rfl
  refine zm_ld rfl rfl rfl ?_
  refine zm_ld rfl rfl rfl ?_
  refine zm_putI (a := 85) rfl rfl rfl rfl ⟨Int32.le_toInt _, Int.le_of_lt_add_one (Int32.toInt_lt _)⟩ rfl rfl rfl ?_
  replace h := h _ rfl
  refine zm_ld rfl rfl rfl ?_
  refine zm_get (v := .ref 83) rfl (zv_R (a := 85) rfl rfl) ?_
  refine zm_ld rfl rfl rfl ?_
  refine zm_c [.int 1, .int a3, .ref 83] (xo_push (.int 1)) rfl rfl ?_
  refine zm_zt [.ref 83, .int a3, .int 1] [] rfl rfl rfl rfl rfl (Zt.imp h (fun v3 s4 h => ?_))
  obtain ⟨x5, rfl, h⟩ := h
  change Zm _ _ _ _ _ _ _ _ _ _ [.int x5] _ _
  refine zm_c [.int 1, .int x5] (xo_push (.int 1)) rfl rfl ?_
  replace h := h _ (i_add (x := x5) (y := 1) rfl (show (1 : Int32).toInt = 1 by decide))
  refine zm_c [.int (x5 + 1)] xo_iadd rfl rfl ?_
  refine zm_st [.ref 85, .ref 3, .int a2, .int (x5 + 1), .int a4, .int a5, .int a6, .null, .null, .null] rfl rfl rfl ?_
  refine zm_ld rfl rfl rfl ?_
  refine zm_get (v := .ref 83) rfl (zv_R (a := 85) rfl rfl) ?_
  refine zm_ld rfl rfl rfl ?_
  refine zm_ld rfl rfl rfl ?_
  refine zm_get (v := .int (s4.1 3 10)) rfl (zv_I (a := 3) rfl rfl) ?_
  refine zm_zt [.ref 83, .int a6, .int (s4.1 3 10)] [] rfl rfl rfl rfl rfl (Zt.imp h (fun v7 s8 h => ?_))
  obtain ⟨rfl, h⟩ := h
  change Zm _ _ _ _ _ _ _ _ _ _ [] _ _
  replace h := h _ (i_add (x := a5) (y := 1) rfl (show (1 : Int32).toInt = 1 by decide))
  refine zm_inc [.ref 85, .ref 3, .int a2, .int (x5 + 1), .int a4, .int (a5 + 1), .int a6, .null, .null, .null] rfl rfl rfl rfl ?_
  refine zm_go rfl ?_
  refine zm_fg 6 ?_
  exact r61 a2 (x5 + 1) a4 (a5 + 1) s8 h
set_option maxRecDepth 20000 in
theorem m_1_61_3 {d d0 : Nat} (hd : d = d0 + 8) {R61 : Int32 → Int32 → Int32 → Int32 → zS → Prop} {a2 : Int32} {a3 : Int32} {a4 : Int32} {a5 : Int32} {s : zS} {Q : Option Value → zS → Prop} (r61 : ∀ a2 a3 a4 a5 s, R61 a2 a3 a4 a5 s → Zm d [(75, 0), (75, 1), (75, 2), (83, 1), (83, 2)] [(3, 98)] ([(83, 2, 86), (83, 1, 3), (75, 2, 25), (75, 1, 21), (75, 0, 3)] : zW) xL_0 7 (some .int) xE_1 (xE_1.drop 61) [.ref 85, .ref 3, .int a2, .int a3, .int a4, .int a5, .null, .null, .null, .null] [] s (zR Q ([(83, 2, 86), (83, 1, 3), (75, 2, 25), (75, 1, 21), (75, 0, 3)] : zW))) (h : v_1_61 (fun j => Zt d (wd3 3 j) j) 3 d R61 a2 a3 a4 a5 s Q) : Zm d [(75, 0), (75, 1), (75, 2), (83, 1), (83, 2)] [(3, 98)] ([(83, 2, 86), (83, 1, 3), (75, 2, 25), (75, 1, 21), (75, 0, 3)] : zW) xL_0 7 (some .int) xE_1 (xE_1.drop 61) [.ref 85, .ref 3, .int a2, .int a3, .int a4, .int a5, .null, .null, .null, .null] [] s (zR Q ([(83, 2, 86), (83, 1, 3), (75, 2, 25), (75, 1, 21), (75, 0, 3)] : zW)) := by
  unfold v_1_61 at h
  refine zm_ld rfl rfl rfl ?_
  refine zm_ld rfl rfl rfl ?_
  refine zm_brP rfl rfl ⟨fun hcn => ?_, fun hcn => ?_⟩
  · replace h := h.1 ((i_le (x := a2) (y := a5) rfl rfl).mp hcn)
    exact m_1_97_3 hd  h
  · replace h := h.2 (fun q => hcn ((i_le (x := a2) (y := a5) rfl rfl).mpr q))
    refine zm_ld rfl rfl rfl ?_
    refine zm_get (v := .int (s.1 3 14)) rfl (zv_I (a := 3) rfl rfl) ?_
    refine zm_brN rfl rfl ⟨fun hcn => ?_, fun hcn => ?_⟩
    · replace h := h.1 (fun q => hcn ((i_eq (x := s.1 3 14) (y := 0) rfl (show (0 : Int32).toInt = 0 by decide)).mpr q))
      exact m_1_97_3 hd  h
    · replace h := h.2 ((i_eq (x := s.1 3 14) (y := 0) rfl (show (0 : Int32).toInt = 0 by decide)).mp hcn)
      refine zm_ld rfl rfl rfl ?_
      refine zm_get (v := .int (s.1 3 10)) rfl (zv_I (a := 3) rfl rfl) ?_
      refine zm_st [.ref 85, .ref 3, .int a2, .int a3, .int a4, .int a5, .int (s.1 3 10), .null, .null, .null] rfl rfl rfl ?_
      refine zm_ld rfl rfl rfl ?_
      refine zm_ld rfl rfl rfl ?_
      refine zm_brN rfl rfl ⟨fun hcn => ?_, fun hcn => ?_⟩
      · replace h := h.1 (fun q => hcn ((i_eq (x := a5) (y := 0) rfl (show (0 : Int32).toInt = 0 by decide)).mpr q))
        refine zm_ld rfl rfl rfl ?_
        refine zm_get (v := .int (s.1 85 5)) rfl (zv_I (a := 85) rfl rfl) ?_
        exact m_1_77_3 hd r61 h
      · replace h := h.2 ((i_eq (x := a5) (y := 0) rfl (show (0 : Int32).toInt = 0 by decide)).mp hcn)
        refine zm_ld rfl rfl rfl ?_
        refine zm_go rfl ?_
        exact m_1_77_3 hd r61 h
theorem ml_1_61_3 {d d0 : Nat} (hd : d = d0 + 8)  {a2 : Int32} {a3 : Int32} {a4 : Int32} {a5 : Int32} {s : zS} {Q : Option Value → zS → Prop}  (h : vl_1_61 (fun j => Zt d (wd3 3 j) j) 3 d  a2 a3 a4 a5 s Q) : Zm d [(75, 0), (75, 1), (75, 2), (83, 1), (83, 2)] [(3, 98)] ([(83, 2, 86), (83, 1, 3), (75, 2, 25), (75, 1, 21), (75, 0, 3)] : zW) xL_0 7 (some .int) xE_1 (xE_1.drop 61) [.ref 85, .ref 3, .int a2, .int a3, .int a4, .int a5, .null, .null, .null, .null] [] s (zR Q ([(83, 2, 86), (83, 1, 3), (75, 2, 25), (75, 1, 21), (75, 0, 3)] : zW)) := by
  obtain ⟨I, μ, h0, h1⟩ := h
  have key : ∀ (n : Nat) (a2 : Int32) (a3 : Int32) (a4 : Int32) (a5 : Int32) (s : zS), μ a2 a3 a4 a5 s = n → I a2 a3 a4 a5 s → Zm d [(75, 0), (75, 1), (75, 2), (83, 1), (83, 2)] [(3, 98)] ([(83, 2, 86), (83, 1, 3), (75, 2, 25), (75, 1, 21), (75, 0, 3)] : zW) xL_0 7 (some .int) xE_1 (xE_1.drop 61) [.ref 85, .ref 3, .int a2, .int a3, .int a4, .int a5, .null, .null, .null, .null] [] s (zR Q ([(83, 2, 86), (83, 1, 3), (75, 2, 25), (75, 1, 21), (75, 0, 3)] : zW)) := by
    intro n
    induction n using Nat.strongRecOn with
    | ind n ih =>
      intro a2 a3 a4 a5 s e hI
      exact m_1_61_3 hd (fun a2' a3' a4' a5' s' q => ih _ (by rw [← e]; exact q.2) a2' a3' a4' a5' s' rfl q.1) (h1 a2 a3 a4 a5 s hI)
  exact key _ a2 a3 a4 a5 s rfl h0
set_option maxRecDepth 20000 in
theorem m_1_30_3 {d d0 : Nat} (hd : d = d0 + 8)  {a2 : Int32} {a3 : Int32} {a4 : Int32} {s : zS} {Q : Option Value → zS → Prop}  (h : v_1_30 (fun j => Zt d (wd3 3 j) j) 3 d  a2 a3 a4 s Q) : Zm d [(75, 0), (75, 1), (75, 2), (83, 1), (83, 2)] [(3, 98)] ([] : zW) xL_0 7 (some .int) xE_1 (xE_1.drop 30) [.ref 85, .ref 3, .int a2, .int a3, .int a4, .null, .null, .null, .null, .null] [] s (zR Q ([(83, 2, 86), (83, 1, 3), (75, 2, 25), (75, 1, 21), (75, 0, 3)] : zW)) := by
  unfold v_1_30 at h
  refine zm_c [.int (-1)] (xo_push (.int (-1))) rfl rfl ?_
  exact zm_retN rfl (by decide) h
set_option maxRecDepth 20000 in
theorem m_1_29_3 {d d0 : Nat} (hd : d = d0 + 8) {R7 : Int32 → Int32 → Int32 → zS → Prop} {a2 : Int32} {a3 : Int32} {a4 : Int32} {t0 : Int32} {t1 : Int32} {s : zS} {Q : Option Value → zS → Prop} (r7 : ∀ a2 a3 a4 s, R7 a2 a3 a4 s → Zm d [(75, 0), (75, 1), (75, 2), (83, 1), (83, 2)] [(3, 98)] ([] : zW) xL_0 7 (some .int) xE_1 (xE_1.drop 7) [.ref 85, .ref 3, .int a2, .int a3, .int a4, .null, .null, .null, .null, .null] [] s (zR Q ([(83, 2, 86), (83, 1, 3), (75, 2, 25), (75, 1, 21), (75, 0, 3)] : zW))) (h : v_1_29 (fun j => Zt d (wd3 3 j) j) 3 d R7 a2 a3 a4 t0 t1 s Q) : Zm d [(75, 0), (75, 1), (75, 2), (83, 1), (83, 2)] [(3, 98)] ([] : zW) xL_0 7 (some .int) xE_1 (xE_1.drop 29) [.ref 85, .ref 3, .int a2, .int a3, .int a4, .null, .null, .null, .null, .null] [.int t1, .int t0] s (zR Q ([(83, 2, 86), (83, 1, 3), (75, 2, 25), (75, 1, 21), (75, 0, 3)] : zW)) := by
  unfold v_1_29 at h
  refine zm_brP rfl rfl ⟨fun hcn => ?_, fun hcn => ?_⟩
  · replace h := h.1 ((i_eq (x := t0) (y := t1) rfl rfl).mp hcn)
    replace h := h _ (i_add (x := a3) (y := 1) rfl (show (1 : Int32).toInt = 1 by decide))
    refine zm_inc [.ref 85, .ref 3, .int a2, .int (a3 + 1), .int a4, .null, .null, .null, .null, .null] rfl rfl rfl rfl ?_
    replace h := h _ (i_add (x := a4) (y := 1) rfl (show (1 : Int32).toInt = 1 by decide))
    refine zm_inc [.ref 85, .ref 3, .int a2, .int (a3 + 1), .int (a4 + 1), .null, .null, .null, .null, .null] rfl rfl rfl rfl ?_
    refine zm_go rfl ?_
    exact r7 a2 (a3 + 1) (a4 + 1) s h
  · replace h := h.2 (fun q => hcn ((i_eq (x := t0) (y := t1) rfl rfl).mpr q))
    exact m_1_30_3 hd  h
set_option maxRecDepth 20000 in
theorem m_1_7_3 {d d0 : Nat} (hd : d = d0 + 8) {R7 : Int32 → Int32 → Int32 → zS → Prop} {a2 : Int32} {a3 : Int32} {a4 : Int32} {s : zS} {Q : Option Value → zS → Prop} (r7 : ∀ a2 a3 a4 s, R7 a2 a3 a4 s → Zm d [(75, 0), (75, 1), (75, 2), (83, 1), (83, 2)] [(3, 98)] ([] : zW) xL_0 7 (some .int) xE_1 (xE_1.drop 7) [.ref 85, .ref 3, .int a2, .int a3, .int a4, .null, .null, .null, .null, .null] [] s (zR Q ([(83, 2, 86), (83, 1, 3), (75, 2, 25), (75, 1, 21), (75, 0, 3)] : zW))) (h : v_1_7 (fun j => Zt d (wd3 3 j) j) 3 d R7 a2 a3 a4 s Q) : Zm d [(75, 0), (75, 1), (75, 2), (83, 1), (83, 2)] [(3, 98)] ([] : zW) xL_0 7 (some .int) xE_1 (xE_1.drop 7) [.ref 85, .ref 3, .int a2, .int a3, .int a4, .null, .null, .null, .null, .null] [] s (zR Q ([(83, 2, 86), (83, 1, 3), (75, 2, 25), (75, 1, 21), (75, 0, 3)] : zW)) := by
  unfold v_1_7 at h
  refine zm_ld rfl rfl rfl ?_
  refine zm_ld rfl rfl rfl ?_
  refine zm_brP rfl rfl ⟨fun hcn => ?_, fun hcn => ?_⟩
  · replace h := h.1 ((i_le (x := a2) (y := a4) rfl rfl).mp hcn)
    refine zm_ld rfl rfl rfl ?_
    refine zm_get (v := .int (s.1 85 4)) rfl (zv_I (a := 85) rfl rfl) ?_
    refine zm_brP rfl rfl ⟨fun hcn => ?_, fun hcn => ?_⟩
    · replace h := h.1 ((i_eq (x := s.1 85 4) (y := 0) rfl (show (0 : Int32).toInt = 0 by decide)).mp hcn)
      refine zm_ld rfl rfl rfl ?_
      refine zm_get (v := .ref 75) rfl (zv_R (a := 85) rfl rfl) ?_
      refine zm_ld rfl rfl rfl ?_
      refine zm_c [.int 18, .ref 3, .ref 75] (xo_push (.int 18)) rfl rfl ?_
      refine zm_zu [.ref 75, .ref 3, .int 18] [] (c := ([] : zW)) (c' := ([(75, 2, 25), (75, 1, 21), (75, 0, 3)] : zW)) (w1 := ([] : zW)) rfl rfl rfl rfl rfl rfl rfl (Zu.imp h (fun v1 s2 h => ?_))
      obtain ⟨rfl, h⟩ := h
      change Zm _ _ _ _ _ _ _ _ _ _ [] _ _
      refine zm_ld rfl rfl rfl ?_
      refine zm_get (v := .ref 83) rfl (zv_R (a := 85) rfl rfl) ?_
      refine zm_ld rfl rfl rfl ?_
      refine zm_ld rfl rfl rfl ?_
      refine zm_get (v := .ref 86) rfl (zv_R (a := 85) rfl rfl) ?_
      refine zm_zu [.ref 83, .ref 3, .ref 86] [] (c := ([] : zW)) (c' := ([(83, 2, 86), (83, 1, 3)] : zW)) (w1 := ([(75, 2, 25), (75, 1, 21), (75, 0, 3)] : zW)) rfl rfl rfl rfl rfl rfl rfl (Zu.imp h (fun v3 s4 h => ?_))
      obtain ⟨rfl, h⟩ := h
      change Zm _ _ _ _ _ _ _ _ _ _ [] _ _
      refine zm_ld rfl rfl rfl ?_
      refine zm_c [.int 0, .ref 3] (xo_push (.int 0)) rfl rfl ?_
      refine zm_putI (a := 3) rfl rfl rfl rfl ⟨Int32.le_toInt _, Int.le_of_lt_add_one (Int32.toInt_lt _)⟩ rfl rfl rfl ?_
      replace h := h _ rfl
      refine zm_ld rfl rfl rfl ?_
      refine zm_get (v := .int ((zf s4 3 14 0).1 3 10)) rfl (zv_I (a := 3) rfl rfl) ?_
      refine zm_st [.ref 85, .ref 3, .int a2, .int a3, .int ((zf s4 3 14 0).1 3 10), .null, .null, .null, .null, .null] rfl rfl rfl ?_
      refine zm_c [.int 0] (xo_push (.int 0)) rfl rfl ?_
      refine zm_st [.ref 85, .ref 3, .int a2, .int 0, .int ((zf s4 3 14 0).1 3 10), .null, .null, .null, .null, .null] rfl rfl rfl ?_
      refine zm_c [.int 0] (xo_push (.int 0)) rfl rfl ?_
      refine zm_st [.ref 85, .ref 3, .int a2, .int 0, .int ((zf s4 3 14 0).1 3 10), .int 0, .null, .null, .null, .null] rfl rfl rfl ?_
      exact ml_1_61_3 hd  h
    · replace h := h.2 (fun q => hcn ((i_eq (x := s.1 85 4) (y := 0) rfl (show (0 : Int32).toInt = 0 by decide)).mpr q))
      refine zm_c [.int (-2)] (xo_push (.int (-2))) rfl rfl ?_
      exact zm_retN rfl (by decide) h
  · replace h := h.2 (fun q => hcn ((i_le (x := a2) (y := a4) rfl rfl).mpr q))
    refine zm_ld rfl rfl rfl ?_
    refine zm_ld rfl rfl rfl ?_
    refine zm_zt [.ref 85, .int a3] [] rfl rfl rfl rfl rfl (Zt.imp h (fun v6 s7 h => ?_))
    obtain ⟨x8, rfl, h⟩ := h
    change Zm _ _ _ _ _ _ _ _ _ _ [.int x8] _ _
    refine zm_st [.ref 85, .ref 3, .int a2, .int x8, .int a4, .null, .null, .null, .null, .null] rfl rfl rfl ?_
    refine zm_ld rfl rfl rfl ?_
    refine zm_brP rfl rfl ⟨fun hcn => ?_, fun hcn => ?_⟩
    · replace h := h.1 ((i_lt (x := x8) (y := 0) rfl (show (0 : Int32).toInt = 0 by decide)).mp hcn)
      exact m_1_30_3 hd  h
    · replace h := h.2 (fun q => hcn ((i_lt (x := x8) (y := 0) rfl (show (0 : Int32).toInt = 0 by decide)).mpr q))
      refine zm_ld rfl rfl rfl ?_
      refine zm_get (v := .ref 86) rfl (zv_R (a := 85) rfl rfl) ?_
      refine zm_get (v := .ref 89) rfl (zv_R (a := 86) rfl rfl) ?_
      refine zm_ld rfl rfl rfl ?_
      refine zm_row x8 [] (a := 89) hd rfl rfl rfl rfl ?_
      change Zm _ _ _ _ _ _ _ _ _ _ [.int (zg s7 89 x8)] _ _
      refine zm_ld rfl rfl rfl ?_
      refine zm_ld rfl rfl rfl ?_
      refine zm_c [.int 1, .int a2, .int a4, .int (zg s7 89 x8)] (xo_push (.int 1)) rfl rfl ?_
      replace h := h _ (i_sub (x := a2) (y := 1) rfl (show (1 : Int32).toInt = 1 by decide))
      refine zm_c [.int (a2 - 1), .int a4, .int (zg s7 89 x8)] xo_isub rfl rfl ?_
      refine zm_brP rfl rfl ⟨fun hcn => ?_, fun hcn => ?_⟩
      · replace h := h.1 ((i_le (x := (a2 - 1)) (y := a4) rfl rfl).mp hcn)
        refine zm_c [.int 0, .int (zg s7 89 x8)] (xo_push (.int 0)) rfl rfl ?_
        exact m_1_29_3 hd r7 h
      · replace h := h.2 (fun q => hcn ((i_le (x := (a2 - 1)) (y := a4) rfl rfl).mpr q))
        refine zm_c [.int 59, .int (zg s7 89 x8)] (xo_push (.int 59)) rfl rfl ?_
        refine zm_go rfl ?_
        exact m_1_29_3 hd r7 h
theorem ml_1_7_3 {d d0 : Nat} (hd : d = d0 + 8)  {a2 : Int32} {a3 : Int32} {a4 : Int32} {s : zS} {Q : Option Value → zS → Prop}  (h : vl_1_7 (fun j => Zt d (wd3 3 j) j) 3 d  a2 a3 a4 s Q) : Zm d [(75, 0), (75, 1), (75, 2), (83, 1), (83, 2)] [(3, 98)] ([] : zW) xL_0 7 (some .int) xE_1 (xE_1.drop 7) [.ref 85, .ref 3, .int a2, .int a3, .int a4, .null, .null, .null, .null, .null] [] s (zR Q ([(83, 2, 86), (83, 1, 3), (75, 2, 25), (75, 1, 21), (75, 0, 3)] : zW)) := by
  obtain ⟨I, μ, h0, h1⟩ := h
  have key : ∀ (n : Nat) (a2 : Int32) (a3 : Int32) (a4 : Int32) (s : zS), μ a2 a3 a4 s = n → I a2 a3 a4 s → Zm d [(75, 0), (75, 1), (75, 2), (83, 1), (83, 2)] [(3, 98)] ([] : zW) xL_0 7 (some .int) xE_1 (xE_1.drop 7) [.ref 85, .ref 3, .int a2, .int a3, .int a4, .null, .null, .null, .null, .null] [] s (zR Q ([(83, 2, 86), (83, 1, 3), (75, 2, 25), (75, 1, 21), (75, 0, 3)] : zW)) := by
    intro n
    induction n using Nat.strongRecOn with
    | ind n ih =>
      intro a2 a3 a4 s e hI
      exact m_1_7_3 hd (fun a2' a3' a4' s' q => ih _ (by rw [← e]; exact q.2) a2' a3' a4' s' rfl q.1) (h1 a2 a3 a4 s hI)
  exact key _ a2 a3 a4 s rfl h0
set_option maxRecDepth 20000 in
theorem m_1_0_3 {d d0 : Nat} (hd : d = d0 + 8)  {a2 : Int32} {s : zS} {Q : Option Value → zS → Prop}  (h : v_1_0 (fun j => Zt d (wd3 3 j) j) 3 d  a2 s Q) : Zm d [(75, 0), (75, 1), (75, 2), (83, 1), (83, 2)] [(3, 98)] ([] : zW) xL_0 7 (some .int) xE_1 (xE_1.drop 0) [.ref 85, .ref 3, .int a2, .null, .null, .null, .null, .null, .null, .null] [] s (zR Q ([(83, 2, 86), (83, 1, 3), (75, 2, 25), (75, 1, 21), (75, 0, 3)] : zW)) := by
  unfold v_1_0 at h
  refine zm_ld rfl rfl rfl ?_
  refine zm_c [.int 0, .ref 85] (xo_push (.int 0)) rfl rfl ?_
  refine zm_putI (a := 85) rfl rfl rfl rfl (by decide) rfl rfl rfl ?_
  replace h := h _ rfl
  refine zm_c [.int 0] (xo_push (.int 0)) rfl rfl ?_
  refine zm_st [.ref 85, .ref 3, .int a2, .int 0, .null, .null, .null, .null, .null, .null] rfl rfl rfl ?_
  refine zm_c [.int 0] (xo_push (.int 0)) rfl rfl ?_
  refine zm_st [.ref 85, .ref 3, .int a2, .int 0, .int 0, .null, .null, .null, .null, .null] rfl rfl rfl ?_
  exact ml_1_7_3 hd  h
theorem zq_1_3 {d : Nat} {a2 : Int32} {s : zS} {Q : Option Value → zS → Prop} (h : v_1_0 (fun j => Zt (d + 8) (wd3 3 j) j) 3 (d + 8) a2 s Q) : Zx (d + 9) [(75, 0), (75, 1), (75, 2), (83, 1), (83, 2)] ([] : zW) ([(83, 2, 86), (83, 1, 3), (75, 2, 25), (75, 1, 21), (75, 0, 3)] : zW) 1 [.ref 85, .ref 3, .int a2] s Q := zx_of (E := xE_1) (L := xL_0) (ml := 7) (ret := some .int) rfl rfl rfl (m_1_0_3 rfl h)
set_option maxRecDepth 20000 in
theorem m_1_106_39 {d d0 : Nat} (hd : d = d0 + 8)  {a2 : Int32} {a3 : Int32} {a4 : Int32} {a5 : Int32} {t0 : Int32} {s : zS} {Q : Option Value → zS → Prop}  (h : v_1_106 (fun j => Zt d (wd3 39 j) j) 39 d  a2 a3 a4 a5 t0 s Q) : Zm d [(75, 0), (75, 1), (75, 2), (83, 1), (83, 2)] [(39, 98)] ([(83, 2, 86), (83, 1, 39), (75, 2, 61), (75, 1, 57), (75, 0, 39)] : zW) xL_0 7 (some .int) xE_1 (xE_1.drop 106) [.ref 85, .ref 39, .int a2, .int a3, .int a4, .int a5, .null, .null, .null, .null] [.int t0] s (zR Q ([(83, 2, 86), (83, 1, 39), (75, 2, 61), (75, 1, 57), (75, 0, 39)] : zW)) := by
  unfold v_1_106 at h
  exact zm_retW rfl rfl h
set_option maxRecDepth 20000 in
theorem m_1_97_39 {d d0 : Nat} (hd : d = d0 + 8)  {a2 : Int32} {a3 : Int32} {a4 : Int32} {a5 : Int32} {s : zS} {Q : Option Value → zS → Prop}  (h : v_1_97 (fun j => Zt d (wd3 39 j) j) 39 d  a2 a3 a4 a5 s Q) : Zm d [(75, 0), (75, 1), (75, 2), (83, 1), (83, 2)] [(39, 98)] ([(83, 2, 86), (83, 1, 39), (75, 2, 61), (75, 1, 57), (75, 0, 39)] : zW) xL_0 7 (some .int) xE_1 (xE_1.drop 97) [.ref 85, .ref 39, .int a2, .int a3, .int a4, .int a5, .null, .null, .null, .null] [] s (zR Q ([(83, 2, 86), (83, 1, 39), (75, 2, 61), (75, 1, 57), (75, 0, 39)] : zW)) := by
  unfold v_1_97 at h
  refine zm_ld rfl rfl rfl ?_
  refine zm_ld rfl rfl rfl ?_
  refine zm_putI (a := 39) rfl rfl rfl rfl ⟨Int.le_trans (by decide) h.1.1, h.1.2⟩ rfl rfl rfl ?_ (hkl := Or.inr (Or.inl ⟨⟨by decide, rfl⟩, h.1.1⟩))
  replace h := h.2
  replace h := h _ rfl
  refine zm_ld rfl rfl rfl ?_
  refine zm_get (v := .int ((zf s 39 10 a4).1 39 14)) rfl (zv_I (a := 39) rfl rfl) ?_
  refine zm_brN rfl rfl ⟨fun hcn => ?_, fun hcn => ?_⟩
  · replace h := h.1 (fun q => hcn ((i_eq (x := (zf s 39 10 a4).1 39 14) (y := 0) rfl (show (0 : Int32).toInt = 0 by decide)).mpr q))
    refine zm_c [.int (-2)] (xo_push (.int (-2))) rfl rfl ?_
    exact m_1_106_39 hd  h
  · replace h := h.2 ((i_eq (x := (zf s 39 10 a4).1 39 14) (y := 0) rfl (show (0 : Int32).toInt = 0 by decide)).mp hcn)
    refine zm_c [.int 0] (xo_push (.int 0)) rfl rfl ?_
    refine zm_go rfl ?_
    exact m_1_106_39 hd  h
set_option maxRecDepth 20000 in
theorem m_1_77_39 {d d0 : Nat} (hd : d = d0 + 8) {R61 : Int32 → Int32 → Int32 → Int32 → zS → Prop} {a2 : Int32} {a3 : Int32} {a4 : Int32} {a5 : Int32} {a6 : Int32} {t1 : Int32} {s : zS} {Q : Option Value → zS → Prop} (r61 : ∀ a2 a3 a4 a5 s, R61 a2 a3 a4 a5 s → Zm d [(75, 0), (75, 1), (75, 2), (83, 1), (83, 2)] [(39, 98)] ([(83, 2, 86), (83, 1, 39), (75, 2, 61), (75, 1, 57), (75, 0, 39)] : zW) xL_0 7 (some .int) xE_1 (xE_1.drop 61) [.ref 85, .ref 39, .int a2, .int a3, .int a4, .int a5, .null, .null, .null, .null] [] s (zR Q ([(83, 2, 86), (83, 1, 39), (75, 2, 61), (75, 1, 57), (75, 0, 39)] : zW))) (h : v_1_77 (fun j => Zt d (wd3 39 j) j) 39 d R61 a2 a3 a4 a5 a6 t1 s Q) : Zm d [(75, 0), (75, 1), (75, 2), (83, 1), (83, 2)] [(39, 98)] ([(83, 2, 86), (83, 1, 39), (75, 2, 61), (75, 1, 57), (75, 0, 39)] : zW) xL_0 7 (some .int) xE_1 (xE_1.drop 77) [.ref 85, .ref 39, .int a2, .int a3, .int a4, .int a5, .int a6, .null, .null, .null] [.int t1, .ref 85] s (zR Q ([(83, 2, 86), (83, 1, 39), (75, 2, 61), (75, 1, 57), (75, 0, 39)] : zW)) := by
  unfold v_1_77 at h
  refine zm_putI (a := 85) rfl rfl rfl rfl ⟨Int32.le_toInt _, Int.le_of_lt_add_one (Int32.toInt_lt _)⟩ rfl rfl rfl ?_
  replace h := h _ rfl
  refine zm_ld rfl rfl rfl ?_
  refine zm_ld rfl rfl rfl ?_
  refine zm_putI (a := 85) rfl rfl rfl rfl ⟨Int32.le_toInt _, Int.le_of_lt_add_one (Int32.toInt_lt _)⟩ rfl rfl rfl ?_
  replace h := h _ rfl
  refine zm_ld rfl rfl rfl ?_
  refine zm_get (v := .ref 83) rfl (zv_R (a := 85) rfl rfl) ?_
  refine zm_ld rfl rfl rfl ?_
  refine zm_c [.int 1, .int a3, .ref 83] (xo_push (.int 1)) rfl rfl ?_
  refine zm_zt [.ref 83, .int a3, .int 1] [] rfl rfl rfl rfl rfl (Zt.imp h (fun v3 s4 h => ?_))
  obtain ⟨x5, rfl, h⟩ := h
  change Zm _ _ _ _ _ _ _ _ _ _ [.int x5] _ _
  refine zm_c [.int 1, .int x5] (xo_push (.int 1)) rfl rfl ?_
  replace h := h _ (i_add (x := x5) (y := 1) rfl (show (1 : Int32).toInt = 1 by decide))
  refine zm_c [.int (x5 + 1)] xo_iadd rfl rfl ?_
  refine zm_st [.ref 85, .ref 39, .int a2, .int (x5 + 1), .int a4, .int a5, .int a6, .null, .null, .null] rfl rfl rfl ?_
  refine zm_ld rfl rfl rfl ?_
  refine zm_get (v := .ref 83) rfl (zv_R (a := 85) rfl rfl) ?_
  refine zm_ld rfl rfl rfl ?_
  refine zm_ld rfl rfl rfl ?_
  refine zm_get (v := .int (s4.1 39 10)) rfl (zv_I (a := 39) rfl rfl) ?_
  refine zm_zt [.ref 83, .int a6, .int (s4.1 39 10)] [] rfl rfl rfl rfl rfl (Zt.imp h (fun v7 s8 h => ?_))
  obtain ⟨rfl, h⟩ := h
  change Zm _ _ _ _ _ _ _ _ _ _ [] _ _
  replace h := h _ (i_add (x := a5) (y := 1) rfl (show (1 : Int32).toInt = 1 by decide))
  refine zm_inc [.ref 85, .ref 39, .int a2, .int (x5 + 1), .int a4, .int (a5 + 1), .int a6, .null, .null, .null] rfl rfl rfl rfl ?_
  refine zm_go rfl ?_
  refine zm_fg 6 ?_
  exact r61 a2 (x5 + 1) a4 (a5 + 1) s8 h
set_option maxRecDepth 20000 in
theorem m_1_61_39 {d d0 : Nat} (hd : d = d0 + 8) {R61 : Int32 → Int32 → Int32 → Int32 → zS → Prop} {a2 : Int32} {a3 : Int32} {a4 : Int32} {a5 : Int32} {s : zS} {Q : Option Value → zS → Prop} (r61 : ∀ a2 a3 a4 a5 s, R61 a2 a3 a4 a5 s → Zm d [(75, 0), (75, 1), (75, 2), (83, 1), (83, 2)] [(39, 98)] ([(83, 2, 86), (83, 1, 39), (75, 2, 61), (75, 1, 57), (75, 0, 39)] : zW) xL_0 7 (some .int) xE_1 (xE_1.drop 61) [.ref 85, .ref 39, .int a2, .int a3, .int a4, .int a5, .null, .null, .null, .null] [] s (zR Q ([(83, 2, 86), (83, 1, 39), (75, 2, 61), (75, 1, 57), (75, 0, 39)] : zW))) (h : v_1_61 (fun j => Zt d (wd3 39 j) j) 39 d R61 a2 a3 a4 a5 s Q) : Zm d [(75, 0), (75, 1), (75, 2), (83, 1), (83, 2)] [(39, 98)] ([(83, 2, 86), (83, 1, 39), (75, 2, 61), (75, 1, 57), (75, 0, 39)] : zW) xL_0 7 (some .int) xE_1 (xE_1.drop 61) [.ref 85, .ref 39, .int a2, .int a3, .int a4, .int a5, .null, .null, .null, .null] [] s (zR Q ([(83, 2, 86), (83, 1, 39), (75, 2, 61), (75, 1, 57), (75, 0, 39)] : zW)) := by
  unfold v_1_61 at h
  refine zm_ld rfl rfl rfl ?_
  refine zm_ld rfl rfl rfl ?_
  refine zm_brP rfl rfl ⟨fun hcn => ?_, fun hcn => ?_⟩
  · replace h := h.1 ((i_le (x := a2) (y := a5) rfl rfl).mp hcn)
    exact m_1_97_39 hd  h
  · replace h := h.2 (fun q => hcn ((i_le (x := a2) (y := a5) rfl rfl).mpr q))
    refine zm_ld rfl rfl rfl ?_
    refine zm_get (v := .int (s.1 39 14)) rfl (zv_I (a := 39) rfl rfl) ?_
    refine zm_brN rfl rfl ⟨fun hcn => ?_, fun hcn => ?_⟩
    · replace h := h.1 (fun q => hcn ((i_eq (x := s.1 39 14) (y := 0) rfl (show (0 : Int32).toInt = 0 by decide)).mpr q))
      exact m_1_97_39 hd  h
    · replace h := h.2 ((i_eq (x := s.1 39 14) (y := 0) rfl (show (0 : Int32).toInt = 0 by decide)).mp hcn)
      refine zm_ld rfl rfl rfl ?_
      refine zm_get (v := .int (s.1 39 10)) rfl (zv_I (a := 39) rfl rfl) ?_
      refine zm_st [.ref 85, .ref 39, .int a2, .int a3, .int a4, .int a5, .int (s.1 39 10), .null, .null, .null] rfl rfl rfl ?_
      refine zm_ld rfl rfl rfl ?_
      refine zm_ld rfl rfl rfl ?_
      refine zm_brN rfl rfl ⟨fun hcn => ?_, fun hcn => ?_⟩
      · replace h := h.1 (fun q => hcn ((i_eq (x := a5) (y := 0) rfl (show (0 : Int32).toInt = 0 by decide)).mpr q))
        refine zm_ld rfl rfl rfl ?_
        refine zm_get (v := .int (s.1 85 5)) rfl (zv_I (a := 85) rfl rfl) ?_
        exact m_1_77_39 hd r61 h
      · replace h := h.2 ((i_eq (x := a5) (y := 0) rfl (show (0 : Int32).toInt = 0 by decide)).mp hcn)
        refine zm_ld rfl rfl rfl ?_
        refine zm_go rfl ?_
        exact m_1_77_39 hd r61 h
theorem ml_1_61_39 {d d0 : Nat} (hd : d = d0 + 8)  {a2 : Int32} {a3 : Int32} {a4 : Int32} {a5 : Int32} {s : zS} {Q : Option Value → zS → Prop}  (h : vl_1_61 (fun j => Zt d (wd3 39 j) j) 39 d  a2 a3 a4 a5 s Q) : Zm d [(75, 0), (75, 1), (75, 2), (83, 1), (83, 2)] [(39, 98)] ([(83, 2, 86), (83, 1, 39), (75, 2, 61), (75, 1, 57), (75, 0, 39)] : zW) xL_0 7 (some .int) xE_1 (xE_1.drop 61) [.ref 85, .ref 39, .int a2, .int a3, .int a4, .int a5, .null, .null, .null, .null] [] s (zR Q ([(83, 2, 86), (83, 1, 39), (75, 2, 61), (75, 1, 57), (75, 0, 39)] : zW)) := by
  obtain ⟨I, μ, h0, h1⟩ := h
  have key : ∀ (n : Nat) (a2 : Int32) (a3 : Int32) (a4 : Int32) (a5 : Int32) (s : zS), μ a2 a3 a4 a5 s = n → I a2 a3 a4 a5 s → Zm d [(75, 0), (75, 1), (75, 2), (83, 1), (83, 2)] [(39, 98)] ([(83, 2, 86), (83, 1, 39), (75, 2, 61), (75, 1, 57), (75, 0, 39)] : zW) xL_0 7 (some .int) xE_1 (xE_1.drop 61) [.ref 85, .ref 39, .int a2, .int a3, .int a4, .int a5, .null, .null, .null, .null] [] s (zR Q ([(83, 2, 86), (83, 1, 39), (75, 2, 61), (75, 1, 57), (75, 0, 39)] : zW)) := by
    intro n
    induction n using Nat.strongRecOn with
    | ind n ih =>
      intro a2 a3 a4 a5 s e hI
      exact m_1_61_39 hd (fun a2' a3' a4' a5' s' q => ih _ (by rw [← e]; exact q.2) a2' a3' a4' a5' s' rfl q.1) (h1 a2 a3 a4 a5 s hI)
  exact key _ a2 a3 a4 a5 s rfl h0
set_option maxRecDepth 20000 in
theorem m_1_30_39 {d d0 : Nat} (hd : d = d0 + 8)  {a2 : Int32} {a3 : Int32} {a4 : Int32} {s : zS} {Q : Option Value → zS → Prop}  (h : v_1_30 (fun j => Zt d (wd3 39 j) j) 39 d  a2 a3 a4 s Q) : Zm d [(75, 0), (75, 1), (75, 2), (83, 1), (83, 2)] [(39, 98)] ([] : zW) xL_0 7 (some .int) xE_1 (xE_1.drop 30) [.ref 85, .ref 39, .int a2, .int a3, .int a4, .null, .null, .null, .null, .null] [] s (zR Q ([(83, 2, 86), (83, 1, 39), (75, 2, 61), (75, 1, 57), (75, 0, 39)] : zW)) := by
  unfold v_1_30 at h
  refine zm_c [.int (-1)] (xo_push (.int (-1))) rfl rfl ?_
  exact zm_retN rfl (by decide) h
set_option maxRecDepth 20000 in
theorem m_1_29_39 {d d0 : Nat} (hd : d = d0 + 8) {R7 : Int32 → Int32 → Int32 → zS → Prop} {a2 : Int32} {a3 : Int32} {a4 : Int32} {t0 : Int32} {t1 : Int32} {s : zS} {Q : Option Value → zS → Prop} (r7 : ∀ a2 a3 a4 s, R7 a2 a3 a4 s → Zm d [(75, 0), (75, 1), (75, 2), (83, 1), (83, 2)] [(39, 98)] ([] : zW) xL_0 7 (some .int) xE_1 (xE_1.drop 7) [.ref 85, .ref 39, .int a2, .int a3, .int a4, .null, .null, .null, .null, .null] [] s (zR Q ([(83, 2, 86), (83, 1, 39), (75, 2, 61), (75, 1, 57), (75, 0, 39)] : zW))) (h : v_1_29 (fun j => Zt d (wd3 39 j) j) 39 d R7 a2 a3 a4 t0 t1 s Q) : Zm d [(75, 0), (75, 1), (75, 2), (83, 1), (83, 2)] [(39, 98)] ([] : zW) xL_0 7 (some .int) xE_1 (xE_1.drop 29) [.ref 85, .ref 39, .int a2, .int a3, .int a4, .null, .null, .null, .null, .null] [.int t1, .int t0] s (zR Q ([(83, 2, 86), (83, 1, 39), (75, 2, 61), (75, 1, 57), (75, 0, 39)] : zW)) := by
  unfold v_1_29 at h
  refine zm_brP rfl rfl ⟨fun hcn => ?_, fun hcn => ?_⟩
  · replace h := h.1 ((i_eq (x := t0) (y := t1) rfl rfl).mp hcn)
    replace h := h _ (i_add (x := a3) (y := 1) rfl (show (1 : Int32).toInt = 1 by decide))
    refine zm_inc [.ref 85, .ref 39, .int a2, .int (a3 + 1), .int a4, .null, .null, .null, .null, .null] rfl rfl rfl rfl ?_
    replace h := h _ (i_add (x := a4) (y := 1) rfl (show (1 : Int32).toInt = 1 by decide))
    refine zm_inc [.ref 85, .ref 39, .int a2, .int (a3 + 1), .int (a4 + 1), .null, .null, .null, .null, .null] rfl rfl rfl rfl ?_
    refine zm_go rfl ?_
    exact r7 a2 (a3 + 1) (a4 + 1) s h
  · replace h := h.2 (fun q => hcn ((i_eq (x := t0) (y := t1) rfl rfl).mpr q))
    exact m_1_30_39 hd  h
set_option maxRecDepth 20000 in
theorem m_1_7_39 {d d0 : Nat} (hd : d = d0 + 8) {R7 : Int32 → Int32 → Int32 → zS → Prop} {a2 : Int32} {a3 : Int32} {a4 : Int32} {s : zS} {Q : Option Value → zS → Prop} (r7 : ∀ a2 a3 a4 s, R7 a2 a3 a4 s → Zm d [(75, 0), (75, 1), (75, 2), (83, 1), (83, 2)] [(39, 98)] ([] : zW) xL_0 7 (some .int) xE_1 (xE_1.drop 7) [.ref 85, .ref 39, .int a2, .int a3, .int a4, .null, .null, .null, .null, .null] [] s (zR Q ([(83, 2, 86), (83, 1, 39), (75, 2, 61), (75, 1, 57), (75, 0, 39)] : zW))) (h : v_1_7 (fun j => Zt d (wd3 39 j) j) 39 d R7 a2 a3 a4 s Q) : Zm d [(75, 0), (75, 1), (75, 2), (83, 1), (83, 2)] [(39, 98)] ([] : zW) xL_0 7 (some .int) xE_1 (xE_1.drop 7) [.ref 85, .ref 39, .int a2, .int a3, .int a4, .null, .null, .null, .null, .null] [] s (zR Q ([(83, 2, 86), (83, 1, 39), (75, 2, 61), (75, 1, 57), (75, 0, 39)] : zW)) := by
  unfold v_1_7 at h
  refine zm_ld rfl rfl rfl ?_
  refine zm_ld rfl rfl rfl ?_
  refine zm_brP rfl rfl ⟨fun hcn => ?_, fun hcn => ?_⟩
  · replace h := h.1 ((i_le (x := a2) (y := a4) rfl rfl).mp hcn)
    refine zm_ld rfl rfl rfl ?_
    refine zm_get (v := .int (s.1 85 4)) rfl (zv_I (a := 85) rfl rfl) ?_
    refine zm_brP rfl rfl ⟨fun hcn => ?_, fun hcn => ?_⟩
    · replace h := h.1 ((i_eq (x := s.1 85 4) (y := 0) rfl (show (0 : Int32).toInt = 0 by decide)).mp hcn)
      refine zm_ld rfl rfl rfl ?_
      refine zm_get (v := .ref 75) rfl (zv_R (a := 85) rfl rfl) ?_
      refine zm_ld rfl rfl rfl ?_
      refine zm_c [.int 18, .ref 39, .ref 75] (xo_push (.int 18)) rfl rfl ?_
      refine zm_zu [.ref 75, .ref 39, .int 18] [] (c := ([] : zW)) (c' := ([(75, 2, 61), (75, 1, 57), (75, 0, 39)] : zW)) (w1 := ([] : zW)) rfl rfl rfl rfl rfl rfl rfl (Zu.imp h (fun v1 s2 h => ?_))
      obtain ⟨rfl, h⟩ := h
      change Zm _ _ _ _ _ _ _ _ _ _ [] _ _
      refine zm_ld rfl rfl rfl ?_
      refine zm_get (v := .ref 83) rfl (zv_R (a := 85) rfl rfl) ?_
      refine zm_ld rfl rfl rfl ?_
      refine zm_ld rfl rfl rfl ?_
      refine zm_get (v := .ref 86) rfl (zv_R (a := 85) rfl rfl) ?_
      refine zm_zu [.ref 83, .ref 39, .ref 86] [] (c := ([] : zW)) (c' := ([(83, 2, 86), (83, 1, 39)] : zW)) (w1 := ([(75, 2, 61), (75, 1, 57), (75, 0, 39)] : zW)) rfl rfl rfl rfl rfl rfl rfl (Zu.imp h (fun v3 s4 h => ?_))
      obtain ⟨rfl, h⟩ := h
      change Zm _ _ _ _ _ _ _ _ _ _ [] _ _
      refine zm_ld rfl rfl rfl ?_
      refine zm_c [.int 0, .ref 39] (xo_push (.int 0)) rfl rfl ?_
      refine zm_putI (a := 39) rfl rfl rfl rfl ⟨Int32.le_toInt _, Int.le_of_lt_add_one (Int32.toInt_lt _)⟩ rfl rfl rfl ?_
      replace h := h _ rfl
      refine zm_ld rfl rfl rfl ?_
      refine zm_get (v := .int ((zf s4 39 14 0).1 39 10)) rfl (zv_I (a := 39) rfl rfl) ?_
      refine zm_st [.ref 85, .ref 39, .int a2, .int a3, .int ((zf s4 39 14 0).1 39 10), .null, .null, .null, .null, .null] rfl rfl rfl ?_
      refine zm_c [.int 0] (xo_push (.int 0)) rfl rfl ?_
      refine zm_st [.ref 85, .ref 39, .int a2, .int 0, .int ((zf s4 39 14 0).1 39 10), .null, .null, .null, .null, .null] rfl rfl rfl ?_
      refine zm_c [.int 0] (xo_push (.int 0)) rfl rfl ?_
      refine zm_st [.ref 85, .ref 39, .int a2, .int 0, .int ((zf s4 39 14 0).1 39 10), .int 0, .null, .null, .null, .null] rfl rfl rfl ?_
      exact ml_1_61_39 hd  h
    · replace h := h.2 (fun q => hcn ((i_eq (x := s.1 85 4) (y := 0) rfl (show (0 : Int32).toInt = 0 by decide)).mpr q))
      refine zm_c [.int (-2)] (xo_push (.int (-2))) rfl rfl ?_
      exact zm_retN rfl (by decide) h
  · replace h := h.2 (fun q => hcn ((i_le (x := a2) (y := a4) rfl rfl).mpr q))
    refine zm_ld rfl rfl rfl ?_
    refine zm_ld rfl rfl rfl ?_
    refine zm_zt [.ref 85, .int a3] [] rfl rfl rfl rfl rfl (Zt.imp h (fun v6 s7 h => ?_))
    obtain ⟨x8, rfl, h⟩ := h
    change Zm _ _ _ _ _ _ _ _ _ _ [.int x8] _ _
    refine zm_st [.ref 85, .ref 39, .int a2, .int x8, .int a4, .null, .null, .null, .null, .null] rfl rfl rfl ?_
    refine zm_ld rfl rfl rfl ?_
    refine zm_brP rfl rfl ⟨fun hcn => ?_, fun hcn => ?_⟩
    · replace h := h.1 ((i_lt (x := x8) (y := 0) rfl (show (0 : Int32).toInt = 0 by decide)).mp hcn)
      exact m_1_30_39 hd  h
    · replace h := h.2 (fun q => hcn ((i_lt (x := x8) (y := 0) rfl (show (0 : Int32).toInt = 0 by decide)).mpr q))
      refine zm_ld rfl rfl rfl ?_
      refine zm_get (v := .ref 86) rfl (zv_R (a := 85) rfl rfl) ?_
      refine zm_get (v := .ref 89) rfl (zv_R (a := 86) rfl rfl) ?_
      refine zm_ld rfl rfl rfl ?_
      refine zm_row x8 [] (a := 89) hd rfl rfl rfl rfl ?_
      change Zm _ _ _ _ _ _ _ _ _ _ [.int (zg s7 89 x8)] _ _
      refine zm_ld rfl rfl rfl ?_
      refine zm_ld rfl rfl rfl ?_
      refine zm_c [.int 1, .int a2, .int a4, .int (zg s7 89 x8)] (xo_push (.int 1)) rfl rfl ?_
      replace h := h _ (i_sub (x := a2) (y := 1) rfl (show (1 : Int32).toInt = 1 by decide))
      refine zm_c [.int (a2 - 1), .int a4, .int (zg s7 89 x8)] xo_isub rfl rfl ?_
      refine zm_brP rfl rfl ⟨fun hcn => ?_, fun hcn => ?_⟩
      · replace h := h.1 ((i_le (x := (a2 - 1)) (y := a4) rfl rfl).mp hcn)
        refine zm_c [.int 0, .int (zg s7 89 x8)] (xo_push (.int 0)) rfl rfl ?_
        exact m_1_29_39 hd r7 h
      · replace h := h.2 (fun q => hcn ((i_le (x := (a2 - 1)) (y := a4) rfl rfl).mpr q))
        refine zm_c [.int 59, .int (zg s7 89 x8)] (xo_push (.int 59)) rfl rfl ?_
        refine zm_go rfl ?_
        exact m_1_29_39 hd r7 h
theorem ml_1_7_39 {d d0 : Nat} (hd : d = d0 + 8)  {a2 : Int32} {a3 : Int32} {a4 : Int32} {s : zS} {Q : Option Value → zS → Prop}  (h : vl_1_7 (fun j => Zt d (wd3 39 j) j) 39 d  a2 a3 a4 s Q) : Zm d [(75, 0), (75, 1), (75, 2), (83, 1), (83, 2)] [(39, 98)] ([] : zW) xL_0 7 (some .int) xE_1 (xE_1.drop 7) [.ref 85, .ref 39, .int a2, .int a3, .int a4, .null, .null, .null, .null, .null] [] s (zR Q ([(83, 2, 86), (83, 1, 39), (75, 2, 61), (75, 1, 57), (75, 0, 39)] : zW)) := by
  obtain ⟨I, μ, h0, h1⟩ := h
  have key : ∀ (n : Nat) (a2 : Int32) (a3 : Int32) (a4 : Int32) (s : zS), μ a2 a3 a4 s = n → I a2 a3 a4 s → Zm d [(75, 0), (75, 1), (75, 2), (83, 1), (83, 2)] [(39, 98)] ([] : zW) xL_0 7 (some .int) xE_1 (xE_1.drop 7) [.ref 85, .ref 39, .int a2, .int a3, .int a4, .null, .null, .null, .null, .null] [] s (zR Q ([(83, 2, 86), (83, 1, 39), (75, 2, 61), (75, 1, 57), (75, 0, 39)] : zW)) := by
    intro n
    induction n using Nat.strongRecOn with
    | ind n ih =>
      intro a2 a3 a4 s e hI
      exact m_1_7_39 hd (fun a2' a3' a4' s' q => ih _ (by rw [← e]; exact q.2) a2' a3' a4' s' rfl q.1) (h1 a2 a3 a4 s hI)
  exact key _ a2 a3 a4 s rfl h0
set_option maxRecDepth 20000 in
theorem m_1_0_39 {d d0 : Nat} (hd : d = d0 + 8)  {a2 : Int32} {s : zS} {Q : Option Value → zS → Prop}  (h : v_1_0 (fun j => Zt d (wd3 39 j) j) 39 d  a2 s Q) : Zm d [(75, 0), (75, 1), (75, 2), (83, 1), (83, 2)] [(39, 98)] ([] : zW) xL_0 7 (some .int) xE_1 (xE_1.drop 0) [.ref 85, .ref 39, .int a2, .null, .null, .null, .null, .null, .null, .null] [] s (zR Q ([(83, 2, 86), (83, 1, 39), (75, 2, 61), (75, 1, 57), (75, 0, 39)] : zW)) := by
  unfold v_1_0 at h
  refine zm_ld rfl rfl rfl ?_
  refine zm_c [.int 0, .ref 85] (xo_push (.int 0)) rfl rfl ?_
  refine zm_putI (a := 85) rfl rfl rfl rfl (by decide) rfl rfl rfl ?_
  replace h := h _ rfl
  refine zm_c [.int 0] (xo_push (.int 0)) rfl rfl ?_
  refine zm_st [.ref 85, .ref 39, .int a2, .int 0, .null, .null, .null, .null, .null, .null] rfl rfl rfl ?_
  refine zm_c [.int 0] (xo_push (.int 0)) rfl rfl ?_
  refine zm_st [.ref 85, .ref 39, .int a2, .int 0, .int 0, .null, .null, .null, .null, .null] rfl rfl rfl ?_
  exact ml_1_7_39 hd  h
theorem zq_1_39 {d : Nat} {a2 : Int32} {s : zS} {Q : Option Value → zS → Prop} (h : v_1_0 (fun j => Zt (d + 8) (wd3 39 j) j) 39 (d + 8) a2 s Q) : Zx (d + 9) [(75, 0), (75, 1), (75, 2), (83, 1), (83, 2)] ([] : zW) ([(83, 2, 86), (83, 1, 39), (75, 2, 61), (75, 1, 57), (75, 0, 39)] : zW) 1 [.ref 85, .ref 39, .int a2] s Q := zx_of (E := xE_1) (L := xL_0) (ml := 7) (ret := some .int) rfl rfl rfl (m_1_0_39 rfl h)
theorem zc_1 {d P : Nat} (hP : P = 3 ∨ P = 39) {a2 : Int32} {s : zS} {Q : Option Value → zS → Prop} (h : v_1_0 (fun j => Zt (d + 8) (wd3 P j) j) P (d + 8) a2 s Q) : Zx (d + 9) [(75, 0), (75, 1), (75, 2), (83, 1), (83, 2)] [] [(83, 2, 86), (83, 1, P), (75, 2, P + 22), (75, 1, P + 18), (75, 0, P)] 1 [.ref 85, .ref P, .int a2] s Q := by
  rcases hP with rfl | rfl
  · exact zq_1_3 h
  · exact zq_1_39 h
/-! FeatherBench.readTape -/
def v_152_0 (T : Nat → List Value → zS → (Option Value → zS → Prop) → Prop) (P : Nat) (dz : Nat)  (a1 : Int32) (s : zS) (Q : Option Value → zS → Prop) : Prop :=
  T 110 [.ref 86, .ref 1] s (fun v1 s2 => v1 = none ∧ (∀ s3, s3 = zf s2 1 2 0 → ((s3.1 0 11).toInt = 0 → Q (some (.int (-1))) s3) ∧ (¬ ((s3.1 0 11).toInt = 0) → Zx dz [(75, 0), (75, 1), (75, 2), (83, 1), (83, 2)] [] [(83, 2, 86), (83, 1, P), (75, 2, P + 22), (75, 1, P + 18), (75, 0, P)] 1 [.ref 85, .ref P, .int a1] s3 (fun v4 s5 => ∃ x6 : Int32, v4 = some (.int x6) ∧ ((x6 = 0 → Q (some (.int x6)) s5) ∧ (¬ x6 = 0 → Q (some (.int x6)) s5))))))
set_option maxRecDepth 20000 in
theorem m_152_0_3 {d d0 : Nat} (hd : d = d0 + 8)  {a1 : Int32} {s : zS} {Q : Option Value → zS → Prop}  (h : v_152_0 (fun j => Zt d (wd3 3 j) j) 3 d  a1 s Q) : Zm d [(75, 0), (75, 1), (75, 2), (83, 1), (83, 2)] [(3, 98), (0, 403), (0, 439)] ([(0, 9, 3)] : zW) xL_11 2 (some .int) xE_152 (xE_152.drop 0) [.ref 0, .int a1, .null, .null] [] s (zR Q ([(83, 2, 86), (83, 1, 3), (75, 2, 25), (75, 1, 21), (75, 0, 3)] : zW)) := by
  unfold v_152_0 at h
  refine zm_ld rfl rfl rfl ?_
  refine zm_get (v := .ref 85) rfl (zv_R (a := 0) rfl rfl) ?_
  refine zm_get (v := .ref 86) rfl (zv_R (a := 85) rfl rfl) ?_
  refine zm_ld rfl rfl rfl ?_
  refine zm_get (v := .ref 1) rfl (zv_R (a := 0) rfl rfl) ?_
  refine zm_zt [.ref 86, .ref 1] [] rfl rfl rfl rfl rfl (Zt.imp h (fun v1 s2 h => ?_))
  obtain ⟨rfl, h⟩ := h
  change Zm _ _ _ _ _ _ _ _ _ _ [] _ _
  refine zm_ld rfl rfl rfl ?_
  refine zm_get (v := .ref 1) rfl (zv_R (a := 0) rfl rfl) ?_
  refine zm_clr [] (a := 1) hd rfl rfl rfl rfl rfl ?_
  replace h := h _ rfl
  refine zm_ld rfl rfl rfl ?_
  refine zm_get (v := .int ((zf s2 1 2 0).1 0 11)) rfl (zv_I (a := 0) rfl rfl) ?_
  refine zm_brP rfl rfl ⟨fun hcn => ?_, fun hcn => ?_⟩
  · replace h := h.1 ((i_eq (x := (zf s2 1 2 0).1 0 11) (y := 0) rfl (show (0 : Int32).toInt = 0 by decide)).mp hcn)
    refine zm_c [.int (-1)] (xo_push (.int (-1))) rfl rfl ?_
    exact zm_retN rfl (by decide) h
  · replace h := h.2 (fun q => hcn ((i_eq (x := (zf s2 1 2 0).1 0 11) (y := 0) rfl (show (0 : Int32).toInt = 0 by decide)).mpr q))
    refine zm_ld rfl rfl rfl ?_
    refine zm_get (v := .ref 85) rfl (zv_R (a := 0) rfl rfl) ?_
    refine zm_ld rfl rfl rfl ?_
    refine zm_get (v := .ref 3) rfl (zv_C (a := 0) (n := 0) rfl rfl rfl) ?_
    refine zm_ld rfl rfl rfl ?_
    refine zm_zx [.ref 85, .ref 3, .int a1] [] (c := ([] : zW)) (c' := ([(83, 2, 86), (83, 1, 3), (75, 2, 25), (75, 1, 21), (75, 0, 3)] : zW)) (w1 := ([(0, 9, 3)] : zW)) rfl rfl rfl rfl rfl rfl rfl (Zx.imp h (fun v4 s5 h => ?_))
    obtain ⟨x6, rfl, h⟩ := h
    refine ⟨x6, rfl, fun hnz => ?_, fun hnz => ?_⟩
    · replace h := h.1 hnz
      change Zm _ _ _ _ _ _ _ _ _ _ [.int x6] _ _
      refine zm_go rfl ?_
      exact zm_retW rfl rfl h
    · replace h := h.2 hnz
      change Zm _ _ _ _ _ _ _ _ _ _ [.int x6] _ _
      refine zm_go rfl ?_
      exact zm_retN rfl hnz h
theorem zq_152_3 {d : Nat} {a1 : Int32} {s : zS} {Q : Option Value → zS → Prop} (h : v_152_0 (fun j => Zt (d + 8) (wd3 3 j) j) 3 (d + 8) a1 s Q) : Zx (d + 9) [(75, 0), (75, 1), (75, 2), (83, 1), (83, 2)] ([(0, 9, 3)] : zW) ([(83, 2, 86), (83, 1, 3), (75, 2, 25), (75, 1, 21), (75, 0, 3)] : zW) 152 [.ref 0, .int a1] s Q := zx_of (E := xE_152) (L := xL_11) (ml := 2) (ret := some .int) rfl rfl rfl (m_152_0_3 rfl h)
set_option maxRecDepth 20000 in
theorem m_152_0_39 {d d0 : Nat} (hd : d = d0 + 8)  {a1 : Int32} {s : zS} {Q : Option Value → zS → Prop}  (h : v_152_0 (fun j => Zt d (wd3 39 j) j) 39 d  a1 s Q) : Zm d [(75, 0), (75, 1), (75, 2), (83, 1), (83, 2)] [(39, 98), (0, 403), (0, 439)] ([(0, 9, 39)] : zW) xL_11 2 (some .int) xE_152 (xE_152.drop 0) [.ref 0, .int a1, .null, .null] [] s (zR Q ([(83, 2, 86), (83, 1, 39), (75, 2, 61), (75, 1, 57), (75, 0, 39)] : zW)) := by
  unfold v_152_0 at h
  refine zm_ld rfl rfl rfl ?_
  refine zm_get (v := .ref 85) rfl (zv_R (a := 0) rfl rfl) ?_
  refine zm_get (v := .ref 86) rfl (zv_R (a := 85) rfl rfl) ?_
  refine zm_ld rfl rfl rfl ?_
  refine zm_get (v := .ref 1) rfl (zv_R (a := 0) rfl rfl) ?_
  refine zm_zt [.ref 86, .ref 1] [] rfl rfl rfl rfl rfl (Zt.imp h (fun v1 s2 h => ?_))
  obtain ⟨rfl, h⟩ := h
  change Zm _ _ _ _ _ _ _ _ _ _ [] _ _
  refine zm_ld rfl rfl rfl ?_
  refine zm_get (v := .ref 1) rfl (zv_R (a := 0) rfl rfl) ?_
  refine zm_clr [] (a := 1) hd rfl rfl rfl rfl rfl ?_
  replace h := h _ rfl
  refine zm_ld rfl rfl rfl ?_
  refine zm_get (v := .int ((zf s2 1 2 0).1 0 11)) rfl (zv_I (a := 0) rfl rfl) ?_
  refine zm_brP rfl rfl ⟨fun hcn => ?_, fun hcn => ?_⟩
  · replace h := h.1 ((i_eq (x := (zf s2 1 2 0).1 0 11) (y := 0) rfl (show (0 : Int32).toInt = 0 by decide)).mp hcn)
    refine zm_c [.int (-1)] (xo_push (.int (-1))) rfl rfl ?_
    exact zm_retN rfl (by decide) h
  · replace h := h.2 (fun q => hcn ((i_eq (x := (zf s2 1 2 0).1 0 11) (y := 0) rfl (show (0 : Int32).toInt = 0 by decide)).mpr q))
    refine zm_ld rfl rfl rfl ?_
    refine zm_get (v := .ref 85) rfl (zv_R (a := 0) rfl rfl) ?_
    refine zm_ld rfl rfl rfl ?_
    refine zm_get (v := .ref 39) rfl (zv_C (a := 0) (n := 0) rfl rfl rfl) ?_
    refine zm_ld rfl rfl rfl ?_
    refine zm_zx [.ref 85, .ref 39, .int a1] [] (c := ([] : zW)) (c' := ([(83, 2, 86), (83, 1, 39), (75, 2, 61), (75, 1, 57), (75, 0, 39)] : zW)) (w1 := ([(0, 9, 39)] : zW)) rfl rfl rfl rfl rfl rfl rfl (Zx.imp h (fun v4 s5 h => ?_))
    obtain ⟨x6, rfl, h⟩ := h
    refine ⟨x6, rfl, fun hnz => ?_, fun hnz => ?_⟩
    · replace h := h.1 hnz
      change Zm _ _ _ _ _ _ _ _ _ _ [.int x6] _ _
      refine zm_go rfl ?_
      exact zm_retW rfl rfl h
    · replace h := h.2 hnz
      change Zm _ _ _ _ _ _ _ _ _ _ [.int x6] _ _
      refine zm_go rfl ?_
      exact zm_retN rfl hnz h
theorem zq_152_39 {d : Nat} {a1 : Int32} {s : zS} {Q : Option Value → zS → Prop} (h : v_152_0 (fun j => Zt (d + 8) (wd3 39 j) j) 39 (d + 8) a1 s Q) : Zx (d + 9) [(75, 0), (75, 1), (75, 2), (83, 1), (83, 2)] ([(0, 9, 39)] : zW) ([(83, 2, 86), (83, 1, 39), (75, 2, 61), (75, 1, 57), (75, 0, 39)] : zW) 152 [.ref 0, .int a1] s Q := zx_of (E := xE_152) (L := xL_11) (ml := 2) (ret := some .int) rfl rfl rfl (m_152_0_39 rfl h)
theorem zc_152 {d P : Nat} (hP : P = 3 ∨ P = 39) {a1 : Int32} {s : zS} {Q : Option Value → zS → Prop} (h : v_152_0 (fun j => Zt (d + 8) (wd3 P j) j) P (d + 8) a1 s Q) : Zx (d + 9) [(75, 0), (75, 1), (75, 2), (83, 1), (83, 2)] [(0, 9, P)] [(83, 2, 86), (83, 1, P), (75, 2, P + 22), (75, 1, P + 18), (75, 0, P)] 152 [.ref 0, .int a1] s Q := by
  rcases hP with rfl | rfl
  · exact zq_152_3 h
  · exact zq_152_39 h
/-! FeatherBench.implementing -/
def v_141_28 (T : Nat → List Value → zS → (Option Value → zS → Prop) → Prop) (P : Nat) (dz : Nat)  (a1 : Int32) (a2 : Int32) (t0 : Int32) (s : zS) (Q : Option Value → zS → Prop) : Prop :=
  Q (some (.int t0)) s
def v_141_0 (T : Nat → List Value → zS → (Option Value → zS → Prop) → Prop) (P : Nat) (dz : Nat)   (s : zS) (Q : Option Value → zS → Prop) : Prop :=
  Zx dz [(75, 0), (75, 1), (75, 2), (83, 1), (83, 2)] [(0, 9, P)] [(83, 2, 86), (83, 1, P), (75, 2, P + 22), (75, 1, P + 18), (75, 0, P)] 152 [.ref 0, .int 2] s (fun v1 s2 => ∃ x3 : Int32, v1 = some (.int x3) ∧ ((x3 = 0 → T 88 [.ref 75, .int (s2.1 85 5), .int (s2.1 85 6)] s2 (fun v4 s5 => ∃ x6, v4 = some (.int x6) ∧ ((¬ (x6.toInt = 9) → (¬ (x6.toInt = 0) → v_141_28 T P dz  x3 x6 0 s5 Q) ∧ (x6.toInt = 0 → v_141_28 T P dz  x3 x6 1 s5 Q)) ∧ (x6.toInt = 9 → Q (some (.int (-2))) s5)))) ∧ (¬ x3 = 0 → Q (some (.int x3)) s2)))
set_option maxRecDepth 20000 in
theorem m_141_28_3 {d d0 : Nat} (hd : d = d0 + 8)  {a1 : Int32} {a2 : Int32} {t0 : Int32} {s : zS} {Q : Option Value → zS → Prop}  (h : v_141_28 (fun j => Zt d (wd3 3 j) j) 3 d  a1 a2 t0 s Q) : Zn d [(75, 0), (75, 1), (75, 2), (83, 1), (83, 2)] [(3, 98), (0, 403), (0, 439)] ([(83, 2, 86), (83, 1, 3), (75, 2, 25), (75, 1, 21), (75, 0, 3), (0, 9, 3)] : zW) ([] : zW) xL_11 3 (some .int) xE_141 (xE_141.drop 28) [.ref 0, .int a1, .int a2, .null] [.int t0] s Q := by
  unfold v_141_28 at h
  refine zn_wk (c := []) rfl ?_
  exact zn_retI rfl h
set_option maxRecDepth 20000 in
theorem m_141_0_3 {d d0 : Nat} (hd : d = d0 + 8)   {s : zS} {Q : Option Value → zS → Prop}  (h : v_141_0 (fun j => Zt d (wd3 3 j) j) 3 d   s Q) : Zn d [(75, 0), (75, 1), (75, 2), (83, 1), (83, 2)] [(3, 98), (0, 403), (0, 439)] ([(0, 9, 3)] : zW) ([] : zW) xL_11 3 (some .int) xE_141 (xE_141.drop 0) [.ref 0, .null, .null, .null] [] s Q := by
  unfold v_141_0 at h
  refine zn_ld rfl rfl rfl ?_
  refine zn_c [.int 2, .ref 0] (xo_push (.int 2)) rfl rfl ?_
  refine zn_zx [.ref 0, .int 2] [] (c := ([(0, 9, 3)] : zW)) (c' := ([(83, 2, 86), (83, 1, 3), (75, 2, 25), (75, 1, 21), (75, 0, 3)] : zW)) (w1 := ([(0, 9, 3)] : zW)) rfl rfl rfl rfl rfl rfl rfl (Zx.imp h (fun v1 s2 h => ?_))
  obtain ⟨x3, rfl, h⟩ := h
  refine ⟨x3, rfl, fun hnz => ?_, fun hnz => ?_⟩
  · replace h := h.1 hnz
    change Zn _ _ _ _ _ _ _ _ _ _ _ [.int x3] _ _
    refine zn_st [.ref 0, .int x3, .null, .null] rfl rfl rfl ?_
    refine zn_ld rfl rfl rfl ?_
    refine zn_brP rfl rfl ⟨fun hcn => ?_, fun hcn => absurd hnz hcn⟩
    refine zn_ld rfl rfl rfl ?_
    refine zn_get (v := .ref 75) rfl (zv_R (a := 0) rfl rfl) ?_
    refine zn_ld rfl rfl rfl ?_
    refine zn_get (v := .ref 85) rfl (zv_R (a := 0) rfl rfl) ?_
    refine zn_get (v := .int (s2.1 85 5)) rfl (zv_I (a := 85) rfl rfl) ?_
    refine zn_ld rfl rfl rfl ?_
    refine zn_get (v := .ref 85) rfl (zv_R (a := 0) rfl rfl) ?_
    refine zn_get (v := .int (s2.1 85 6)) rfl (zv_I (a := 85) rfl rfl) ?_
    refine zn_zt [.ref 75, .int (s2.1 85 5), .int (s2.1 85 6)] [] rfl rfl rfl rfl rfl (Zt.imp h (fun v4 s5 h => ?_))
    obtain ⟨x6, rfl, h⟩ := h
    change Zn _ _ _ _ _ _ _ _ _ _ _ [.int x6] _ _
    refine zn_st [.ref 0, .int x3, .int x6, .null] rfl rfl rfl ?_
    refine zn_ld rfl rfl rfl ?_
    refine zn_c [.int 9, .int x6] (xo_push (.int 9)) rfl rfl ?_
    refine zn_brN rfl rfl ⟨fun hcn => ?_, fun hcn => ?_⟩
    · replace h := h.1 (fun q => hcn ((i_eq (x := x6) (y := 9) rfl (show (9 : Int32).toInt = 9 by decide)).mpr q))
      refine zn_ld rfl rfl rfl ?_
      refine zn_brN rfl rfl ⟨fun hcn => ?_, fun hcn => ?_⟩
      · replace h := h.1 (fun q => hcn ((i_eq (x := x6) (y := 0) rfl (show (0 : Int32).toInt = 0 by decide)).mpr q))
        refine zn_c [.int 0] (xo_push (.int 0)) rfl rfl ?_
        exact m_141_28_3 hd  h
      · replace h := h.2 ((i_eq (x := x6) (y := 0) rfl (show (0 : Int32).toInt = 0 by decide)).mp hcn)
        refine zn_c [.int 1] (xo_push (.int 1)) rfl rfl ?_
        refine zn_go rfl ?_
        exact m_141_28_3 hd  h
    · replace h := h.2 ((i_eq (x := x6) (y := 9) rfl (show (9 : Int32).toInt = 9 by decide)).mp hcn)
      refine zn_c [.int (-2)] (xo_push (.int (-2))) rfl rfl ?_
      refine zn_wk (c := []) rfl ?_
      exact zn_retI rfl h
  · replace h := h.2 hnz
    change Zn _ _ _ _ _ _ _ _ _ _ _ [.int x3] _ _
    refine zn_st [.ref 0, .int x3, .null, .null] rfl rfl rfl ?_
    refine zn_ld rfl rfl rfl ?_
    refine zn_brP rfl rfl ⟨fun hcn => absurd hcn hnz, fun hcn => ?_⟩
    refine zn_ld rfl rfl rfl ?_
    refine zn_wk (c := []) rfl ?_
    exact zn_retI rfl h
theorem zq_141_3 {d : Nat}  {s : zS} {Q : Option Value → zS → Prop} (h : v_141_0 (fun j => Zt (d + 8) (wd3 3 j) j) 3 (d + 8)  s Q) : Zu (d + 9) [(75, 0), (75, 1), (75, 2), (83, 1), (83, 2)] ([(0, 9, 3)] : zW) ([] : zW) 141 [.ref 0] s Q := zu_of (E := xE_141) (L := xL_11) (ml := 3) (ret := some .int) rfl rfl rfl (m_141_0_3 rfl h)
set_option maxRecDepth 20000 in
theorem m_141_28_39 {d d0 : Nat} (hd : d = d0 + 8)  {a1 : Int32} {a2 : Int32} {t0 : Int32} {s : zS} {Q : Option Value → zS → Prop}  (h : v_141_28 (fun j => Zt d (wd3 39 j) j) 39 d  a1 a2 t0 s Q) : Zn d [(75, 0), (75, 1), (75, 2), (83, 1), (83, 2)] [(39, 98), (0, 403), (0, 439)] ([(83, 2, 86), (83, 1, 39), (75, 2, 61), (75, 1, 57), (75, 0, 39), (0, 9, 39)] : zW) ([] : zW) xL_11 3 (some .int) xE_141 (xE_141.drop 28) [.ref 0, .int a1, .int a2, .null] [.int t0] s Q := by
  unfold v_141_28 at h
  refine zn_wk (c := []) rfl ?_
  exact zn_retI rfl h
set_option maxRecDepth 20000 in
theorem m_141_0_39 {d d0 : Nat} (hd : d = d0 + 8)   {s : zS} {Q : Option Value → zS → Prop}  (h : v_141_0 (fun j => Zt d (wd3 39 j) j) 39 d   s Q) : Zn d [(75, 0), (75, 1), (75, 2), (83, 1), (83, 2)] [(39, 98), (0, 403), (0, 439)] ([(0, 9, 39)] : zW) ([] : zW) xL_11 3 (some .int) xE_141 (xE_141.drop 0) [.ref 0, .null, .null, .null] [] s Q := by
  unfold v_141_0 at h
  refine zn_ld rfl rfl rfl ?_
  refine zn_c [.int 2, .ref 0] (xo_push (.int 2)) rfl rfl ?_
  refine zn_zx [.ref 0, .int 2] [] (c := ([(0, 9, 39)] : zW)) (c' := ([(83, 2, 86), (83, 1, 39), (75, 2, 61), (75, 1, 57), (75, 0, 39)] : zW)) (w1 := ([(0, 9, 39)] : zW)) rfl rfl rfl rfl rfl rfl rfl (Zx.imp h (fun v1 s2 h => ?_))
  obtain ⟨x3, rfl, h⟩ := h
  refine ⟨x3, rfl, fun hnz => ?_, fun hnz => ?_⟩
  · replace h := h.1 hnz
    change Zn _ _ _ _ _ _ _ _ _ _ _ [.int x3] _ _
    refine zn_st [.ref 0, .int x3, .null, .null] rfl rfl rfl ?_
    refine zn_ld rfl rfl rfl ?_
    refine zn_brP rfl rfl ⟨fun hcn => ?_, fun hcn => absurd hnz hcn⟩
    refine zn_ld rfl rfl rfl ?_
    refine zn_get (v := .ref 75) rfl (zv_R (a := 0) rfl rfl) ?_
    refine zn_ld rfl rfl rfl ?_
    refine zn_get (v := .ref 85) rfl (zv_R (a := 0) rfl rfl) ?_
    refine zn_get (v := .int (s2.1 85 5)) rfl (zv_I (a := 85) rfl rfl) ?_
    refine zn_ld rfl rfl rfl ?_
    refine zn_get (v := .ref 85) rfl (zv_R (a := 0) rfl rfl) ?_
    refine zn_get (v := .int (s2.1 85 6)) rfl (zv_I (a := 85) rfl rfl) ?_
    refine zn_zt [.ref 75, .int (s2.1 85 5), .int (s2.1 85 6)] [] rfl rfl rfl rfl rfl (Zt.imp h (fun v4 s5 h => ?_))
    obtain ⟨x6, rfl, h⟩ := h
    change Zn _ _ _ _ _ _ _ _ _ _ _ [.int x6] _ _
    refine zn_st [.ref 0, .int x3, .int x6, .null] rfl rfl rfl ?_
    refine zn_ld rfl rfl rfl ?_
    refine zn_c [.int 9, .int x6] (xo_push (.int 9)) rfl rfl ?_
    refine zn_brN rfl rfl ⟨fun hcn => ?_, fun hcn => ?_⟩
    · replace h := h.1 (fun q => hcn ((i_eq (x := x6) (y := 9) rfl (show (9 : Int32).toInt = 9 by decide)).mpr q))
      refine zn_ld rfl rfl rfl ?_
      refine zn_brN rfl rfl ⟨fun hcn => ?_, fun hcn => ?_⟩
      · replace h := h.1 (fun q => hcn ((i_eq (x := x6) (y := 0) rfl (show (0 : Int32).toInt = 0 by decide)).mpr q))
        refine zn_c [.int 0] (xo_push (.int 0)) rfl rfl ?_
        exact m_141_28_39 hd  h
      · replace h := h.2 ((i_eq (x := x6) (y := 0) rfl (show (0 : Int32).toInt = 0 by decide)).mp hcn)
        refine zn_c [.int 1] (xo_push (.int 1)) rfl rfl ?_
        refine zn_go rfl ?_
        exact m_141_28_39 hd  h
    · replace h := h.2 ((i_eq (x := x6) (y := 9) rfl (show (9 : Int32).toInt = 9 by decide)).mp hcn)
      refine zn_c [.int (-2)] (xo_push (.int (-2))) rfl rfl ?_
      refine zn_wk (c := []) rfl ?_
      exact zn_retI rfl h
  · replace h := h.2 hnz
    change Zn _ _ _ _ _ _ _ _ _ _ _ [.int x3] _ _
    refine zn_st [.ref 0, .int x3, .null, .null] rfl rfl rfl ?_
    refine zn_ld rfl rfl rfl ?_
    refine zn_brP rfl rfl ⟨fun hcn => absurd hcn hnz, fun hcn => ?_⟩
    refine zn_ld rfl rfl rfl ?_
    refine zn_wk (c := []) rfl ?_
    exact zn_retI rfl h
theorem zq_141_39 {d : Nat}  {s : zS} {Q : Option Value → zS → Prop} (h : v_141_0 (fun j => Zt (d + 8) (wd3 39 j) j) 39 (d + 8)  s Q) : Zu (d + 9) [(75, 0), (75, 1), (75, 2), (83, 1), (83, 2)] ([(0, 9, 39)] : zW) ([] : zW) 141 [.ref 0] s Q := zu_of (E := xE_141) (L := xL_11) (ml := 3) (ret := some .int) rfl rfl rfl (m_141_0_39 rfl h)
theorem zc_141 {d P : Nat} (hP : P = 3 ∨ P = 39)  {s : zS} {Q : Option Value → zS → Prop} (h : v_141_0 (fun j => Zt (d + 8) (wd3 P j) j) P (d + 8)  s Q) : Zu (d + 9) [(75, 0), (75, 1), (75, 2), (83, 1), (83, 2)] [(0, 9, P)] [] 141 [.ref 0] s Q := by
  rcases hP with rfl | rfl
  · exact zq_141_3 h
  · exact zq_141_39 h
/-! FeatherBench.isMade -/
def v_147_24 (T : Nat → List Value → zS → (Option Value → zS → Prop) → Prop) (P : Nat) (dz : Nat)  (a1 : Int32) (t0 : Int32) (s : zS) (Q : Option Value → zS → Prop) : Prop :=
  Q (some (.int t0)) s
def v_147_0 (T : Nat → List Value → zS → (Option Value → zS → Prop) → Prop) (P : Nat) (dz : Nat)   (s : zS) (Q : Option Value → zS → Prop) : Prop :=
  Zx dz [(75, 0), (75, 1), (75, 2), (83, 1), (83, 2)] [(0, 9, P)] [(83, 2, 86), (83, 1, P), (75, 2, P + 22), (75, 1, P + 18), (75, 0, P)] 152 [.ref 0, .int 1] s (fun v1 s2 => ∃ x3 : Int32, v1 = some (.int x3) ∧ ((x3 = 0 → (¬ ((s2.1 197 9).toInt = 0) → T 98 [.ref 197, .int (s2.1 85 5)] s2 (fun v4 s5 => ∃ x6, v4 = some (.int x6) ∧ ((x6.toInt < 0 → v_147_24 T P dz  x3 0 s5 Q) ∧ (¬ (x6.toInt < 0) → v_147_24 T P dz  x3 1 s5 Q)))) ∧ ((s2.1 197 9).toInt = 0 → Q (some (.int (-3))) s2)) ∧ (¬ x3 = 0 → Q (some (.int x3)) s2)))
set_option maxRecDepth 20000 in
theorem m_147_24_3 {d d0 : Nat} (hd : d = d0 + 8)  {a1 : Int32} {t0 : Int32} {s : zS} {Q : Option Value → zS → Prop}  (h : v_147_24 (fun j => Zt d (wd3 3 j) j) 3 d  a1 t0 s Q) : Zn d [(75, 0), (75, 1), (75, 2), (83, 1), (83, 2)] [(3, 98), (0, 403), (0, 439)] ([(83, 2, 86), (83, 1, 3), (75, 2, 25), (75, 1, 21), (75, 0, 3), (0, 9, 3)] : zW) ([] : zW) xL_11 2 (some .int) xE_147 (xE_147.drop 24) [.ref 0, .int a1, .null] [.int t0] s Q := by
  unfold v_147_24 at h
  refine zn_wk (c := []) rfl ?_
  exact zn_retI rfl h
set_option maxRecDepth 20000 in
theorem m_147_0_3 {d d0 : Nat} (hd : d = d0 + 8)   {s : zS} {Q : Option Value → zS → Prop}  (h : v_147_0 (fun j => Zt d (wd3 3 j) j) 3 d   s Q) : Zn d [(75, 0), (75, 1), (75, 2), (83, 1), (83, 2)] [(3, 98), (0, 403), (0, 439)] ([(0, 9, 3)] : zW) ([] : zW) xL_11 2 (some .int) xE_147 (xE_147.drop 0) [.ref 0, .null, .null] [] s Q := by
  unfold v_147_0 at h
  refine zn_ld rfl rfl rfl ?_
  refine zn_c [.int 1, .ref 0] (xo_push (.int 1)) rfl rfl ?_
  refine zn_zx [.ref 0, .int 1] [] (c := ([(0, 9, 3)] : zW)) (c' := ([(83, 2, 86), (83, 1, 3), (75, 2, 25), (75, 1, 21), (75, 0, 3)] : zW)) (w1 := ([(0, 9, 3)] : zW)) rfl rfl rfl rfl rfl rfl rfl (Zx.imp h (fun v1 s2 h => ?_))
  obtain ⟨x3, rfl, h⟩ := h
  refine ⟨x3, rfl, fun hnz => ?_, fun hnz => ?_⟩
  · replace h := h.1 hnz
    change Zn _ _ _ _ _ _ _ _ _ _ _ [.int x3] _ _
    refine zn_st [.ref 0, .int x3, .null] rfl rfl rfl ?_
    refine zn_ld rfl rfl rfl ?_
    refine zn_brP rfl rfl ⟨fun hcn => ?_, fun hcn => absurd hnz hcn⟩
    refine zn_ld rfl rfl rfl ?_
    refine zn_get (v := .ref 197) rfl (zv_R (a := 0) rfl rfl) ?_
    refine zn_get (v := .int (s2.1 197 9)) rfl (zv_I (a := 197) rfl rfl) ?_
    refine zn_brN rfl rfl ⟨fun hcn => ?_, fun hcn => ?_⟩
    · replace h := h.1 (fun q => hcn ((i_eq (x := s2.1 197 9) (y := 0) rfl (show (0 : Int32).toInt = 0 by decide)).mpr q))
      refine zn_ld rfl rfl rfl ?_
      refine zn_get (v := .ref 197) rfl (zv_R (a := 0) rfl rfl) ?_
      refine zn_ld rfl rfl rfl ?_
      refine zn_get (v := .ref 85) rfl (zv_R (a := 0) rfl rfl) ?_
      refine zn_get (v := .int (s2.1 85 5)) rfl (zv_I (a := 85) rfl rfl) ?_
      refine zn_zt [.ref 197, .int (s2.1 85 5)] [] rfl rfl rfl rfl rfl (Zt.imp h (fun v4 s5 h => ?_))
      obtain ⟨x6, rfl, h⟩ := h
      change Zn _ _ _ _ _ _ _ _ _ _ _ [.int x6] _ _
      refine zn_brP rfl rfl ⟨fun hcn => ?_, fun hcn => ?_⟩
      · replace h := h.1 ((i_lt (x := x6) (y := 0) rfl (show (0 : Int32).toInt = 0 by decide)).mp hcn)
        refine zn_c [.int 0] (xo_push (.int 0)) rfl rfl ?_
        exact m_147_24_3 hd  h
      · replace h := h.2 (fun q => hcn ((i_lt (x := x6) (y := 0) rfl (show (0 : Int32).toInt = 0 by decide)).mpr q))
        refine zn_c [.int 1] (xo_push (.int 1)) rfl rfl ?_
        refine zn_go rfl ?_
        exact m_147_24_3 hd  h
    · replace h := h.2 ((i_eq (x := s2.1 197 9) (y := 0) rfl (show (0 : Int32).toInt = 0 by decide)).mp hcn)
      refine zn_c [.int (-3)] (xo_push (.int (-3))) rfl rfl ?_
      refine zn_wk (c := []) rfl ?_
      exact zn_retI rfl h
  · replace h := h.2 hnz
    change Zn _ _ _ _ _ _ _ _ _ _ _ [.int x3] _ _
    refine zn_st [.ref 0, .int x3, .null] rfl rfl rfl ?_
    refine zn_ld rfl rfl rfl ?_
    refine zn_brP rfl rfl ⟨fun hcn => absurd hcn hnz, fun hcn => ?_⟩
    refine zn_ld rfl rfl rfl ?_
    refine zn_wk (c := []) rfl ?_
    exact zn_retI rfl h
theorem zq_147_3 {d : Nat}  {s : zS} {Q : Option Value → zS → Prop} (h : v_147_0 (fun j => Zt (d + 8) (wd3 3 j) j) 3 (d + 8)  s Q) : Zu (d + 9) [(75, 0), (75, 1), (75, 2), (83, 1), (83, 2)] ([(0, 9, 3)] : zW) ([] : zW) 147 [.ref 0] s Q := zu_of (E := xE_147) (L := xL_11) (ml := 2) (ret := some .int) rfl rfl rfl (m_147_0_3 rfl h)
set_option maxRecDepth 20000 in
theorem m_147_24_39 {d d0 : Nat} (hd : d = d0 + 8)  {a1 : Int32} {t0 : Int32} {s : zS} {Q : Option Value → zS → Prop}  (h : v_147_24 (fun j => Zt d (wd3 39 j) j) 39 d  a1 t0 s Q) : Zn d [(75, 0), (75, 1), (75, 2), (83, 1), (83, 2)] [(39, 98), (0, 403), (0, 439)] ([(83, 2, 86), (83, 1, 39), (75, 2, 61), (75, 1, 57), (75, 0, 39), (0, 9, 39)] : zW) ([] : zW) xL_11 2 (some .int) xE_147 (xE_147.drop 24) [.ref 0, .int a1, .null] [.int t0] s Q := by
  unfold v_147_24 at h
  refine zn_wk (c := []) rfl ?_
  exact zn_retI rfl h
set_option maxRecDepth 20000 in
theorem m_147_0_39 {d d0 : Nat} (hd : d = d0 + 8)   {s : zS} {Q : Option Value → zS → Prop}  (h : v_147_0 (fun j => Zt d (wd3 39 j) j) 39 d   s Q) : Zn d [(75, 0), (75, 1), (75, 2), (83, 1), (83, 2)] [(39, 98), (0, 403), (0, 439)] ([(0, 9, 39)] : zW) ([] : zW) xL_11 2 (some .int) xE_147 (xE_147.drop 0) [.ref 0, .null, .null] [] s Q := by
  unfold v_147_0 at h
  refine zn_ld rfl rfl rfl ?_
  refine zn_c [.int 1, .ref 0] (xo_push (.int 1)) rfl rfl ?_
  refine zn_zx [.ref 0, .int 1] [] (c := ([(0, 9, 39)] : zW)) (c' := ([(83, 2, 86), (83, 1, 39), (75, 2, 61), (75, 1, 57), (75, 0, 39)] : zW)) (w1 := ([(0, 9, 39)] : zW)) rfl rfl rfl rfl rfl rfl rfl (Zx.imp h (fun v1 s2 h => ?_))
  obtain ⟨x3, rfl, h⟩ := h
  refine ⟨x3, rfl, fun hnz => ?_, fun hnz => ?_⟩
  · replace h := h.1 hnz
    change Zn _ _ _ _ _ _ _ _ _ _ _ [.int x3] _ _
    refine zn_st [.ref 0, .int x3, .null] rfl rfl rfl ?_
    refine zn_ld rfl rfl rfl ?_
    refine zn_brP rfl rfl ⟨fun hcn => ?_, fun hcn => absurd hnz hcn⟩
    refine zn_ld rfl rfl rfl ?_
    refine zn_get (v := .ref 197) rfl (zv_R (a := 0) rfl rfl) ?_
    refine zn_get (v := .int (s2.1 197 9)) rfl (zv_I (a := 197) rfl rfl) ?_
    refine zn_brN rfl rfl ⟨fun hcn => ?_, fun hcn => ?_⟩
    · replace h := h.1 (fun q => hcn ((i_eq (x := s2.1 197 9) (y := 0) rfl (show (0 : Int32).toInt = 0 by decide)).mpr q))
      refine zn_ld rfl rfl rfl ?_
      refine zn_get (v := .ref 197) rfl (zv_R (a := 0) rfl rfl) ?_
      refine zn_ld rfl rfl rfl ?_
      refine zn_get (v := .ref 85) rfl (zv_R (a := 0) rfl rfl) ?_
      refine zn_get (v := .int (s2.1 85 5)) rfl (zv_I (a := 85) rfl rfl) ?_
      refine zn_zt [.ref 197, .int (s2.1 85 5)] [] rfl rfl rfl rfl rfl (Zt.imp h (fun v4 s5 h => ?_))
      obtain ⟨x6, rfl, h⟩ := h
      change Zn _ _ _ _ _ _ _ _ _ _ _ [.int x6] _ _
      refine zn_brP rfl rfl ⟨fun hcn => ?_, fun hcn => ?_⟩
      · replace h := h.1 ((i_lt (x := x6) (y := 0) rfl (show (0 : Int32).toInt = 0 by decide)).mp hcn)
        refine zn_c [.int 0] (xo_push (.int 0)) rfl rfl ?_
        exact m_147_24_39 hd  h
      · replace h := h.2 (fun q => hcn ((i_lt (x := x6) (y := 0) rfl (show (0 : Int32).toInt = 0 by decide)).mpr q))
        refine zn_c [.int 1] (xo_push (.int 1)) rfl rfl ?_
        refine zn_go rfl ?_
        exact m_147_24_39 hd  h
    · replace h := h.2 ((i_eq (x := s2.1 197 9) (y := 0) rfl (show (0 : Int32).toInt = 0 by decide)).mp hcn)
      refine zn_c [.int (-3)] (xo_push (.int (-3))) rfl rfl ?_
      refine zn_wk (c := []) rfl ?_
      exact zn_retI rfl h
  · replace h := h.2 hnz
    change Zn _ _ _ _ _ _ _ _ _ _ _ [.int x3] _ _
    refine zn_st [.ref 0, .int x3, .null] rfl rfl rfl ?_
    refine zn_ld rfl rfl rfl ?_
    refine zn_brP rfl rfl ⟨fun hcn => absurd hcn hnz, fun hcn => ?_⟩
    refine zn_ld rfl rfl rfl ?_
    refine zn_wk (c := []) rfl ?_
    exact zn_retI rfl h
theorem zq_147_39 {d : Nat}  {s : zS} {Q : Option Value → zS → Prop} (h : v_147_0 (fun j => Zt (d + 8) (wd3 39 j) j) 39 (d + 8)  s Q) : Zu (d + 9) [(75, 0), (75, 1), (75, 2), (83, 1), (83, 2)] ([(0, 9, 39)] : zW) ([] : zW) 147 [.ref 0] s Q := zu_of (E := xE_147) (L := xL_11) (ml := 2) (ret := some .int) rfl rfl rfl (m_147_0_39 rfl h)
theorem zc_147 {d P : Nat} (hP : P = 3 ∨ P = 39)  {s : zS} {Q : Option Value → zS → Prop} (h : v_147_0 (fun j => Zt (d + 8) (wd3 P j) j) P (d + 8)  s Q) : Zu (d + 9) [(75, 0), (75, 1), (75, 2), (83, 1), (83, 2)] [(0, 9, P)] [] 147 [.ref 0] s Q := by
  rcases hP with rfl | rfl
  · exact zq_147_3 h
  · exact zq_147_39 h
