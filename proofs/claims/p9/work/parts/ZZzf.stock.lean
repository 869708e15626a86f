/-! ===== the class: Stock, over its whole state (wip/p3/zdec.py) ===== -/
/-- references that a method knows at its entry -/
def wd2 (P j : Nat) : zW := bif Nat.beq j 95 || Nat.beq j 96 then [] else bif Nat.beq j 98 then [(75, 0, P), (75, 1, P + 18), (75, 2, P + 22)] else bif Nat.blt j 18 then wd P j else bif Nat.blt j 30 then [(105, 5, P), (75, 0, P), (75, 1, P + 18), (75, 2, P + 22)] else bif Nat.blt j 36 then [(206, 3, P)] else bif Nat.blt j 93 then wd P j else bif Nat.blt j 109 then [(197, 5, P), (197, 6, P + 18), (75, 0, P), (75, 1, P + 18), (75, 2, P + 22)] else wd P j
/-! FeatherBench$Stock.callCount -/
def v_95_0 (T : Nat → List Value → zS → (Option Value → zS → Prop) → Prop) (P : Nat)   (s : zS) (Q : Option Value → zS → Prop) : Prop :=
  ∀ x1 : Int32, (0 ≤ (s.1 200 2).toInt → x1.toInt = (s.1 200 2).toInt / 10) → Q (some (.int x1)) s
set_option maxRecDepth 20000 in
theorem m_95_0_3 {d d0 : Nat} (hd : d = d0 + 8)   {s : zS} {Q : Option Value → zS → Prop}  (h : v_95_0 (fun j => Zt d (wd2 3 j) j) 3   s Q) : Zn d [] [] ([] : zW) ([] : zW) xL_8 1 (some .int) xE_95 (xE_95.drop 0) [.ref 197, .null] [] s Q := by
  unfold v_95_0 at h
  refine zn_ld rfl rfl rfl ?_
  refine zn_get (v := .ref 200) rfl (zv_R (a := 197) rfl rfl) ?_
  refine zn_get (v := .int (s.1 200 2)) rfl (zv_I (a := 200) rfl rfl) ?_
  refine zn_c [.int 10, .int (s.1 200 2)] (xo_push (.int 10)) rfl rfl ?_
  replace h := h ((s.1 200 2) / 10) (i_dv (x := s.1 200 2) (y := 10) rfl (show (10 : Int32).toInt = 10 by decide) (by decide))
  refine zn_c [.int ((s.1 200 2) / 10)] xo_idiv rfl (o_idiv (by decide)) ?_
  exact zn_retI rfl h
theorem zq_95_3 {d : Nat}  {s : zS} {Q : Option Value → zS → Prop} (h : v_95_0 (fun j => Zt (d + 8) (wd2 3 j) j) 3  s Q) : Zt (d + 9) ([] : zW) 95 [.ref 197] s Q := zt_of (E := xE_95) (L := xL_8) (ml := 1) (ret := some .int) rfl rfl rfl (m_95_0_3 rfl h)
set_option maxRecDepth 20000 in
theorem m_95_0_39 {d d0 : Nat} (hd : d = d0 + 8)   {s : zS} {Q : Option Value → zS → Prop}  (h : v_95_0 (fun j => Zt d (wd2 39 j) j) 39   s Q) : Zn d [] [] ([] : zW) ([] : zW) xL_8 1 (some .int) xE_95 (xE_95.drop 0) [.ref 197, .null] [] s Q := by
  unfold v_95_0 at h
  refine zn_ld rfl rfl rfl ?_
  refine zn_get (v := .ref 200) rfl (zv_R (a := 197) rfl rfl) ?_
  refine zn_get (v := .int (s.1 200 2)) rfl (zv_I (a := 200) rfl rfl) ?_
  refine zn_c [.int 10, .int (s.1 200 2)] (xo_push (.int 10)) rfl rfl ?_
  replace h := h ((s.1 200 2) / 10) (i_dv (x := s.1 200 2) (y := 10) rfl (show (10 : Int32).toInt = 10 by decide) (by decide))
  refine zn_c [.int ((s.1 200 2) / 10)] xo_idiv rfl (o_idiv (by decide)) ?_
  exact zn_retI rfl h
theorem zq_95_39 {d : Nat}  {s : zS} {Q : Option Value → zS → Prop} (h : v_95_0 (fun j => Zt (d + 8) (wd2 39 j) j) 39  s Q) : Zt (d + 9) ([] : zW) 95 [.ref 197] s Q := zt_of (E := xE_95) (L := xL_8) (ml := 1) (ret := some .int) rfl rfl rfl (m_95_0_39 rfl h)
theorem zc_95 {d P : Nat} (hP : P = 3 ∨ P = 39)  {s : zS} {Q : Option Value → zS → Prop} (h : v_95_0 (fun j => Zt (d + 8) (wd2 P j) j) P  s Q) : Zt (d + 9) (wd2 P 95) 95 [.ref 197] s Q := by
  rcases hP with rfl | rfl
  · exact zq_95_3 h
  · exact zq_95_39 h
/-! FeatherBench$Stock.methodCount -/
def v_96_0 (T : Nat → List Value → zS → (Option Value → zS → Prop) → Prop) (P : Nat)   (s : zS) (Q : Option Value → zS → Prop) : Prop :=
  ∀ x1 : Int32, (0 ≤ (s.1 202 2).toInt → x1.toInt = (s.1 202 2).toInt / 9) → Q (some (.int x1)) s
set_option maxRecDepth 20000 in
theorem m_96_0_3 {d d0 : Nat} (hd : d = d0 + 8)   {s : zS} {Q : Option Value → zS → Prop}  (h : v_96_0 (fun j => Zt d (wd2 3 j) j) 3   s Q) : Zn d [] [] ([] : zW) ([] : zW) xL_8 1 (some .int) xE_96 (xE_96.drop 0) [.ref 197, .null] [] s Q := by
  unfold v_96_0 at h
  refine zn_ld rfl rfl rfl ?_
  refine zn_get (v := .ref 202) rfl (zv_R (a := 197) rfl rfl) ?_
  refine zn_get (v := .int (s.1 202 2)) rfl (zv_I (a := 202) rfl rfl) ?_
  refine zn_c [.int 9, .int (s.1 202 2)] (xo_push (.int 9)) rfl rfl ?_
  replace h := h ((s.1 202 2) / 9) (i_dv (x := s.1 202 2) (y := 9) rfl (show (9 : Int32).toInt = 9 by decide) (by decide))
  refine zn_c [.int ((s.1 202 2) / 9)] xo_idiv rfl (o_idiv (by decide)) ?_
  exact zn_retI rfl h
theorem zq_96_3 {d : Nat}  {s : zS} {Q : Option Value → zS → Prop} (h : v_96_0 (fun j => Zt (d + 8) (wd2 3 j) j) 3  s Q) : Zt (d + 9) ([] : zW) 96 [.ref 197] s Q := zt_of (E := xE_96) (L := xL_8) (ml := 1) (ret := some .int) rfl rfl rfl (m_96_0_3 rfl h)
set_option maxRecDepth 20000 in
theorem m_96_0_39 {d d0 : Nat} (hd : d = d0 + 8)   {s : zS} {Q : Option Value → zS → Prop}  (h : v_96_0 (fun j => Zt d (wd2 39 j) j) 39   s Q) : Zn d [] [] ([] : zW) ([] : zW) xL_8 1 (some .int) xE_96 (xE_96.drop 0) [.ref 197, .null] [] s Q := by
  unfold v_96_0 at h
  refine zn_ld rfl rfl rfl ?_
  refine zn_get (v := .ref 202) rfl (zv_R (a := 197) rfl rfl) ?_
  refine zn_get (v := .int (s.1 202 2)) rfl (zv_I (a := 202) rfl rfl) ?_
  refine zn_c [.int 9, .int (s.1 202 2)] (xo_push (.int 9)) rfl rfl ?_
  replace h := h ((s.1 202 2) / 9) (i_dv (x := s.1 202 2) (y := 9) rfl (show (9 : Int32).toInt = 9 by decide) (by decide))
  refine zn_c [.int ((s.1 202 2) / 9)] xo_idiv rfl (o_idiv (by decide)) ?_
  exact zn_retI rfl h
theorem zq_96_39 {d : Nat}  {s : zS} {Q : Option Value → zS → Prop} (h : v_96_0 (fun j => Zt (d + 8) (wd2 39 j) j) 39  s Q) : Zt (d + 9) ([] : zW) 96 [.ref 197] s Q := zt_of (E := xE_96) (L := xL_8) (ml := 1) (ret := some .int) rfl rfl rfl (m_96_0_39 rfl h)
theorem zc_96 {d P : Nat} (hP : P = 3 ∨ P = 39)  {s : zS} {Q : Option Value → zS → Prop} (h : v_96_0 (fun j => Zt (d + 8) (wd2 P j) j) P  s Q) : Zt (d + 9) (wd2 P 96) 96 [.ref 197] s Q := by
  rcases hP with rfl | rfl
  · exact zq_96_3 h
  · exact zq_96_39 h
/-! FeatherBench$Stock.find -/
def v_98_2 (T : Nat → List Value → zS → (Option Value → zS → Prop) → Prop) (P : Nat) (R2 : Int32 → Int32 → zS → Prop) (a1 : Int32) (a2 : Int32) (s : zS) (Q : Option Value → zS → Prop) : Prop :=
  ((s.1 198 2).toInt ≤ a2.toInt → Q (some (.int (-1))) s) ∧ (¬ ((s.1 198 2).toInt ≤ a2.toInt) → T 84 [.ref 75, .int a1, .int (zg s 198 a2)] s (fun v1 s2 => ∃ x3, v1 = some (.int x3) ∧ ((x3.toInt = 0 → ∀ x4 : Int32, (-2147483648 ≤ a2.toInt + 1 ∧ a2.toInt + 1 ≤ 2147483647 → x4.toInt = a2.toInt + 1) → R2 a1 x4 s2) ∧ (¬ (x3.toInt = 0) → Q (some (.int (zg s2 198 a2))) s2))))
def vl_98_2 (T : Nat → List Value → zS → (Option Value → zS → Prop) → Prop) (P : Nat)  (a1 : Int32) (a2 : Int32) (s : zS) (Q : Option Value → zS → Prop) : Prop :=
  ∃ (I : Int32 → Int32 → zS → Prop) (μ : Int32 → Int32 → zS → Nat), I a1 a2 s ∧ ∀ (a1 : Int32) (a2 : Int32) (s : zS), I a1 a2 s → v_98_2 T P (fun a1' a2' s' => I a1' a2' s' ∧ μ a1' a2' s' < μ a1 a2 s) a1 a2 s Q
def v_98_0 (T : Nat → List Value → zS → (Option Value → zS → Prop) → Prop) (P : Nat)  (a1 : Int32) (s : zS) (Q : Option Value → zS → Prop) : Prop :=
  vl_98_2 T P  a1 0 s Q
set_option maxRecDepth 20000 in
theorem m_98_2_3 {d d0 : Nat} (hd : d = d0 + 8) {R2 : Int32 → Int32 → zS → Prop} {a1 : Int32} {a2 : Int32} {s : zS} {Q : Option Value → zS → Prop} (r2 : ∀ a1 a2 s, R2 a1 a2 s → Zn d [] [] ([(75, 0, 3), (75, 1, 21), (75, 2, 25)] : zW) ([(75, 0, 3), (75, 1, 21), (75, 2, 25)] : zW) xL_8 3 (some .int) xE_98 (xE_98.drop 2) [.ref 197, .int a1, .int a2, .null, .null] [] s Q) (h : v_98_2 (fun j => Zt d (wd2 3 j) j) 3 R2 a1 a2 s Q) : Zn d [] [] ([(75, 0, 3), (75, 1, 21), (75, 2, 25)] : zW) ([(75, 0, 3), (75, 1, 21), (75, 2, 25)] : zW) xL_8 3 (some .int) xE_98 (xE_98.drop 2) [.ref 197, .int a1, .int a2, .null, .null] [] s Q := by
  unfold v_98_2 at h
  refine zn_ld rfl rfl rfl ?_
  refine zn_ld rfl rfl rfl ?_
  refine zn_get (v := .ref 198) rfl (zv_R (a := 197) rfl rfl) ?_
  refine zn_get (v := .int (s.1 198 2)) rfl (zv_I (a := 198) rfl rfl) ?_
  refine zn_brP rfl rfl ⟨fun hcn => ?_, fun hcn => ?_⟩
  · replace h := h.1 ((i_le (x := s.1 198 2) (y := a2) rfl rfl).mp hcn)
    refine zn_c [.int (-1)] (xo_push (.int (-1))) rfl rfl ?_
    exact zn_retI rfl h
  · replace h := h.2 (fun q => hcn ((i_le (x := s.1 198 2) (y := a2) rfl rfl).mpr q))
    refine zn_ld rfl rfl rfl ?_
    refine zn_get (v := .ref 75) rfl (zv_R (a := 197) rfl rfl) ?_
    refine zn_ld rfl rfl rfl ?_
    refine zn_ld rfl rfl rfl ?_
    refine zn_get (v := .ref 198) rfl (zv_R (a := 197) rfl rfl) ?_
    refine zn_ld rfl rfl rfl ?_
    refine zn_row a2 [.int a1, .ref 75] (a := 198) hd rfl rfl rfl rfl ?_
    change Zn _ _ _ _ _ _ _ _ _ _ _ [.int (zg s 198 a2), .int a1, .ref 75] _ _
    refine zn_zt [.ref 75, .int a1, .int (zg s 198 a2)] [] rfl rfl rfl rfl rfl (Zt.imp h (fun v1 s2 h => ?_))
    obtain ⟨x3, rfl, h⟩ := h
    change Zn _ _ _ _ _ _ _ _ _ _ _ [.int x3] _ _
    refine zn_brP rfl rfl ⟨fun hcn => ?_, fun hcn => ?_⟩
    · replace h := h.1 ((i_eq (x := x3) (y := 0) rfl (show (0 : Int32).toInt = 0 by decide)).mp hcn)
      replace h := h _ (i_add (x := a2) (y := 1) rfl (show (1 : Int32).toInt = 1 by decide))
      refine zn_inc [.ref 197, .int a1, .int (a2 + 1), .null, .null] rfl rfl rfl rfl ?_
      refine zn_go rfl ?_
      exact r2 a1 (a2 + 1) s2 h
    · replace h := h.2 (fun q => hcn ((i_eq (x := x3) (y := 0) rfl (show (0 : Int32).toInt = 0 by decide)).mpr q))
      refine zn_ld rfl rfl rfl ?_
      refine zn_get (v := .ref 198) rfl (zv_R (a := 197) rfl rfl) ?_
      refine zn_ld rfl rfl rfl ?_
      refine zn_row a2 [] (a := 198) hd rfl rfl rfl rfl ?_
      change Zn _ _ _ _ _ _ _ _ _ _ _ [.int (zg s2 198 a2)] _ _
      exact zn_retI rfl h
theorem ml_98_2_3 {d d0 : Nat} (hd : d = d0 + 8)  {a1 : Int32} {a2 : Int32} {s : zS} {Q : Option Value → zS → Prop}  (h : vl_98_2 (fun j => Zt d (wd2 3 j) j) 3  a1 a2 s Q) : Zn d [] [] ([(75, 0, 3), (75, 1, 21), (75, 2, 25)] : zW) ([(75, 0, 3), (75, 1, 21), (75, 2, 25)] : zW) xL_8 3 (some .int) xE_98 (xE_98.drop 2) [.ref 197, .int a1, .int a2, .null, .null] [] s Q := by
  obtain ⟨I, μ, h0, h1⟩ := h
  have key : ∀ (n : Nat) (a1 : Int32) (a2 : Int32) (s : zS), μ a1 a2 s = n → I a1 a2 s → Zn d [] [] ([(75, 0, 3), (75, 1, 21), (75, 2, 25)] : zW) ([(75, 0, 3), (75, 1, 21), (75, 2, 25)] : zW) xL_8 3 (some .int) xE_98 (xE_98.drop 2) [.ref 197, .int a1, .int a2, .null, .null] [] s Q := by
    intro n
    induction n using Nat.strongRecOn with
    | ind n ih =>
      intro a1 a2 s e hI
      exact m_98_2_3 hd (fun a1' a2' s' q => ih _ (by rw [← e]; exact q.2) a1' a2' s' rfl q.1) (h1 a1 a2 s hI)
  exact key _ a1 a2 s rfl h0
set_option maxRecDepth 20000 in
theorem m_98_0_3 {d d0 : Nat} (hd : d = d0 + 8)  {a1 : Int32} {s : zS} {Q : Option Value → zS → Prop}  (h : v_98_0 (fun j => Zt d (wd2 3 j) j) 3  a1 s Q) : Zn d [] [] ([(75, 0, 3), (75, 1, 21), (75, 2, 25)] : zW) ([(75, 0, 3), (75, 1, 21), (75, 2, 25)] : zW) xL_8 3 (some .int) xE_98 (xE_98.drop 0) [.ref 197, .int a1, .null, .null, .null] [] s Q := by
  unfold v_98_0 at h
  refine zn_c [.int 0] (xo_push (.int 0)) rfl rfl ?_
  refine zn_st [.ref 197, .int a1, .int 0, .null, .null] rfl rfl rfl ?_
  exact ml_98_2_3 hd  h
theorem zq_98_3 {d : Nat} {a1 : Int32} {s : zS} {Q : Option Value → zS → Prop} (h : v_98_0 (fun j => Zt (d + 8) (wd2 3 j) j) 3 a1 s Q) : Zt (d + 9) ([(75, 0, 3), (75, 1, 21), (75, 2, 25)] : zW) 98 [.ref 197, .int a1] s Q := zt_of (E := xE_98) (L := xL_8) (ml := 3) (ret := some .int) rfl rfl rfl (m_98_0_3 rfl h)
set_option maxRecDepth 20000 in
theorem m_98_2_39 {d d0 : Nat} (hd : d = d0 + 8) {R2 : Int32 → Int32 → zS → Prop} {a1 : Int32} {a2 : Int32} {s : zS} {Q : Option Value → zS → Prop} (r2 : ∀ a1 a2 s, R2 a1 a2 s → Zn d [] [] ([(75, 0, 39), (75, 1, 57), (75, 2, 61)] : zW) ([(75, 0, 39), (75, 1, 57), (75, 2, 61)] : zW) xL_8 3 (some .int) xE_98 (xE_98.drop 2) [.ref 197, .int a1, .int a2, .null, .null] [] s Q) (h : v_98_2 (fun j => Zt d (wd2 39 j) j) 39 R2 a1 a2 s Q) : Zn d [] [] ([(75, 0, 39), (75, 1, 57), (75, 2, 61)] : zW) ([(75, 0, 39), (75, 1, 57), (75, 2, 61)] : zW) xL_8 3 (some .int) xE_98 (xE_98.drop 2) [.ref 197, .int a1, .int a2, .null, .null] [] s Q := by
  unfold v_98_2 at h
  refine zn_ld rfl rfl rfl ?_
  refine zn_ld rfl rfl rfl ?_
  refine zn_get (v := .ref 198) rfl (zv_R (a := 197) rfl rfl) ?_
  refine zn_get (v := .int (s.1 198 2)) rfl (zv_I (a := 198) rfl rfl) ?_
  refine zn_brP rfl rfl ⟨fun hcn => ?_, fun hcn => ?_⟩
  · replace h := h.1 ((i_le (x := s.1 198 2) (y := a2) rfl rfl).mp hcn)
    refine zn_c [.int (-1)] (xo_push (.int (-1))) rfl rfl ?_
    exact zn_retI rfl h
  · replace h := h.2 (fun q => hcn ((i_le (x := s.1 198 2) (y := a2) rfl rfl).mpr q))
    refine zn_ld rfl rfl rfl ?_
    refine zn_get (v := .ref 75) rfl (zv_R (a := 197) rfl rfl) ?_
    refine zn_ld rfl rfl rfl ?_
    refine zn_ld rfl rfl rfl ?_
    refine zn_get (v := .ref 198) rfl (zv_R (a := 197) rfl rfl) ?_
    refine zn_ld rfl rfl rfl ?_
    refine zn_row a2 [.int a1, .ref 75] (a := 198) hd rfl rfl rfl rfl ?_
    change Zn _ _ _ _ _ _ _ _ _ _ _ [.int (zg s 198 a2), .int a1, .ref 75] _ _
    refine zn_zt [.ref 75, .int a1, .int (zg s 198 a2)] [] rfl rfl rfl rfl rfl (Zt.imp h (fun v1 s2 h => ?_))
    obtain ⟨x3, rfl, h⟩ := h
    change Zn _ _ _ _ _ _ _ _ _ _ _ [.int x3] _ _
    refine zn_brP rfl rfl ⟨fun hcn => ?_, fun hcn => ?_⟩
    · replace h := h.1 ((i_eq (x := x3) (y := 0) rfl (show (0 : Int32).toInt = 0 by decide)).mp hcn)
      replace h := h _ (i_add (x := a2) (y := 1) rfl (show (1 : Int32).toInt = 1 by decide))
      refine zn_inc [.ref 197, .int a1, .int (a2 + 1), .null, .null] rfl rfl rfl rfl ?_
      refine zn_go rfl ?_
      exact r2 a1 (a2 + 1) s2 h
    · replace h := h.2 (fun q => hcn ((i_eq (x := x3) (y := 0) rfl (show (0 : Int32).toInt = 0 by decide)).mpr q))
      refine zn_ld rfl rfl rfl ?_
      refine zn_get (v := .ref 198) rfl (zv_R (a := 197) rfl rfl) ?_
      refine zn_ld rfl rfl rfl ?_
      refine zn_row a2 [] (a := 198) hd rfl rfl rfl rfl ?_
      change Zn _ _ _ _ _ _ _ _ _ _ _ [.int (zg s2 198 a2)] _ _
      exact zn_retI rfl h
theorem ml_98_2_39 {d d0 : Nat} (hd : d = d0 + 8)  {a1 : Int32} {a2 : Int32} {s : zS} {Q : Option Value → zS → Prop}  (h : vl_98_2 (fun j => Zt d (wd2 39 j) j) 39  a1 a2 s Q) : Zn d [] [] ([(75, 0, 39), (75, 1, 57), (75, 2, 61)] : zW) ([(75, 0, 39), (75, 1, 57), (75, 2, 61)] : zW) xL_8 3 (some .int) xE_98 (xE_98.drop 2) [.ref 197, .int a1, .int a2, .null, .null] [] s Q := by
  obtain ⟨I, μ, h0, h1⟩ := h
  have key : ∀ (n : Nat) (a1 : Int32) (a2 : Int32) (s : zS), μ a1 a2 s = n → I a1 a2 s → Zn d [] [] ([(75, 0, 39), (75, 1, 57), (75, 2, 61)] : zW) ([(75, 0, 39), (75, 1, 57), (75, 2, 61)] : zW) xL_8 3 (some .int) xE_98 (xE_98.drop 2) [.ref 197, .int a1, .int a2, .null, .null] [] s Q := by
    intro n
    induction n using Nat.strongRecOn with
    | ind n ih =>
      intro a1 a2 s e hI
      exact m_98_2_39 hd (fun a1' a2' s' q => ih _ (by rw [← e]; exact q.2) a1' a2' s' rfl q.1) (h1 a1 a2 s hI)
  exact key _ a1 a2 s rfl h0
set_option maxRecDepth 20000 in
theorem m_98_0_39 {d d0 : Nat} (hd : d = d0 + 8)  {a1 : Int32} {s : zS} {Q : Option Value → zS → Prop}  (h : v_98_0 (fun j => Zt d (wd2 39 j) j) 39  a1 s Q) : Zn d [] [] ([(75, 0, 39), (75, 1, 57), (75, 2, 61)] : zW) ([(75, 0, 39), (75, 1, 57), (75, 2, 61)] : zW) xL_8 3 (some .int) xE_98 (xE_98.drop 0) [.ref 197, .int a1, .null, .null, .null] [] s Q := by
  unfold v_98_0 at h
  refine zn_c [.int 0] (xo_push (.int 0)) rfl rfl ?_
  refine zn_st [.ref 197, .int a1, .int 0, .null, .null] rfl rfl rfl ?_
  exact ml_98_2_39 hd  h
theorem zq_98_39 {d : Nat} {a1 : Int32} {s : zS} {Q : Option Value → zS → Prop} (h : v_98_0 (fun j => Zt (d + 8) (wd2 39 j) j) 39 a1 s Q) : Zt (d + 9) ([(75, 0, 39), (75, 1, 57), (75, 2, 61)] : zW) 98 [.ref 197, .int a1] s Q := zt_of (E := xE_98) (L := xL_8) (ml := 3) (ret := some .int) rfl rfl rfl (m_98_0_39 rfl h)
theorem zc_98 {d P : Nat} (hP : P = 3 ∨ P = 39) {a1 : Int32} {s : zS} {Q : Option Value → zS → Prop} (h : v_98_0 (fun j => Zt (d + 8) (wd2 P j) j) P a1 s Q) : Zt (d + 9) (wd2 P 98) 98 [.ref 197, .int a1] s Q := by
  rcases hP with rfl | rfl
  · exact zq_98_3 h
  · exact zq_98_39 h
/-! FeatherBench$Stock.begin -/
def v_102_17 (T : Nat → List Value → zS → (Option Value → zS → Prop) → Prop) (P : Nat) (R17 : Int32 → Int32 → Int32 → Int32 → zS → Prop) (a1 : Int32) (a2 : Int32) (a3 : Int32) (a4 : Int32) (s : zS) (Q : Option Value → zS → Prop) : Prop :=
  (6 ≤ a4.toInt → Q none s) ∧ (¬ (6 ≤ a4.toInt) → ∀ x1 : Int32, (-2147483648 ≤ 3 + a4.toInt ∧ 3 + a4.toInt ≤ 2147483647 → x1.toInt = 3 + a4.toInt) → ∀ s2, s2 = zt s 204 x1 0 → ∀ x3 : Int32, (-2147483648 ≤ a4.toInt + 1 ∧ a4.toInt + 1 ≤ 2147483647 → x3.toInt = a4.toInt + 1) → R17 a1 a2 a3 x3 s2)
def vl_102_17 (T : Nat → List Value → zS → (Option Value → zS → Prop) → Prop) (P : Nat)  (a1 : Int32) (a2 : Int32) (a3 : Int32) (a4 : Int32) (s : zS) (Q : Option Value → zS → Prop) : Prop :=
  ∃ (I : Int32 → Int32 → Int32 → Int32 → zS → Prop) (μ : Int32 → Int32 → Int32 → Int32 → zS → Nat), I a1 a2 a3 a4 s ∧ ∀ (a1 : Int32) (a2 : Int32) (a3 : Int32) (a4 : Int32) (s : zS), I a1 a2 a3 a4 s → v_102_17 T P (fun a1' a2' a3' a4' s' => I a1' a2' a3' a4' s' ∧ μ a1' a2' a3' a4' s' < μ a1 a2 a3 a4 s) a1 a2 a3 a4 s Q
def v_102_0 (T : Nat → List Value → zS → (Option Value → zS → Prop) → Prop) (P : Nat)  (a1 : Int32) (a2 : Int32) (a3 : Int32) (s : zS) (Q : Option Value → zS → Prop) : Prop :=
  (-1000 ≤ a1.toInt ∧ a1.toInt ≤ 1000000000) ∧ (∀ s1, s1 = zt s 204 0 a1 → (-1000 ≤ a2.toInt ∧ a2.toInt ≤ 1000000000) ∧ (∀ s2, s2 = zt s1 204 1 a2 → (-1000 ≤ a3.toInt ∧ a3.toInt ≤ 1000000000) ∧ (∀ s3, s3 = zt s2 204 2 a3 → vl_102_17 T P  a1 a2 a3 0 s3 Q)))
set_option maxRecDepth 20000 in
theorem m_102_17_3 {d d0 : Nat} (hd : d = d0 + 8) {R17 : Int32 → Int32 → Int32 → Int32 → zS → Prop} {a1 : Int32} {a2 : Int32} {a3 : Int32} {a4 : Int32} {s : zS} {Q : Option Value → zS → Prop} (r17 : ∀ a1 a2 a3 a4 s, R17 a1 a2 a3 a4 s → Zn d [] [(0, 198)] ([(197, 5, 3), (197, 6, 21), (75, 0, 3), (75, 1, 21), (75, 2, 25)] : zW) ([(197, 5, 3), (197, 6, 21), (75, 0, 3), (75, 1, 21), (75, 2, 25)] : zW) xL_8 5 (none) xE_102 (xE_102.drop 17) [.ref 197, .int a1, .int a2, .int a3, .int a4, .null, .null, .null, .null] [] s Q) (h : v_102_17 (fun j => Zt d (wd2 3 j) j) 3 R17 a1 a2 a3 a4 s Q) : Zn d [] [(0, 198)] ([(197, 5, 3), (197, 6, 21), (75, 0, 3), (75, 1, 21), (75, 2, 25)] : zW) ([(197, 5, 3), (197, 6, 21), (75, 0, 3), (75, 1, 21), (75, 2, 25)] : zW) xL_8 5 (none) xE_102 (xE_102.drop 17) [.ref 197, .int a1, .int a2, .int a3, .int a4, .null, .null, .null, .null] [] s Q := by
  unfold v_102_17 at h
  refine zn_ld rfl rfl rfl ?_
  refine zn_c [.int 6, .int a4] (xo_push (.int 6)) rfl rfl ?_
  refine zn_brP rfl rfl ⟨fun hcn => ?_, fun hcn => ?_⟩
  · replace h := h.1 ((i_le (x := 6) (y := a4) (show (6 : Int32).toInt = 6 by decide) rfl).mp hcn)
    exact zn_ret0 rfl h
  · replace h := h.2 (fun q => hcn ((i_le (x := 6) (y := a4) (show (6 : Int32).toInt = 6 by decide) rfl).mpr q))
    refine zn_ld rfl rfl rfl ?_
    refine zn_get (v := .ref 204) rfl (zv_R (a := 197) rfl rfl) ?_
    refine zn_c [.int 3, .ref 204] (xo_push (.int 3)) rfl rfl ?_
    refine zn_ld rfl rfl rfl ?_
    replace h := h _ (i_add (x := 3) (y := a4) (show (3 : Int32).toInt = 3 by decide) rfl)
    refine zn_c [.int (3 + a4), .ref 204] xo_iadd rfl rfl ?_
    refine zn_c [.int 0, .int (3 + a4), .ref 204] (xo_push (.int 0)) rfl rfl ?_
    refine zn_set (3 + a4) 0 [] (a := 204) hd rfl rfl rfl rfl ⟨Int32.le_toInt _, Int.le_of_lt_add_one (Int32.toInt_lt _)⟩ rfl rfl ?_ (hy := fun _ => (by decide))
    replace h := h _ rfl
    replace h := h _ (i_add (x := a4) (y := 1) rfl (show (1 : Int32).toInt = 1 by decide))
    refine zn_inc [.ref 197, .int a1, .int a2, .int a3, .int (a4 + 1), .null, .null, .null, .null] rfl rfl rfl rfl ?_
    refine zn_go rfl ?_
    exact r17 a1 a2 a3 (a4 + 1) (zt s 204 (3 + a4) 0) h
theorem ml_102_17_3 {d d0 : Nat} (hd : d = d0 + 8)  {a1 : Int32} {a2 : Int32} {a3 : Int32} {a4 : Int32} {s : zS} {Q : Option Value → zS → Prop}  (h : vl_102_17 (fun j => Zt d (wd2 3 j) j) 3  a1 a2 a3 a4 s Q) : Zn d [] [(0, 198)] ([(197, 5, 3), (197, 6, 21), (75, 0, 3), (75, 1, 21), (75, 2, 25)] : zW) ([(197, 5, 3), (197, 6, 21), (75, 0, 3), (75, 1, 21), (75, 2, 25)] : zW) xL_8 5 (none) xE_102 (xE_102.drop 17) [.ref 197, .int a1, .int a2, .int a3, .int a4, .null, .null, .null, .null] [] s Q := by
  obtain ⟨I, μ, h0, h1⟩ := h
  have key : ∀ (n : Nat) (a1 : Int32) (a2 : Int32) (a3 : Int32) (a4 : Int32) (s : zS), μ a1 a2 a3 a4 s = n → I a1 a2 a3 a4 s → Zn d [] [(0, 198)] ([(197, 5, 3), (197, 6, 21), (75, 0, 3), (75, 1, 21), (75, 2, 25)] : zW) ([(197, 5, 3), (197, 6, 21), (75, 0, 3), (75, 1, 21), (75, 2, 25)] : zW) xL_8 5 (none) xE_102 (xE_102.drop 17) [.ref 197, .int a1, .int a2, .int a3, .int a4, .null, .null, .null, .null] [] s Q := by
    intro n
    induction n using Nat.strongRecOn with
    | ind n ih =>
      intro a1 a2 a3 a4 s e hI
      exact m_102_17_3 hd (fun a1' a2' a3' a4' s' q => ih _ (by rw [← e]; exact q.2) a1' a2' a3' a4' s' rfl q.1) (h1 a1 a2 a3 a4 s hI)
  exact key _ a1 a2 a3 a4 s rfl h0
set_option maxRecDepth 20000 in
theorem m_102_0_3 {d d0 : Nat} (hd : d = d0 + 8)  {a1 : Int32} {a2 : Int32} {a3 : Int32} {s : zS} {Q : Option Value → zS → Prop}  (h : v_102_0 (fun j => Zt d (wd2 3 j) j) 3  a1 a2 a3 s Q) : Zn d [] [(0, 198)] ([(197, 5, 3), (197, 6, 21), (75, 0, 3), (75, 1, 21), (75, 2, 25)] : zW) ([(197, 5, 3), (197, 6, 21), (75, 0, 3), (75, 1, 21), (75, 2, 25)] : zW) xL_8 5 (none) xE_102 (xE_102.drop 0) [.ref 197, .int a1, .int a2, .int a3, .null, .null, .null, .null, .null] [] s Q := by
  unfold v_102_0 at h
  refine zn_ld rfl rfl rfl ?_
  refine zn_get (v := .ref 204) rfl (zv_R (a := 197) rfl rfl) ?_
  refine zn_c [.int 0, .ref 204] (xo_push (.int 0)) rfl rfl ?_
  refine zn_ld rfl rfl rfl ?_
  obtain ⟨hyS, h⟩ := h
  refine zn_set 0 a1 [] (a := 204) hd rfl rfl rfl rfl ⟨Int32.le_toInt _, Int.le_of_lt_add_one (Int32.toInt_lt _)⟩ rfl rfl ?_ (hy := fun _ => hyS)
  replace h := h _ rfl
  refine zn_ld rfl rfl rfl ?_
  refine zn_get (v := .ref 204) rfl (zv_R (a := 197) rfl rfl) ?_
  refine zn_c [.int 1, .ref 204] (xo_push (.int 1)) rfl rfl ?_
  refine zn_ld rfl rfl rfl ?_
  obtain ⟨hyS, h⟩ := h
  refine zn_set 1 a2 [] (a := 204) hd rfl rfl rfl rfl ⟨Int32.le_toInt _, Int.le_of_lt_add_one (Int32.toInt_lt _)⟩ rfl rfl ?_ (hy := fun _ => hyS)
  replace h := h _ rfl
  refine zn_ld rfl rfl rfl ?_
  refine zn_get (v := .ref 204) rfl (zv_R (a := 197) rfl rfl) ?_
  refine zn_c [.int 2, .ref 204] (xo_push (.int 2)) rfl rfl ?_
  refine zn_ld rfl rfl rfl ?_
  obtain ⟨hyS, h⟩ := h
  refine zn_set 2 a3 [] (a := 204) hd rfl rfl rfl rfl ⟨Int32.le_toInt _, Int.le_of_lt_add_one (Int32.toInt_lt _)⟩ rfl rfl ?_ (hy := fun _ => hyS)
  replace h := h _ rfl
  refine zn_c [.int 0] (xo_push (.int 0)) rfl rfl ?_
  refine zn_st [.ref 197, .int a1, .int a2, .int a3, .int 0, .null, .null, .null, .null] rfl rfl rfl ?_
  exact ml_102_17_3 hd  h
theorem zq_102_3 {d : Nat} {a1 : Int32} {a2 : Int32} {a3 : Int32} {s : zS} {Q : Option Value → zS → Prop} (h : v_102_0 (fun j => Zt (d + 8) (wd2 3 j) j) 3 a1 a2 a3 s Q) : Zt (d + 9) ([(197, 5, 3), (197, 6, 21), (75, 0, 3), (75, 1, 21), (75, 2, 25)] : zW) 102 [.ref 197, .int a1, .int a2, .int a3] s Q := zt_of (E := xE_102) (L := xL_8) (ml := 5) (ret := none) rfl rfl rfl (m_102_0_3 rfl h)
set_option maxRecDepth 20000 in
theorem m_102_17_39 {d d0 : Nat} (hd : d = d0 + 8) {R17 : Int32 → Int32 → Int32 → Int32 → zS → Prop} {a1 : Int32} {a2 : Int32} {a3 : Int32} {a4 : Int32} {s : zS} {Q : Option Value → zS → Prop} (r17 : ∀ a1 a2 a3 a4 s, R17 a1 a2 a3 a4 s → Zn d [] [(0, 198)] ([(197, 5, 39), (197, 6, 57), (75, 0, 39), (75, 1, 57), (75, 2, 61)] : zW) ([(197, 5, 39), (197, 6, 57), (75, 0, 39), (75, 1, 57), (75, 2, 61)] : zW) xL_8 5 (none) xE_102 (xE_102.drop 17) [.ref 197, .int a1, .int a2, .int a3, .int a4, .null, .null, .null, .null] [] s Q) (h : v_102_17 (fun j => Zt d (wd2 39 j) j) 39 R17 a1 a2 a3 a4 s Q) : Zn d [] [(0, 198)] ([(197, 5, 39), (197, 6, 57), (75, 0, 39), (75, 1, 57), (75, 2, 61)] : zW) ([(197, 5, 39), (197, 6, 57), (75, 0, 39), (75, 1, 57), (75, 2, 61)] : zW) xL_8 5 (none) xE_102 (xE_102.drop 17) [.ref 197, .int a1, .int a2, .int a3, .int a4, .null, .null, .null, .null] [] s Q := by
  unfold v_102_17 at h
  refine zn_ld rfl rfl rfl ?_
  refine zn_c [.int 6, .int a4] (xo_push (.int 6)) rfl rfl ?_
  refine zn_brP rfl rfl ⟨fun hcn => ?_, fun hcn => ?_⟩
  · replace h := h.1 ((i_le (x := 6) (y := a4) (show (6 : Int32).toInt = 6 by decide) rfl).mp hcn)
    exact zn_ret0 rfl h
  · replace h := h.2 (fun q => hcn ((i_le (x := 6) (y := a4) (show (6 : Int32).toInt = 6 by decide) rfl).mpr q))
    refine zn_ld rfl rfl rfl ?_
    refine zn_get (v := .ref 204) rfl (zv_R (a := 197) rfl rfl) ?_
    refine zn_c [.int 3, .ref 204] (xo_push (.int 3)) rfl rfl ?_
    refine zn_ld rfl rfl rfl ?_
    replace h := h _ (i_add (x := 3) (y := a4) (show (3 : Int32).toInt = 3 by decide) rfl)
    refine zn_c [.int (3 + a4), .ref 204] xo_iadd rfl rfl ?_
    refine zn_c [.int 0, .int (3 + a4), .ref 204] (xo_push (.int 0)) rfl rfl ?_
    refine zn_set (3 + a4) 0 [] (a := 204) hd rfl rfl rfl rfl ⟨Int32.le_toInt _, Int.le_of_lt_add_one (Int32.toInt_lt _)⟩ rfl rfl ?_ (hy := fun _ => (by decide))
    replace h := h _ rfl
    replace h := h _ (i_add (x := a4) (y := 1) rfl (show (1 : Int32).toInt = 1 by decide))
    refine zn_inc [.ref 197, .int a1, .int a2, .int a3, .int (a4 + 1), .null, .null, .null, .null] rfl rfl rfl rfl ?_
    refine zn_go rfl ?_
    exact r17 a1 a2 a3 (a4 + 1) (zt s 204 (3 + a4) 0) h
theorem ml_102_17_39 {d d0 : Nat} (hd : d = d0 + 8)  {a1 : Int32} {a2 : Int32} {a3 : Int32} {a4 : Int32} {s : zS} {Q : Option Value → zS → Prop}  (h : vl_102_17 (fun j => Zt d (wd2 39 j) j) 39  a1 a2 a3 a4 s Q) : Zn d [] [(0, 198)] ([(197, 5, 39), (197, 6, 57), (75, 0, 39), (75, 1, 57), (75, 2, 61)] : zW) ([(197, 5, 39), (197, 6, 57), (75, 0, 39), (75, 1, 57), (75, 2, 61)] : zW) xL_8 5 (none) xE_102 (xE_102.drop 17) [.ref 197, .int a1, .int a2, .int a3, .int a4, .null, .null, .null, .null] [] s Q := by
  obtain ⟨I, μ, h0, h1⟩ := h
  have key : ∀ (n : Nat) (a1 : Int32) (a2 : Int32) (a3 : Int32) (a4 : Int32) (s : zS), μ a1 a2 a3 a4 s = n → I a1 a2 a3 a4 s → Zn d [] [(0, 198)] ([(197, 5, 39), (197, 6, 57), (75, 0, 39), (75, 1, 57), (75, 2, 61)] : zW) ([(197, 5, 39), (197, 6, 57), (75, 0, 39), (75, 1, 57), (75, 2, 61)] : zW) xL_8 5 (none) xE_102 (xE_102.drop 17) [.ref 197, .int a1, .int a2, .int a3, .int a4, .null, .null, .null, .null] [] s Q := by
    intro n
    induction n using Nat.strongRecOn with
    | ind n ih =>
      intro a1 a2 a3 a4 s e hI
      exact m_102_17_39 hd (fun a1' a2' a3' a4' s' q => ih _ (by rw [← e]; exact q.2) a1' a2' a3' a4' s' rfl q.1) (h1 a1 a2 a3 a4 s hI)
  exact key _ a1 a2 a3 a4 s rfl h0
set_option maxRecDepth 20000 in
theorem m_102_0_39 {d d0 : Nat} (hd : d = d0 + 8)  {a1 : Int32} {a2 : Int32} {a3 : Int32} {s : zS} {Q : Option Value → zS → Prop}  (h : v_102_0 (fun j => Zt d (wd2 39 j) j) 39  a1 a2 a3 s Q) : Zn d [] [(0, 198)] ([(197, 5, 39), (197, 6, 57), (75, 0, 39), (75, 1, 57), (75, 2, 61)] : zW) ([(197, 5, 39), (197, 6, 57), (75, 0, 39), (75, 1, 57), (75, 2, 61)] : zW) xL_8 5 (none) xE_102 (xE_102.drop 0) [.ref 197, .int a1, .int a2, .int a3, .null, .null, .null, .null, .null] [] s Q := by
  unfold v_102_0 at h
  refine zn_ld rfl rfl rfl ?_
  refine zn_get (v := .ref 204) rfl (zv_R (a := 197) rfl rfl) ?_
  refine zn_c [.int 0, .ref 204] (xo_push (.int 0)) rfl rfl ?_
  refine zn_ld rfl rfl rfl ?_
  obtain ⟨hyS, h⟩ := h
  refine zn_set 0 a1 [] (a := 204) hd rfl rfl rfl rfl ⟨Int32.le_toInt _, Int.le_of_lt_add_one (Int32.toInt_lt _)⟩ rfl rfl ?_ (hy := fun _ => hyS)
  replace h := h _ rfl
  refine zn_ld rfl rfl rfl ?_
  refine zn_get (v := .ref 204) rfl (zv_R (a := 197) rfl rfl) ?_
  refine zn_c [.int 1, .ref 204] (xo_push (.int 1)) rfl rfl ?_
  refine zn_ld rfl rfl rfl ?_
  obtain ⟨hyS, h⟩ := h
  refine zn_set 1 a2 [] (a := 204) hd rfl rfl rfl rfl ⟨Int32.le_toInt _, Int.le_of_lt_add_one (Int32.toInt_lt _)⟩ rfl rfl ?_ (hy := fun _ => hyS)
  replace h := h _ rfl
  refine zn_ld rfl rfl rfl ?_
  refine zn_get (v := .ref 204) rfl (zv_R (a := 197) rfl rfl) ?_
  refine zn_c [.int 2, .ref 204] (xo_push (.int 2)) rfl rfl ?_
  refine zn_ld rfl rfl rfl ?_
  obtain ⟨hyS, h⟩ := h
  refine zn_set 2 a3 [] (a := 204) hd rfl rfl rfl rfl ⟨Int32.le_toInt _, Int.le_of_lt_add_one (Int32.toInt_lt _)⟩ rfl rfl ?_ (hy := fun _ => hyS)
  replace h := h _ rfl
  refine zn_c [.int 0] (xo_push (.int 0)) rfl rfl ?_
  refine zn_st [.ref 197, .int a1, .int a2, .int a3, .int 0, .null, .null, .null, .null] rfl rfl rfl ?_
  exact ml_102_17_39 hd  h
theorem zq_102_39 {d : Nat} {a1 : Int32} {a2 : Int32} {a3 : Int32} {s : zS} {Q : Option Value → zS → Prop} (h : v_102_0 (fun j => Zt (d + 8) (wd2 39 j) j) 39 a1 a2 a3 s Q) : Zt (d + 9) ([(197, 5, 39), (197, 6, 57), (75, 0, 39), (75, 1, 57), (75, 2, 61)] : zW) 102 [.ref 197, .int a1, .int a2, .int a3] s Q := zt_of (E := xE_102) (L := xL_8) (ml := 5) (ret := none) rfl rfl rfl (m_102_0_39 rfl h)
theorem zc_102 {d P : Nat} (hP : P = 3 ∨ P = 39) {a1 : Int32} {a2 : Int32} {a3 : Int32} {s : zS} {Q : Option Value → zS → Prop} (h : v_102_0 (fun j => Zt (d + 8) (wd2 P j) j) P a1 a2 a3 s Q) : Zt (d + 9) (wd2 P 102) 102 [.ref 197, .int a1, .int a2, .int a3] s Q := by
  rcases hP with rfl | rfl
  · exact zq_102_3 h
  · exact zq_102_39 h
/-! FeatherBench$Stock.countAll -/
def v_104_18 (T : Nat → List Value → zS → (Option Value → zS → Prop) → Prop) (P : Nat)  (t1 : Int32) (s : zS) (Q : Option Value → zS → Prop) : Prop :=
  (0 ≤ t1.toInt ∧ t1.toInt ≤ 1) ∧ (∀ s1, s1 = zf s 197 10 t1 → Q none s1)
def v_104_15 (T : Nat → List Value → zS → (Option Value → zS → Prop) → Prop) (P : Nat)   (s : zS) (Q : Option Value → zS → Prop) : Prop :=
  v_104_18 T P  1 s Q
def v_104_0 (T : Nat → List Value → zS → (Option Value → zS → Prop) → Prop) (P : Nat)   (s : zS) (Q : Option Value → zS → Prop) : Prop :=
  (¬ ((s.1 197 10).toInt = 0) → v_104_15 T P   s Q) ∧ ((s.1 197 10).toInt = 0 → T 95 [.ref 197] s (fun v1 s2 => ∃ x3, v1 = some (.int x3) ∧ (∀ x4 : Int32, (-2147483648 ≤ (s.1 198 2).toInt + x3.toInt ∧ (s.1 198 2).toInt + x3.toInt ≤ 2147483647 → x4.toInt = (s.1 198 2).toInt + x3.toInt) → T 96 [.ref 197] s2 (fun v5 s6 => ∃ x7, v5 = some (.int x7) ∧ (∀ x8 : Int32, (-2147483648 ≤ x4.toInt + x7.toInt ∧ x4.toInt + x7.toInt ≤ 2147483647 → x8.toInt = x4.toInt + x7.toInt) → (x8.toInt ≤ 150 → v_104_18 T P  0 s6 Q) ∧ (¬ (x8.toInt ≤ 150) → v_104_15 T P   s6 Q))))))
set_option maxRecDepth 20000 in
theorem m_104_18_3 {d d0 : Nat} (hd : d = d0 + 8)  {t1 : Int32} {s : zS} {Q : Option Value → zS → Prop}  (h : v_104_18 (fun j => Zt d (wd2 3 j) j) 3  t1 s Q) : Zn d [] [] ([(197, 5, 3), (197, 6, 21), (75, 0, 3), (75, 1, 21), (75, 2, 25)] : zW) ([(197, 5, 3), (197, 6, 21), (75, 0, 3), (75, 1, 21), (75, 2, 25)] : zW) xL_8 1 (none) xE_104 (xE_104.drop 18) [.ref 197, .null] [.int t1, .ref 197] s Q := by
  unfold v_104_18 at h
  refine zn_putI (a := 197) rfl rfl rfl rfl h.1 (i_z (x := t1) rfl (by have := h.1; omega)) rfl rfl ?_
  replace h := h.2
  replace h := h _ rfl
  exact zn_ret0 rfl h
set_option maxRecDepth 20000 in
theorem m_104_15_3 {d d0 : Nat} (hd : d = d0 + 8)   {s : zS} {Q : Option Value → zS → Prop}  (h : v_104_15 (fun j => Zt d (wd2 3 j) j) 3   s Q) : Zn d [] [] ([(197, 5, 3), (197, 6, 21), (75, 0, 3), (75, 1, 21), (75, 2, 25)] : zW) ([(197, 5, 3), (197, 6, 21), (75, 0, 3), (75, 1, 21), (75, 2, 25)] : zW) xL_8 1 (none) xE_104 (xE_104.drop 15) [.ref 197, .null] [.ref 197] s Q := by
  unfold v_104_15 at h
  refine zn_c [.int 1, .ref 197] (xo_push (.int 1)) rfl rfl ?_
  refine zn_go rfl ?_
  exact m_104_18_3 hd  h
set_option maxRecDepth 20000 in
theorem m_104_0_3 {d d0 : Nat} (hd : d = d0 + 8)   {s : zS} {Q : Option Value → zS → Prop}  (h : v_104_0 (fun j => Zt d (wd2 3 j) j) 3   s Q) : Zn d [] [] ([(197, 5, 3), (197, 6, 21), (75, 0, 3), (75, 1, 21), (75, 2, 25)] : zW) ([(197, 5, 3), (197, 6, 21), (75, 0, 3), (75, 1, 21), (75, 2, 25)] : zW) xL_8 1 (none) xE_104 (xE_104.drop 0) [.ref 197, .null] [] s Q := by
  unfold v_104_0 at h
  refine zn_ld rfl rfl rfl ?_
  refine zn_ld rfl rfl rfl ?_
  refine zn_get (v := .int (s.1 197 10)) rfl (zv_I (a := 197) rfl rfl) ?_
  refine zn_brN rfl rfl ⟨fun hcn => ?_, fun hcn => ?_⟩
  · replace h := h.1 (fun q => hcn ((i_eq (x := s.1 197 10) (y := 0) rfl (show (0 : Int32).toInt = 0 by decide)).mpr q))
    exact m_104_15_3 hd  h
  · replace h := h.2 ((i_eq (x := s.1 197 10) (y := 0) rfl (show (0 : Int32).toInt = 0 by decide)).mp hcn)
    refine zn_ld rfl rfl rfl ?_
    refine zn_get (v := .ref 198) rfl (zv_R (a := 197) rfl rfl) ?_
    refine zn_get (v := .int (s.1 198 2)) rfl (zv_I (a := 198) rfl rfl) ?_
    refine zn_ld rfl rfl rfl ?_
    refine zn_zt [.ref 197] [.int (s.1 198 2), .ref 197] rfl rfl rfl rfl rfl (Zt.imp h (fun v1 s2 h => ?_))
    obtain ⟨x3, rfl, h⟩ := h
    change Zn _ _ _ _ _ _ _ _ _ _ _ [.int x3, .int (s.1 198 2), .ref 197] _ _
    replace h := h _ (i_add (x := s.1 198 2) (y := x3) rfl rfl)
    refine zn_c [.int ((s.1 198 2) + x3), .ref 197] xo_iadd rfl rfl ?_
    refine zn_ld rfl rfl rfl ?_
    refine zn_zt [.ref 197] [.int ((s.1 198 2) + x3), .ref 197] rfl rfl rfl rfl rfl (Zt.imp h (fun v5 s6 h => ?_))
    obtain ⟨x7, rfl, h⟩ := h
    change Zn _ _ _ _ _ _ _ _ _ _ _ [.int x7, .int ((s.1 198 2) + x3), .ref 197] _ _
    replace h := h _ (i_add (x := ((s.1 198 2) + x3)) (y := x7) rfl rfl)
    refine zn_c [.int (((s.1 198 2) + x3) + x7), .ref 197] xo_iadd rfl rfl ?_
    refine zn_c [.int 150, .int (((s.1 198 2) + x3) + x7), .ref 197] (xo_push (.int 150)) rfl rfl ?_
    refine zn_brP rfl rfl ⟨fun hcn => ?_, fun hcn => ?_⟩
    · replace h := h.1 ((i_le (x := (((s.1 198 2) + x3) + x7)) (y := 150) rfl (show (150 : Int32).toInt = 150 by decide)).mp hcn)
      refine zn_c [.int 0, .ref 197] (xo_push (.int 0)) rfl rfl ?_
      exact m_104_18_3 hd  h
    · replace h := h.2 (fun q => hcn ((i_le (x := (((s.1 198 2) + x3) + x7)) (y := 150) rfl (show (150 : Int32).toInt = 150 by decide)).mpr q))
      exact m_104_15_3 hd  h
theorem zq_104_3 {d : Nat}  {s : zS} {Q : Option Value → zS → Prop} (h : v_104_0 (fun j => Zt (d + 8) (wd2 3 j) j) 3  s Q) : Zt (d + 9) ([(197, 5, 3), (197, 6, 21), (75, 0, 3), (75, 1, 21), (75, 2, 25)] : zW) 104 [.ref 197] s Q := zt_of (E := xE_104) (L := xL_8) (ml := 1) (ret := none) rfl rfl rfl (m_104_0_3 rfl h)
set_option maxRecDepth 20000 in
theorem m_104_18_39 {d d0 : Nat} (hd : d = d0 + 8)  {t1 : Int32} {s : zS} {Q : Option Value → zS → Prop}  (h : v_104_18 (fun j => Zt d (wd2 39 j) j) 39  t1 s Q) : Zn d [] [] ([(197, 5, 39), (197, 6, 57), (75, 0, 39), (75, 1, 57), (75, 2, 61)] : zW) ([(197, 5, 39), (197, 6, 57), (75, 0, 39), (75, 1, 57), (75, 2, 61)] : zW) xL_8 1 (none) xE_104 (xE_104.drop 18) [.ref 197, .null] [.int t1, .ref 197] s Q := by
  unfold v_104_18 at h
  refine zn_putI (a := 197) rfl rfl rfl rfl h.1 (i_z (x := t1) rfl (by have := h.1; omega)) rfl rfl ?_
  replace h := h.2
  replace h := h _ rfl
  exact zn_ret0 rfl h
set_option maxRecDepth 20000 in
theorem m_104_15_39 {d d0 : Nat} (hd : d = d0 + 8)   {s : zS} {Q : Option Value → zS → Prop}  (h : v_104_15 (fun j => Zt d (wd2 39 j) j) 39   s Q) : Zn d [] [] ([(197, 5, 39), (197, 6, 57), (75, 0, 39), (75, 1, 57), (75, 2, 61)] : zW) ([(197, 5, 39), (197, 6, 57), (75, 0, 39), (75, 1, 57), (75, 2, 61)] : zW) xL_8 1 (none) xE_104 (xE_104.drop 15) [.ref 197, .null] [.ref 197] s Q := by
  unfold v_104_15 at h
  refine zn_c [.int 1, .ref 197] (xo_push (.int 1)) rfl rfl ?_
  refine zn_go rfl ?_
  exact m_104_18_39 hd  h
set_option maxRecDepth 20000 in
theorem m_104_0_39 {d d0 : Nat} (hd : d = d0 + 8)   {s : zS} {Q : Option Value → zS → Prop}  (h : v_104_0 (fun j => Zt d (wd2 39 j) j) 39   s Q) : Zn d [] [] ([(197, 5, 39), (197, 6, 57), (75, 0, 39), (75, 1, 57), (75, 2, 61)] : zW) ([(197, 5, 39), (197, 6, 57), (75, 0, 39), (75, 1, 57), (75, 2, 61)] : zW) xL_8 1 (none) xE_104 (xE_104.drop 0) [.ref 197, .null] [] s Q := by
  unfold v_104_0 at h
  refine zn_ld rfl rfl rfl ?_
  refine zn_ld rfl rfl rfl ?_
  refine zn_get (v := .int (s.1 197 10)) rfl (zv_I (a := 197) rfl rfl) ?_
  refine zn_brN rfl rfl ⟨fun hcn => ?_, fun hcn => ?_⟩
  · replace h := h.1 (fun q => hcn ((i_eq (x := s.1 197 10) (y := 0) rfl (show (0 : Int32).toInt = 0 by decide)).mpr q))
    exact m_104_15_39 hd  h
  · replace h := h.2 ((i_eq (x := s.1 197 10) (y := 0) rfl (show (0 : Int32).toInt = 0 by decide)).mp hcn)
    refine zn_ld rfl rfl rfl ?_
    refine zn_get (v := .ref 198) rfl (zv_R (a := 197) rfl rfl) ?_
    refine zn_get (v := .int (s.1 198 2)) rfl (zv_I (a := 198) rfl rfl) ?_
    refine zn_ld rfl rfl rfl ?_
    refine zn_zt [.ref 197] [.int (s.1 198 2), .ref 197] rfl rfl rfl rfl rfl (Zt.imp h (fun v1 s2 h => ?_))
    obtain ⟨x3, rfl, h⟩ := h
    change Zn _ _ _ _ _ _ _ _ _ _ _ [.int x3, .int (s.1 198 2), .ref 197] _ _
    replace h := h _ (i_add (x := s.1 198 2) (y := x3) rfl rfl)
    refine zn_c [.int ((s.1 198 2) + x3), .ref 197] xo_iadd rfl rfl ?_
    refine zn_ld rfl rfl rfl ?_
    refine zn_zt [.ref 197] [.int ((s.1 198 2) + x3), .ref 197] rfl rfl rfl rfl rfl (Zt.imp h (fun v5 s6 h => ?_))
    obtain ⟨x7, rfl, h⟩ := h
    change Zn _ _ _ _ _ _ _ _ _ _ _ [.int x7, .int ((s.1 198 2) + x3), .ref 197] _ _
    replace h := h _ (i_add (x := ((s.1 198 2) + x3)) (y := x7) rfl rfl)
    refine zn_c [.int (((s.1 198 2) + x3) + x7), .ref 197] xo_iadd rfl rfl ?_
    refine zn_c [.int 150, .int (((s.1 198 2) + x3) + x7), .ref 197] (xo_push (.int 150)) rfl rfl ?_
    refine zn_brP rfl rfl ⟨fun hcn => ?_, fun hcn => ?_⟩
    · replace h := h.1 ((i_le (x := (((s.1 198 2) + x3) + x7)) (y := 150) rfl (show (150 : Int32).toInt = 150 by decide)).mp hcn)
      refine zn_c [.int 0, .ref 197] (xo_push (.int 0)) rfl rfl ?_
      exact m_104_18_39 hd  h
    · replace h := h.2 (fun q => hcn ((i_le (x := (((s.1 198 2) + x3) + x7)) (y := 150) rfl (show (150 : Int32).toInt = 150 by decide)).mpr q))
      exact m_104_15_39 hd  h
theorem zq_104_39 {d : Nat}  {s : zS} {Q : Option Value → zS → Prop} (h : v_104_0 (fun j => Zt (d + 8) (wd2 39 j) j) 39  s Q) : Zt (d + 9) ([(197, 5, 39), (197, 6, 57), (75, 0, 39), (75, 1, 57), (75, 2, 61)] : zW) 104 [.ref 197] s Q := zt_of (E := xE_104) (L := xL_8) (ml := 1) (ret := none) rfl rfl rfl (m_104_0_39 rfl h)
theorem zc_104 {d P : Nat} (hP : P = 3 ∨ P = 39)  {s : zS} {Q : Option Value → zS → Prop} (h : v_104_0 (fun j => Zt (d + 8) (wd2 P j) j) P  s Q) : Zt (d + 9) (wd2 P 104) 104 [.ref 197] s Q := by
  rcases hP with rfl | rfl
  · exact zq_104_3 h
  · exact zq_104_39 h
/-! FeatherBench$Stock.copy -/
def v_107_5 (T : Nat → List Value → zS → (Option Value → zS → Prop) → Prop) (P : Nat) (R5 : Int32 → Int32 → Int32 → Int32 → zS → Prop) (a1 : Int32) (a2 : Int32) (a3 : Int32) (a4 : Int32) (s : zS) (Q : Option Value → zS → Prop) : Prop :=
  (a2.toInt ≤ a4.toInt → ∀ x1 : Int32, (-2147483648 ≤ a3.toInt + a2.toInt ∧ a3.toInt + a2.toInt ≤ 2147483647 → x1.toInt = a3.toInt + a2.toInt) → ∀ s2, s2 = zf s 197 7 x1 → Q (some (.int a3)) s2) ∧ (¬ (a2.toInt ≤ a4.toInt) → ∀ x3 : Int32, (-2147483648 ≤ a3.toInt + a4.toInt ∧ a3.toInt + a4.toInt ≤ 2147483647 → x3.toInt = a3.toInt + a4.toInt) → ∀ x4 : Int32, (-2147483648 ≤ a1.toInt + a4.toInt ∧ a1.toInt + a4.toInt ≤ 2147483647 → x4.toInt = a1.toInt + a4.toInt) → (x3.toInt < 0 ∨ 18 ≤ x3.toInt) ∧ (∀ s5, s5 = zt s (P + 18) x3 (zg s (P + 18) x4) → ∀ x6 : Int32, (-2147483648 ≤ a4.toInt + 1 ∧ a4.toInt + 1 ≤ 2147483647 → x6.toInt = a4.toInt + 1) → R5 a1 a2 a3 x6 s5))
def vl_107_5 (T : Nat → List Value → zS → (Option Value → zS → Prop) → Prop) (P : Nat)  (a1 : Int32) (a2 : Int32) (a3 : Int32) (a4 : Int32) (s : zS) (Q : Option Value → zS → Prop) : Prop :=
  ∃ (I : Int32 → Int32 → Int32 → Int32 → zS → Prop) (μ : Int32 → Int32 → Int32 → Int32 → zS → Nat), I a1 a2 a3 a4 s ∧ ∀ (a1 : Int32) (a2 : Int32) (a3 : Int32) (a4 : Int32) (s : zS), I a1 a2 a3 a4 s → v_107_5 T P (fun a1' a2' a3' a4' s' => I a1' a2' a3' a4' s' ∧ μ a1' a2' a3' a4' s' < μ a1 a2 a3 a4 s) a1 a2 a3 a4 s Q
def v_107_0 (T : Nat → List Value → zS → (Option Value → zS → Prop) → Prop) (P : Nat)  (a1 : Int32) (a2 : Int32) (s : zS) (Q : Option Value → zS → Prop) : Prop :=
  vl_107_5 T P  a1 a2 (s.1 197 7) 0 s Q
set_option maxRecDepth 20000 in
theorem m_107_5_3 {d d0 : Nat} (hd : d = d0 + 8) {R5 : Int32 → Int32 → Int32 → Int32 → zS → Prop} {a1 : Int32} {a2 : Int32} {a3 : Int32} {a4 : Int32} {s : zS} {Q : Option Value → zS → Prop} (r5 : ∀ a1 a2 a3 a4 s, R5 a1 a2 a3 a4 s → Zn d [] [(3, 98)] ([(197, 5, 3), (197, 6, 21), (75, 0, 3), (75, 1, 21), (75, 2, 25)] : zW) ([(197, 5, 3), (197, 6, 21), (75, 0, 3), (75, 1, 21), (75, 2, 25)] : zW) xL_8 5 (some .int) xE_107 (xE_107.drop 5) [.ref 197, .int a1, .int a2, .int a3, .int a4, .null, .null, .null] [] s Q) (h : v_107_5 (fun j => Zt d (wd2 3 j) j) 3 R5 a1 a2 a3 a4 s Q) : Zn d [] [(3, 98)] ([(197, 5, 3), (197, 6, 21), (75, 0, 3), (75, 1, 21), (75, 2, 25)] : zW) ([(197, 5, 3), (197, 6, 21), (75, 0, 3), (75, 1, 21), (75, 2, 25)] : zW) xL_8 5 (some .int) xE_107 (xE_107.drop 5) [.ref 197, .int a1, .int a2, .int a3, .int a4, .null, .null, .null] [] s Q := by
  unfold v_107_5 at h
  refine zn_ld rfl rfl rfl ?_
  refine zn_ld rfl rfl rfl ?_
  refine zn_brP rfl rfl ⟨fun hcn => ?_, fun hcn => ?_⟩
  · replace h := h.1 ((i_le (x := a2) (y := a4) rfl rfl).mp hcn)
    refine zn_ld rfl rfl rfl ?_
    refine zn_ld rfl rfl rfl ?_
    refine zn_ld rfl rfl rfl ?_
    replace h := h _ (i_add (x := a3) (y := a2) rfl rfl)
    refine zn_c [.int (a3 + a2), .ref 197] xo_iadd rfl rfl ?_
    refine zn_putI (a := 197) rfl rfl rfl rfl ⟨Int32.le_toInt _, Int.le_of_lt_add_one (Int32.toInt_lt _)⟩ rfl rfl rfl ?_
    replace h := h _ rfl
    refine zn_ld rfl rfl rfl ?_
    exact zn_retI rfl h
  · replace h := h.2 (fun q => hcn ((i_le (x := a2) (y := a4) rfl rfl).mpr q))
    refine zn_ld rfl rfl rfl ?_
    refine zn_get (v := .ref 21) rfl (zv_C (a := 197) (n := 1) rfl rfl rfl) ?_
    refine zn_ld rfl rfl rfl ?_
    refine zn_ld rfl rfl rfl ?_
    replace h := h _ (i_add (x := a3) (y := a4) rfl rfl)
    refine zn_c [.int (a3 + a4), .ref 21] xo_iadd rfl rfl ?_
    refine zn_ld rfl rfl rfl ?_
    refine zn_get (v := .ref 21) rfl (zv_C (a := 197) (n := 1) rfl rfl rfl) ?_
    refine zn_ld rfl rfl rfl ?_
    refine zn_ld rfl rfl rfl ?_
    replace h := h _ (i_add (x := a1) (y := a4) rfl rfl)
    refine zn_c [.int (a1 + a4), .ref 21, .int (a3 + a4), .ref 21] xo_iadd rfl rfl ?_
    refine zn_row (a1 + a4) [.int (a3 + a4), .ref 21] (a := 21) hd rfl rfl rfl rfl ?_
    change Zn _ _ _ _ _ _ _ _ _ _ _ [.int (zg s 21 (a1 + a4)), .int (a3 + a4), .ref 21] _ _
    obtain ⟨hx18, h⟩ := h
    refine zn_set (a3 + a4) (zg s 21 (a1 + a4)) [] (a := 21) hd rfl rfl rfl rfl ⟨Int32.le_toInt _, Int.le_of_lt_add_one (Int32.toInt_lt _)⟩ rfl rfl ?_ (hx := Or.inr hx18)
    replace h := h _ rfl
    replace h := h _ (i_add (x := a4) (y := 1) rfl (show (1 : Int32).toInt = 1 by decide))
    refine zn_inc [.ref 197, .int a1, .int a2, .int a3, .int (a4 + 1), .null, .null, .null] rfl rfl rfl rfl ?_
    refine zn_go rfl ?_
    exact r5 a1 a2 a3 (a4 + 1) (zt s 21 (a3 + a4) (zg s 21 (a1 + a4))) h
theorem ml_107_5_3 {d d0 : Nat} (hd : d = d0 + 8)  {a1 : Int32} {a2 : Int32} {a3 : Int32} {a4 : Int32} {s : zS} {Q : Option Value → zS → Prop}  (h : vl_107_5 (fun j => Zt d (wd2 3 j) j) 3  a1 a2 a3 a4 s Q) : Zn d [] [(3, 98)] ([(197, 5, 3), (197, 6, 21), (75, 0, 3), (75, 1, 21), (75, 2, 25)] : zW) ([(197, 5, 3), (197, 6, 21), (75, 0, 3), (75, 1, 21), (75, 2, 25)] : zW) xL_8 5 (some .int) xE_107 (xE_107.drop 5) [.ref 197, .int a1, .int a2, .int a3, .int a4, .null, .null, .null] [] s Q := by
  obtain ⟨I, μ, h0, h1⟩ := h
  have key : ∀ (n : Nat) (a1 : Int32) (a2 : Int32) (a3 : Int32) (a4 : Int32) (s : zS), μ a1 a2 a3 a4 s = n → I a1 a2 a3 a4 s → Zn d [] [(3, 98)] ([(197, 5, 3), (197, 6, 21), (75, 0, 3), (75, 1, 21), (75, 2, 25)] : zW) ([(197, 5, 3), (197, 6, 21), (75, 0, 3), (75, 1, 21), (75, 2, 25)] : zW) xL_8 5 (some .int) xE_107 (xE_107.drop 5) [.ref 197, .int a1, .int a2, .int a3, .int a4, .null, .null, .null] [] s Q := by
    intro n
    induction n using Nat.strongRecOn with
    | ind n ih =>
      intro a1 a2 a3 a4 s e hI
      exact m_107_5_3 hd (fun a1' a2' a3' a4' s' q => ih _ (by rw [← e]; exact q.2) a1' a2' a3' a4' s' rfl q.1) (h1 a1 a2 a3 a4 s hI)
  exact key _ a1 a2 a3 a4 s rfl h0
set_option maxRecDepth 20000 in
theorem m_107_0_3 {d d0 : Nat} (hd : d = d0 + 8)  {a1 : Int32} {a2 : Int32} {s : zS} {Q : Option Value → zS → Prop}  (h : v_107_0 (fun j => Zt d (wd2 3 j) j) 3  a1 a2 s Q) : Zn d [] [(3, 98)] ([(197, 5, 3), (197, 6, 21), (75, 0, 3), (75, 1, 21), (75, 2, 25)] : zW) ([(197, 5, 3), (197, 6, 21), (75, 0, 3), (75, 1, 21), (75, 2, 25)] : zW) xL_8 5 (some .int) xE_107 (xE_107.drop 0) [.ref 197, .int a1, .int a2, .null, .null, .null, .null, .null] [] s Q := by
  unfold v_107_0 at h
  refine zn_ld rfl rfl rfl ?_
  refine zn_get (v := .int (s.1 197 7)) rfl (zv_I (a := 197) rfl rfl) ?_
  refine zn_st [.ref 197, .int a1, .int a2, .int (s.1 197 7), .null, .null, .null, .null] rfl rfl rfl ?_
  refine zn_c [.int 0] (xo_push (.int 0)) rfl rfl ?_
  refine zn_st [.ref 197, .int a1, .int a2, .int (s.1 197 7), .int 0, .null, .null, .null] rfl rfl rfl ?_
  exact ml_107_5_3 hd  h
theorem zq_107_3 {d : Nat} {a1 : Int32} {a2 : Int32} {s : zS} {Q : Option Value → zS → Prop} (h : v_107_0 (fun j => Zt (d + 8) (wd2 3 j) j) 3 a1 a2 s Q) : Zt (d + 9) ([(197, 5, 3), (197, 6, 21), (75, 0, 3), (75, 1, 21), (75, 2, 25)] : zW) 107 [.ref 197, .int a1, .int a2] s Q := zt_of (E := xE_107) (L := xL_8) (ml := 5) (ret := some .int) rfl rfl rfl (m_107_0_3 rfl h)
set_option maxRecDepth 20000 in
theorem m_107_5_39 {d d0 : Nat} (hd : d = d0 + 8) {R5 : Int32 → Int32 → Int32 → Int32 → zS → Prop} {a1 : Int32} {a2 : Int32} {a3 : Int32} {a4 : Int32} {s : zS} {Q : Option Value → zS → Prop} (r5 : ∀ a1 a2 a3 a4 s, R5 a1 a2 a3 a4 s → Zn d [] [(39, 98)] ([(197, 5, 39), (197, 6, 57), (75, 0, 39), (75, 1, 57), (75, 2, 61)] : zW) ([(197, 5, 39), (197, 6, 57), (75, 0, 39), (75, 1, 57), (75, 2, 61)] : zW) xL_8 5 (some .int) xE_107 (xE_107.drop 5) [.ref 197, .int a1, .int a2, .int a3, .int a4, .null, .null, .null] [] s Q) (h : v_107_5 (fun j => Zt d (wd2 39 j) j) 39 R5 a1 a2 a3 a4 s Q) : Zn d [] [(39, 98)] ([(197, 5, 39), (197, 6, 57), (75, 0, 39), (75, 1, 57), (75, 2, 61)] : zW) ([(197, 5, 39), (197, 6, 57), (75, 0, 39), (75, 1, 57), (75, 2, 61)] : zW) xL_8 5 (some .int) xE_107 (xE_107.drop 5) [.ref 197, .int a1, .int a2, .int a3, .int a4, .null, .null, .null] [] s Q := by
  unfold v_107_5 at h
  refine zn_ld rfl rfl rfl ?_
  refine zn_ld rfl rfl rfl ?_
  refine zn_brP rfl rfl ⟨fun hcn => ?_, fun hcn => ?_⟩
  · replace h := h.1 ((i_le (x := a2) (y := a4) rfl rfl).mp hcn)
    refine zn_ld rfl rfl rfl ?_
    refine zn_ld rfl rfl rfl ?_
    refine zn_ld rfl rfl rfl ?_
    replace h := h _ (i_add (x := a3) (y := a2) rfl rfl)
    refine zn_c [.int (a3 + a2), .ref 197] xo_iadd rfl rfl ?_
    refine zn_putI (a := 197) rfl rfl rfl rfl ⟨Int32.le_toInt _, Int.le_of_lt_add_one (Int32.toInt_lt _)⟩ rfl rfl rfl ?_
    replace h := h _ rfl
    refine zn_ld rfl rfl rfl ?_
    exact zn_retI rfl h
  · replace h := h.2 (fun q => hcn ((i_le (x := a2) (y := a4) rfl rfl).mpr q))
    refine zn_ld rfl rfl rfl ?_
    refine zn_get (v := .ref 57) rfl (zv_C (a := 197) (n := 1) rfl rfl rfl) ?_
    refine zn_ld rfl rfl rfl ?_
    refine zn_ld rfl rfl rfl ?_
    replace h := h _ (i_add (x := a3) (y := a4) rfl rfl)
    refine zn_c [.int (a3 + a4), .ref 57] xo_iadd rfl rfl ?_
    refine zn_ld rfl rfl rfl ?_
    refine zn_get (v := .ref 57) rfl (zv_C (a := 197) (n := 1) rfl rfl rfl) ?_
    refine zn_ld rfl rfl rfl ?_
    refine zn_ld rfl rfl rfl ?_
    replace h := h _ (i_add (x := a1) (y := a4) rfl rfl)
    refine zn_c [.int (a1 + a4), .ref 57, .int (a3 + a4), .ref 57] xo_iadd rfl rfl ?_
    refine zn_row (a1 + a4) [.int (a3 + a4), .ref 57] (a := 57) hd rfl rfl rfl rfl ?_
    change Zn _ _ _ _ _ _ _ _ _ _ _ [.int (zg s 57 (a1 + a4)), .int (a3 + a4), .ref 57] _ _
    obtain ⟨hx18, h⟩ := h
    refine zn_set (a3 + a4) (zg s 57 (a1 + a4)) [] (a := 57) hd rfl rfl rfl rfl ⟨Int32.le_toInt _, Int.le_of_lt_add_one (Int32.toInt_lt _)⟩ rfl rfl ?_ (hx := Or.inr hx18)
    replace h := h _ rfl
    replace h := h _ (i_add (x := a4) (y := 1) rfl (show (1 : Int32).toInt = 1 by decide))
    refine zn_inc [.ref 197, .int a1, .int a2, .int a3, .int (a4 + 1), .null, .null, .null] rfl rfl rfl rfl ?_
    refine zn_go rfl ?_
    exact r5 a1 a2 a3 (a4 + 1) (zt s 57 (a3 + a4) (zg s 57 (a1 + a4))) h
theorem ml_107_5_39 {d d0 : Nat} (hd : d = d0 + 8)  {a1 : Int32} {a2 : Int32} {a3 : Int32} {a4 : Int32} {s : zS} {Q : Option Value → zS → Prop}  (h : vl_107_5 (fun j => Zt d (wd2 39 j) j) 39  a1 a2 a3 a4 s Q) : Zn d [] [(39, 98)] ([(197, 5, 39), (197, 6, 57), (75, 0, 39), (75, 1, 57), (75, 2, 61)] : zW) ([(197, 5, 39), (197, 6, 57), (75, 0, 39), (75, 1, 57), (75, 2, 61)] : zW) xL_8 5 (some .int) xE_107 (xE_107.drop 5) [.ref 197, .int a1, .int a2, .int a3, .int a4, .null, .null, .null] [] s Q := by
  obtain ⟨I, μ, h0, h1⟩ := h
  have key : ∀ (n : Nat) (a1 : Int32) (a2 : Int32) (a3 : Int32) (a4 : Int32) (s : zS), μ a1 a2 a3 a4 s = n → I a1 a2 a3 a4 s → Zn d [] [(39, 98)] ([(197, 5, 39), (197, 6, 57), (75, 0, 39), (75, 1, 57), (75, 2, 61)] : zW) ([(197, 5, 39), (197, 6, 57), (75, 0, 39), (75, 1, 57), (75, 2, 61)] : zW) xL_8 5 (some .int) xE_107 (xE_107.drop 5) [.ref 197, .int a1, .int a2, .int a3, .int a4, .null, .null, .null] [] s Q := by
    intro n
    induction n using Nat.strongRecOn with
    | ind n ih =>
      intro a1 a2 a3 a4 s e hI
      exact m_107_5_39 hd (fun a1' a2' a3' a4' s' q => ih _ (by rw [← e]; exact q.2) a1' a2' a3' a4' s' rfl q.1) (h1 a1 a2 a3 a4 s hI)
  exact key _ a1 a2 a3 a4 s rfl h0
set_option maxRecDepth 20000 in
theorem m_107_0_39 {d d0 : Nat} (hd : d = d0 + 8)  {a1 : Int32} {a2 : Int32} {s : zS} {Q : Option Value → zS → Prop}  (h : v_107_0 (fun j => Zt d (wd2 39 j) j) 39  a1 a2 s Q) : Zn d [] [(39, 98)] ([(197, 5, 39), (197, 6, 57), (75, 0, 39), (75, 1, 57), (75, 2, 61)] : zW) ([(197, 5, 39), (197, 6, 57), (75, 0, 39), (75, 1, 57), (75, 2, 61)] : zW) xL_8 5 (some .int) xE_107 (xE_107.drop 0) [.ref 197, .int a1, .int a2, .null, .null, .null, .null, .null] [] s Q := by
  unfold v_107_0 at h
  refine zn_ld rfl rfl rfl ?_
  refine zn_get (v := .int (s.1 197 7)) rfl (zv_I (a := 197) rfl rfl) ?_
  refine zn_st [.ref 197, .int a1, .int a2, .int (s.1 197 7), .null, .null, .null, .null] rfl rfl rfl ?_
  refine zn_c [.int 0] (xo_push (.int 0)) rfl rfl ?_
  refine zn_st [.ref 197, .int a1, .int a2, .int (s.1 197 7), .int 0, .null, .null, .null] rfl rfl rfl ?_
  exact ml_107_5_39 hd  h
theorem zq_107_39 {d : Nat} {a1 : Int32} {a2 : Int32} {s : zS} {Q : Option Value → zS → Prop} (h : v_107_0 (fun j => Zt (d + 8) (wd2 39 j) j) 39 a1 a2 s Q) : Zt (d + 9) ([(197, 5, 39), (197, 6, 57), (75, 0, 39), (75, 1, 57), (75, 2, 61)] : zW) 107 [.ref 197, .int a1, .int a2] s Q := zt_of (E := xE_107) (L := xL_8) (ml := 5) (ret := some .int) rfl rfl rfl (m_107_0_39 rfl h)
theorem zc_107 {d P : Nat} (hP : P = 3 ∨ P = 39) {a1 : Int32} {a2 : Int32} {s : zS} {Q : Option Value → zS → Prop} (h : v_107_0 (fun j => Zt (d + 8) (wd2 P j) j) P a1 a2 s Q) : Zt (d + 9) (wd2 P 107) 107 [.ref 197, .int a1, .int a2] s Q := by
  rcases hP with rfl | rfl
  · exact zq_107_3 h
  · exact zq_107_39 h
/-! FeatherBench$Stock.holds -/
def v_103_66 (T : Nat → List Value → zS → (Option Value → zS → Prop) → Prop) (P : Nat) (e : Nat) (R11 : Int32 → Int32 → Int32 → zS → Prop) (a2 : Int32) (a3 : Int32) (a4 : Int32) (a5 : Int32) (a6 : Int32) (a7 : Int32) (s : zS) (Q : Option Value → zS → Prop) : Prop :=
  (a6.toInt = 0 → ∀ x1 : Int32, (-2147483648 ≤ a4.toInt + 1 ∧ a4.toInt + 1 ≤ 2147483647 → x1.toInt = a4.toInt + 1) → R11 a2 a3 x1 s) ∧ (¬ (a6.toInt = 0) → Q (some (.int 1)) s)
def v_103_63 (T : Nat → List Value → zS → (Option Value → zS → Prop) → Prop) (P : Nat) (e : Nat) (R11 : Int32 → Int32 → Int32 → zS → Prop) (R45 : Int32 → Int32 → Int32 → Int32 → Int32 → Int32 → zS → Prop) (a2 : Int32) (a3 : Int32) (a4 : Int32) (a5 : Int32) (a6 : Int32) (a7 : Int32) (t0 : Int32) (s : zS) (Q : Option Value → zS → Prop) : Prop :=
  ∀ x1 : Int32, (-2147483648 ≤ a7.toInt + 1 ∧ a7.toInt + 1 ≤ 2147483647 → x1.toInt = a7.toInt + 1) → R45 a2 a3 a4 a5 t0 x1 s
def v_103_45 (T : Nat → List Value → zS → (Option Value → zS → Prop) → Prop) (P : Nat) (e : Nat) (R11 : Int32 → Int32 → Int32 → zS → Prop) (R45 : Int32 → Int32 → Int32 → Int32 → Int32 → Int32 → zS → Prop) (a2 : Int32) (a3 : Int32) (a4 : Int32) (a5 : Int32) (a6 : Int32) (a7 : Int32) (s : zS) (Q : Option Value → zS → Prop) : Prop :=
  (a6.toInt = 0 → v_103_66 T P e R11 a2 a3 a4 a5 a6 a7 s Q) ∧ (¬ (a6.toInt = 0) → (9 ≤ a7.toInt → v_103_66 T P e R11 a2 a3 a4 a5 a6 a7 s Q) ∧ (¬ (9 ≤ a7.toInt) → ∀ x1 : Int32, (-2147483648 ≤ a5.toInt + a7.toInt ∧ a5.toInt + a7.toInt ≤ 2147483647 → x1.toInt = a5.toInt + a7.toInt) → (¬ ((zg s e x1).toInt = (zg s 204 a7).toInt) → v_103_63 T P e R11 R45 a2 a3 a4 a5 a6 a7 0 s Q) ∧ ((zg s e x1).toInt = (zg s 204 a7).toInt → v_103_63 T P e R11 R45 a2 a3 a4 a5 a6 a7 1 s Q)))
def vl_103_45 (T : Nat → List Value → zS → (Option Value → zS → Prop) → Prop) (P : Nat) (e : Nat) (R11 : Int32 → Int32 → Int32 → zS → Prop) (a2 : Int32) (a3 : Int32) (a4 : Int32) (a5 : Int32) (a6 : Int32) (a7 : Int32) (s : zS) (Q : Option Value → zS → Prop) : Prop :=
  ∃ (I : Int32 → Int32 → Int32 → Int32 → Int32 → Int32 → zS → Prop) (μ : Int32 → Int32 → Int32 → Int32 → Int32 → Int32 → zS → Nat), I a2 a3 a4 a5 a6 a7 s ∧ ∀ (a2 : Int32) (a3 : Int32) (a4 : Int32) (a5 : Int32) (a6 : Int32) (a7 : Int32) (s : zS), I a2 a3 a4 a5 a6 a7 s → v_103_45 T P e R11 (fun a2' a3' a4' a5' a6' a7' s' => I a2' a3' a4' a5' a6' a7' s' ∧ μ a2' a3' a4' a5' a6' a7' s' < μ a2 a3 a4 a5 a6 a7 s) a2 a3 a4 a5 a6 a7 s Q
def v_103_42 (T : Nat → List Value → zS → (Option Value → zS → Prop) → Prop) (P : Nat) (e : Nat) (R11 : Int32 → Int32 → Int32 → zS → Prop) (a2 : Int32) (a3 : Int32) (a4 : Int32) (a5 : Int32) (t0 : Int32) (s : zS) (Q : Option Value → zS → Prop) : Prop :=
  vl_103_45 T P e R11 a2 a3 a4 a5 t0 2 s Q
def v_103_41 (T : Nat → List Value → zS → (Option Value → zS → Prop) → Prop) (P : Nat) (e : Nat) (R11 : Int32 → Int32 → Int32 → zS → Prop) (a2 : Int32) (a3 : Int32) (a4 : Int32) (a5 : Int32) (s : zS) (Q : Option Value → zS → Prop) : Prop :=
  v_103_42 T P e R11 a2 a3 a4 a5 0 s Q
def v_103_11 (T : Nat → List Value → zS → (Option Value → zS → Prop) → Prop) (P : Nat) (e : Nat) (R11 : Int32 → Int32 → Int32 → zS → Prop) (a2 : Int32) (a3 : Int32) (a4 : Int32) (s : zS) (Q : Option Value → zS → Prop) : Prop :=
  (a3.toInt ≤ a4.toInt → Q (some (.int 0)) s) ∧ (¬ (a3.toInt ≤ a4.toInt) → ∀ x1 : Int32, (-2147483648 ≤ a4.toInt * a2.toInt ∧ a4.toInt * a2.toInt ≤ 2147483647 → x1.toInt = a4.toInt * a2.toInt) → ∀ x2 : Int32, (-2147483648 ≤ x1.toInt + 1 ∧ x1.toInt + 1 ≤ 2147483647 → x2.toInt = x1.toInt + 1) → (¬ ((zg s e x2).toInt = (zg s 204 1).toInt) → v_103_41 T P e R11 a2 a3 a4 x1 s Q) ∧ ((zg s e x2).toInt = (zg s 204 1).toInt → T 84 [.ref 75, .int (zg s e x1), .int (zg s 204 0)] s (fun v3 s4 => ∃ x5, v3 = some (.int x5) ∧ ((x5.toInt = 0 → v_103_41 T P e R11 a2 a3 a4 x1 s4 Q) ∧ (¬ (x5.toInt = 0) → v_103_42 T P e R11 a2 a3 a4 x1 1 s4 Q)))))
def vl_103_11 (T : Nat → List Value → zS → (Option Value → zS → Prop) → Prop) (P : Nat) (e : Nat)  (a2 : Int32) (a3 : Int32) (a4 : Int32) (s : zS) (Q : Option Value → zS → Prop) : Prop :=
  ∃ (I : Int32 → Int32 → Int32 → zS → Prop) (μ : Int32 → Int32 → Int32 → zS → Nat), I a2 a3 a4 s ∧ ∀ (a2 : Int32) (a3 : Int32) (a4 : Int32) (s : zS), I a2 a3 a4 s → v_103_11 T P e (fun a2' a3' a4' s' => I a2' a3' a4' s' ∧ μ a2' a3' a4' s' < μ a2 a3 a4 s) a2 a3 a4 s Q
def v_103_8 (T : Nat → List Value → zS → (Option Value → zS → Prop) → Prop) (P : Nat) (e : Nat)  (a2 : Int32) (t0 : Int32) (s : zS) (Q : Option Value → zS → Prop) : Prop :=
  vl_103_11 T P e  a2 t0 0 s Q
def v_103_0 (T : Nat → List Value → zS → (Option Value → zS → Prop) → Prop) (P : Nat) (e : Nat)  (a2 : Int32) (s : zS) (Q : Option Value → zS → Prop) : Prop :=
  (a2.toInt ≤ 0 → v_103_8 T P e  a2 0 s Q) ∧ (¬ (a2.toInt ≤ 0) → (¬ (a2.toInt = 0)) ∧ (∀ x1 : Int32, v_103_8 T P e  a2 x1 s Q))
set_option maxRecDepth 20000 in
theorem m_103_66_3e200 {d d0 : Nat} (hd : d = d0 + 8) {R11 : Int32 → Int32 → Int32 → zS → Prop} {a2 : Int32} {a3 : Int32} {a4 : Int32} {a5 : Int32} {a6 : Int32} {a7 : Int32} {s : zS} {Q : Option Value → zS → Prop} (r11 : ∀ a2 a3 a4 s, R11 a2 a3 a4 s → Zn d [] [] ([(197, 5, 3), (197, 6, 21), (75, 0, 3), (75, 1, 21), (75, 2, 25)] : zW) ([(197, 5, 3), (197, 6, 21), (75, 0, 3), (75, 1, 21), (75, 2, 25)] : zW) xL_8 8 (some .boolean) xE_103 (xE_103.drop 11) [.ref 197, .ref 200, .int a2, .int a3, .int a4, .null, .null, .null, .null, .null, .null] [] s Q) (h : v_103_66 (fun j => Zt d (wd2 3 j) j) 3 200 R11 a2 a3 a4 a5 a6 a7 s Q) : Zn d [] [] ([(197, 5, 3), (197, 6, 21), (75, 0, 3), (75, 1, 21), (75, 2, 25)] : zW) ([(197, 5, 3), (197, 6, 21), (75, 0, 3), (75, 1, 21), (75, 2, 25)] : zW) xL_8 8 (some .boolean) xE_103 (xE_103.drop 66) [.ref 197, .ref 200, .int a2, .int a3, .int a4, .int a5, .int a6, .int a7, .null, .null, .null] [] s Q := by
  unfold v_103_66 at h
  refine zn_ld rfl rfl rfl ?_
  refine zn_brP rfl rfl ⟨fun hcn => ?_, fun hcn => ?_⟩
  · replace h := h.1 ((i_eq (x := a6) (y := 0) rfl (show (0 : Int32).toInt = 0 by decide)).mp hcn)
    replace h := h _ (i_add (x := a4) (y := 1) rfl (show (1 : Int32).toInt = 1 by decide))
    refine zn_inc [.ref 197, .ref 200, .int a2, .int a3, .int (a4 + 1), .int a5, .int a6, .int a7, .null, .null, .null] rfl rfl rfl rfl ?_
    refine zn_go rfl ?_
    refine zn_fg 5 ?_
    refine zn_fg 6 ?_
    refine zn_fg 7 ?_
    exact r11 a2 a3 (a4 + 1) s h
  · replace h := h.2 (fun q => hcn ((i_eq (x := a6) (y := 0) rfl (show (0 : Int32).toInt = 0 by decide)).mpr q))
    refine zn_c [.int 1] (xo_push (.int 1)) rfl rfl ?_
    exact zn_retZ rfl rfl h
set_option maxRecDepth 20000 in
theorem m_103_63_3e200 {d d0 : Nat} (hd : d = d0 + 8) {R11 : Int32 → Int32 → Int32 → zS → Prop} {R45 : Int32 → Int32 → Int32 → Int32 → Int32 → Int32 → zS → Prop} {a2 : Int32} {a3 : Int32} {a4 : Int32} {a5 : Int32} {a6 : Int32} {a7 : Int32} {t0 : Int32} {s : zS} {Q : Option Value → zS → Prop} (r11 : ∀ a2 a3 a4 s, R11 a2 a3 a4 s → Zn d [] [] ([(197, 5, 3), (197, 6, 21), (75, 0, 3), (75, 1, 21), (75, 2, 25)] : zW) ([(197, 5, 3), (197, 6, 21), (75, 0, 3), (75, 1, 21), (75, 2, 25)] : zW) xL_8 8 (some .boolean) xE_103 (xE_103.drop 11) [.ref 197, .ref 200, .int a2, .int a3, .int a4, .null, .null, .null, .null, .null, .null] [] s Q) (r45 : ∀ a2 a3 a4 a5 a6 a7 s, R45 a2 a3 a4 a5 a6 a7 s → Zn d [] [] ([(197, 5, 3), (197, 6, 21), (75, 0, 3), (75, 1, 21), (75, 2, 25)] : zW) ([(197, 5, 3), (197, 6, 21), (75, 0, 3), (75, 1, 21), (75, 2, 25)] : zW) xL_8 8 (some .boolean) xE_103 (xE_103.drop 45) [.ref 197, .ref 200, .int a2, .int a3, .int a4, .int a5, .int a6, .int a7, .null, .null, .null] [] s Q) (h : v_103_63 (fun j => Zt d (wd2 3 j) j) 3 200 R11 R45 a2 a3 a4 a5 a6 a7 t0 s Q) : Zn d [] [] ([(197, 5, 3), (197, 6, 21), (75, 0, 3), (75, 1, 21), (75, 2, 25)] : zW) ([(197, 5, 3), (197, 6, 21), (75, 0, 3), (75, 1, 21), (75, 2, 25)] : zW) xL_8 8 (some .boolean) xE_103 (xE_103.drop 63) [.ref 197, .ref 200, .int a2, .int a3, .int a4, .int a5, .int a6, .int a7, .null, .null, .null] [.int t0] s Q := by
  unfold v_103_63 at h
  refine zn_st [.ref 197, .ref 200, .int a2, .int a3, .int a4, .int a5, .int t0, .int a7, .null, .null, .null] rfl rfl rfl ?_
  replace h := h _ (i_add (x := a7) (y := 1) rfl (show (1 : Int32).toInt = 1 by decide))
  refine zn_inc [.ref 197, .ref 200, .int a2, .int a3, .int a4, .int a5, .int t0, .int (a7 + 1), .null, .null, .null] rfl rfl rfl rfl ?_
  refine zn_go rfl ?_
  exact r45 a2 a3 a4 a5 t0 (a7 + 1) s h
set_option maxRecDepth 20000 in
theorem m_103_45_3e200 {d d0 : Nat} (hd : d = d0 + 8) {R11 : Int32 → Int32 → Int32 → zS → Prop} {R45 : Int32 → Int32 → Int32 → Int32 → Int32 → Int32 → zS → Prop} {a2 : Int32} {a3 : Int32} {a4 : Int32} {a5 : Int32} {a6 : Int32} {a7 : Int32} {s : zS} {Q : Option Value → zS → Prop} (r11 : ∀ a2 a3 a4 s, R11 a2 a3 a4 s → Zn d [] [] ([(197, 5, 3), (197, 6, 21), (75, 0, 3), (75, 1, 21), (75, 2, 25)] : zW) ([(197, 5, 3), (197, 6, 21), (75, 0, 3), (75, 1, 21), (75, 2, 25)] : zW) xL_8 8 (some .boolean) xE_103 (xE_103.drop 11) [.ref 197, .ref 200, .int a2, .int a3, .int a4, .null, .null, .null, .null, .null, .null] [] s Q) (r45 : ∀ a2 a3 a4 a5 a6 a7 s, R45 a2 a3 a4 a5 a6 a7 s → Zn d [] [] ([(197, 5, 3), (197, 6, 21), (75, 0, 3), (75, 1, 21), (75, 2, 25)] : zW) ([(197, 5, 3), (197, 6, 21), (75, 0, 3), (75, 1, 21), (75, 2, 25)] : zW) xL_8 8 (some .boolean) xE_103 (xE_103.drop 45) [.ref 197, .ref 200, .int a2, .int a3, .int a4, .int a5, .int a6, .int a7, .null, .null, .null] [] s Q) (h : v_103_45 (fun j => Zt d (wd2 3 j) j) 3 200 R11 R45 a2 a3 a4 a5 a6 a7 s Q) : Zn d [] [] ([(197, 5, 3), (197, 6, 21), (75, 0, 3), (75, 1, 21), (75, 2, 25)] : zW) ([(197, 5, 3), (197, 6, 21), (75, 0, 3), (75, 1, 21), (75, 2, 25)] : zW) xL_8 8 (some .boolean) xE_103 (xE_103.drop 45) [.ref 197, .ref 200, .int a2, .int a3, .int a4, .int a5, .int a6, .int a7, .null, .null, .null] [] s Q := by
  unfold v_103_45 at h
  refine zn_ld rfl rfl rfl ?_
  refine zn_brP rfl rfl ⟨fun hcn => ?_, fun hcn => ?_⟩
  · replace h := h.1 ((i_eq (x := a6) (y := 0) rfl (show (0 : Int32).toInt = 0 by decide)).mp hcn)
    exact m_103_66_3e200 hd r11 h
  · replace h := h.2 (fun q => hcn ((i_eq (x := a6) (y := 0) rfl (show (0 : Int32).toInt = 0 by decide)).mpr q))
    refine zn_ld rfl rfl rfl ?_
    refine zn_c [.int 9, .int a7] (xo_push (.int 9)) rfl rfl ?_
    refine zn_brP rfl rfl ⟨fun hcn => ?_, fun hcn => ?_⟩
    · replace h := h.1 ((i_le (x := 9) (y := a7) (show (9 : Int32).toInt = 9 by decide) rfl).mp hcn)
      exact m_103_66_3e200 hd r11 h
    · replace h := h.2 (fun q => hcn ((i_le (x := 9) (y := a7) (show (9 : Int32).toInt = 9 by decide) rfl).mpr q))
      refine zn_ld rfl rfl rfl ?_
      refine zn_ld rfl rfl rfl ?_
      refine zn_ld rfl rfl rfl ?_
      replace h := h _ (i_add (x := a5) (y := a7) rfl rfl)
      refine zn_c [.int (a5 + a7), .ref 200] xo_iadd rfl rfl ?_
      refine zn_row (a5 + a7) [] (a := 200) hd rfl rfl rfl rfl ?_
      change Zn _ _ _ _ _ _ _ _ _ _ _ [.int (zg s 200 (a5 + a7))] _ _
      refine zn_ld rfl rfl rfl ?_
      refine zn_get (v := .ref 204) rfl (zv_R (a := 197) rfl rfl) ?_
      refine zn_ld rfl rfl rfl ?_
      refine zn_row a7 [.int (zg s 200 (a5 + a7))] (a := 204) hd rfl rfl rfl rfl ?_
      change Zn _ _ _ _ _ _ _ _ _ _ _ [.int (zg s 204 a7), .int (zg s 200 (a5 + a7))] _ _
      refine zn_brN rfl rfl ⟨fun hcn => ?_, fun hcn => ?_⟩
      · replace h := h.1 (fun q => hcn ((i_eq (x := zg s 200 (a5 + a7)) (y := zg s 204 a7) rfl rfl).mpr q))
        refine zn_c [.int 0] (xo_push (.int 0)) rfl rfl ?_
        exact m_103_63_3e200 hd r11 r45 h
      · replace h := h.2 ((i_eq (x := zg s 200 (a5 + a7)) (y := zg s 204 a7) rfl rfl).mp hcn)
        refine zn_c [.int 1] (xo_push (.int 1)) rfl rfl ?_
        refine zn_go rfl ?_
        exact m_103_63_3e200 hd r11 r45 h
theorem ml_103_45_3e200 {d d0 : Nat} (hd : d = d0 + 8) {R11 : Int32 → Int32 → Int32 → zS → Prop} {a2 : Int32} {a3 : Int32} {a4 : Int32} {a5 : Int32} {a6 : Int32} {a7 : Int32} {s : zS} {Q : Option Value → zS → Prop} (r11 : ∀ a2 a3 a4 s, R11 a2 a3 a4 s → Zn d [] [] ([(197, 5, 3), (197, 6, 21), (75, 0, 3), (75, 1, 21), (75, 2, 25)] : zW) ([(197, 5, 3), (197, 6, 21), (75, 0, 3), (75, 1, 21), (75, 2, 25)] : zW) xL_8 8 (some .boolean) xE_103 (xE_103.drop 11) [.ref 197, .ref 200, .int a2, .int a3, .int a4, .null, .null, .null, .null, .null, .null] [] s Q) (h : vl_103_45 (fun j => Zt d (wd2 3 j) j) 3 200 R11 a2 a3 a4 a5 a6 a7 s Q) : Zn d [] [] ([(197, 5, 3), (197, 6, 21), (75, 0, 3), (75, 1, 21), (75, 2, 25)] : zW) ([(197, 5, 3), (197, 6, 21), (75, 0, 3), (75, 1, 21), (75, 2, 25)] : zW) xL_8 8 (some .boolean) xE_103 (xE_103.drop 45) [.ref 197, .ref 200, .int a2, .int a3, .int a4, .int a5, .int a6, .int a7, .null, .null, .null] [] s Q := by
  obtain ⟨I, μ, h0, h1⟩ := h
  have key : ∀ (n : Nat) (a2 : Int32) (a3 : Int32) (a4 : Int32) (a5 : Int32) (a6 : Int32) (a7 : Int32) (s : zS), μ a2 a3 a4 a5 a6 a7 s = n → I a2 a3 a4 a5 a6 a7 s → Zn d [] [] ([(197, 5, 3), (197, 6, 21), (75, 0, 3), (75, 1, 21), (75, 2, 25)] : zW) ([(197, 5, 3), (197, 6, 21), (75, 0, 3), (75, 1, 21), (75, 2, 25)] : zW) xL_8 8 (some .boolean) xE_103 (xE_103.drop 45) [.ref 197, .ref 200, .int a2, .int a3, .int a4, .int a5, .int a6, .int a7, .null, .null, .null] [] s Q := by
    intro n
    induction n using Nat.strongRecOn with
    | ind n ih =>
      intro a2 a3 a4 a5 a6 a7 s e hI
      exact m_103_45_3e200 hd r11 (fun a2' a3' a4' a5' a6' a7' s' q => ih _ (by rw [← e]; exact q.2) a2' a3' a4' a5' a6' a7' s' rfl q.1) (h1 a2 a3 a4 a5 a6 a7 s hI)
  exact key _ a2 a3 a4 a5 a6 a7 s rfl h0
set_option maxRecDepth 20000 in
theorem m_103_42_3e200 {d d0 : Nat} (hd : d = d0 + 8) {R11 : Int32 → Int32 → Int32 → zS → Prop} {a2 : Int32} {a3 : Int32} {a4 : Int32} {a5 : Int32} {t0 : Int32} {s : zS} {Q : Option Value → zS → Prop} (r11 : ∀ a2 a3 a4 s, R11 a2 a3 a4 s → Zn d [] [] ([(197, 5, 3), (197, 6, 21), (75, 0, 3), (75, 1, 21), (75, 2, 25)] : zW) ([(197, 5, 3), (197, 6, 21), (75, 0, 3), (75, 1, 21), (75, 2, 25)] : zW) xL_8 8 (some .boolean) xE_103 (xE_103.drop 11) [.ref 197, .ref 200, .int a2, .int a3, .int a4, .null, .null, .null, .null, .null, .null] [] s Q) (h : v_103_42 (fun j => Zt d (wd2 3 j) j) 3 200 R11 a2 a3 a4 a5 t0 s Q) : Zn d [] [] ([(197, 5, 3), (197, 6, 21), (75, 0, 3), (75, 1, 21), (75, 2, 25)] : zW) ([(197, 5, 3), (197, 6, 21), (75, 0, 3), (75, 1, 21), (75, 2, 25)] : zW) xL_8 8 (some .boolean) xE_103 (xE_103.drop 42) [.ref 197, .ref 200, .int a2, .int a3, .int a4, .int a5, .null, .null, .null, .null, .null] [.int t0] s Q := by
  unfold v_103_42 at h
  refine zn_st [.ref 197, .ref 200, .int a2, .int a3, .int a4, .int a5, .int t0, .null, .null, .null, .null] rfl rfl rfl ?_
  refine zn_c [.int 2] (xo_push (.int 2)) rfl rfl ?_
  refine zn_st [.ref 197, .ref 200, .int a2, .int a3, .int a4, .int a5, .int t0, .int 2, .null, .null, .null] rfl rfl rfl ?_
  exact ml_103_45_3e200 hd r11 h
set_option maxRecDepth 20000 in
theorem m_103_41_3e200 {d d0 : Nat} (hd : d = d0 + 8) {R11 : Int32 → Int32 → Int32 → zS → Prop} {a2 : Int32} {a3 : Int32} {a4 : Int32} {a5 : Int32} {s : zS} {Q : Option Value → zS → Prop} (r11 : ∀ a2 a3 a4 s, R11 a2 a3 a4 s → Zn d [] [] ([(197, 5, 3), (197, 6, 21), (75, 0, 3), (75, 1, 21), (75, 2, 25)] : zW) ([(197, 5, 3), (197, 6, 21), (75, 0, 3), (75, 1, 21), (75, 2, 25)] : zW) xL_8 8 (some .boolean) xE_103 (xE_103.drop 11) [.ref 197, .ref 200, .int a2, .int a3, .int a4, .null, .null, .null, .null, .null, .null] [] s Q) (h : v_103_41 (fun j => Zt d (wd2 3 j) j) 3 200 R11 a2 a3 a4 a5 s Q) : Zn d [] [] ([(197, 5, 3), (197, 6, 21), (75, 0, 3), (75, 1, 21), (75, 2, 25)] : zW) ([(197, 5, 3), (197, 6, 21), (75, 0, 3), (75, 1, 21), (75, 2, 25)] : zW) xL_8 8 (some .boolean) xE_103 (xE_103.drop 41) [.ref 197, .ref 200, .int a2, .int a3, .int a4, .int a5, .null, .null, .null, .null, .null] [] s Q := by
  unfold v_103_41 at h
  refine zn_c [.int 0] (xo_push (.int 0)) rfl rfl ?_
  exact m_103_42_3e200 hd r11 h
set_option maxRecDepth 20000 in
theorem m_103_11_3e200 {d d0 : Nat} (hd : d = d0 + 8) {R11 : Int32 → Int32 → Int32 → zS → Prop} {a2 : Int32} {a3 : Int32} {a4 : Int32} {s : zS} {Q : Option Value → zS → Prop} (r11 : ∀ a2 a3 a4 s, R11 a2 a3 a4 s → Zn d [] [] ([(197, 5, 3), (197, 6, 21), (75, 0, 3), (75, 1, 21), (75, 2, 25)] : zW) ([(197, 5, 3), (197, 6, 21), (75, 0, 3), (75, 1, 21), (75, 2, 25)] : zW) xL_8 8 (some .boolean) xE_103 (xE_103.drop 11) [.ref 197, .ref 200, .int a2, .int a3, .int a4, .null, .null, .null, .null, .null, .null] [] s Q) (h : v_103_11 (fun j => Zt d (wd2 3 j) j) 3 200 R11 a2 a3 a4 s Q) : Zn d [] [] ([(197, 5, 3), (197, 6, 21), (75, 0, 3), (75, 1, 21), (75, 2, 25)] : zW) ([(197, 5, 3), (197, 6, 21), (75, 0, 3), (75, 1, 21), (75, 2, 25)] : zW) xL_8 8 (some .boolean) xE_103 (xE_103.drop 11) [.ref 197, .ref 200, .int a2, .int a3, .int a4, .null, .null, .null, .null, .null, .null] [] s Q := by
  unfold v_103_11 at h
  refine zn_ld rfl rfl rfl ?_
  refine zn_ld rfl rfl rfl ?_
  refine zn_brP rfl rfl ⟨fun hcn => ?_, fun hcn => ?_⟩
  · replace h := h.1 ((i_le (x := a3) (y := a4) rfl rfl).mp hcn)
    refine zn_c [.int 0] (xo_push (.int 0)) rfl rfl ?_
    exact zn_retZ rfl rfl h
  · replace h := h.2 (fun q => hcn ((i_le (x := a3) (y := a4) rfl rfl).mpr q))
    refine zn_ld rfl rfl rfl ?_
    refine zn_ld rfl rfl rfl ?_
    replace h := h _ (i_mul (x := a4) (y := a2) rfl rfl)
    refine zn_c [.int (a4 * a2)] xo_imul rfl rfl ?_
    refine zn_st [.ref 197, .ref 200, .int a2, .int a3, .int a4, .int (a4 * a2), .null, .null, .null, .null, .null] rfl rfl rfl ?_
    refine zn_ld rfl rfl rfl ?_
    refine zn_ld rfl rfl rfl ?_
    refine zn_c [.int 1, .int (a4 * a2), .ref 200] (xo_push (.int 1)) rfl rfl ?_
    replace h := h _ (i_add (x := (a4 * a2)) (y := 1) rfl (show (1 : Int32).toInt = 1 by decide))
    refine zn_c [.int ((a4 * a2) + 1), .ref 200] xo_iadd rfl rfl ?_
    refine zn_row ((a4 * a2) + 1) [] (a := 200) hd rfl rfl rfl rfl ?_
    change Zn _ _ _ _ _ _ _ _ _ _ _ [.int (zg s 200 ((a4 * a2) + 1))] _ _
    refine zn_ld rfl rfl rfl ?_
    refine zn_get (v := .ref 204) rfl (zv_R (a := 197) rfl rfl) ?_
    refine zn_c [.int 1, .ref 204, .int (zg s 200 ((a4 * a2) + 1))] (xo_push (.int 1)) rfl rfl ?_
    refine zn_row 1 [.int (zg s 200 ((a4 * a2) + 1))] (a := 204) hd rfl rfl rfl rfl ?_
    change Zn _ _ _ _ _ _ _ _ _ _ _ [.int (zg s 204 1), .int (zg s 200 ((a4 * a2) + 1))] _ _
    refine zn_brN rfl rfl ⟨fun hcn => ?_, fun hcn => ?_⟩
    · replace h := h.1 (fun q => hcn ((i_eq (x := zg s 200 ((a4 * a2) + 1)) (y := zg s 204 1) rfl rfl).mpr q))
      exact m_103_41_3e200 hd r11 h
    · replace h := h.2 ((i_eq (x := zg s 200 ((a4 * a2) + 1)) (y := zg s 204 1) rfl rfl).mp hcn)
      refine zn_ld rfl rfl rfl ?_
      refine zn_get (v := .ref 75) rfl (zv_R (a := 197) rfl rfl) ?_
      refine zn_ld rfl rfl rfl ?_
      refine zn_ld rfl rfl rfl ?_
      refine zn_row (a4 * a2) [.ref 75] (a := 200) hd rfl rfl rfl rfl ?_
      change Zn _ _ _ _ _ _ _ _ _ _ _ [.int (zg s 200 (a4 * a2)), .ref 75] _ _
      refine zn_ld rfl rfl rfl ?_
      refine zn_get (v := .ref 204) rfl (zv_R (a := 197) rfl rfl) ?_
      refine zn_c [.int 0, .ref 204, .int (zg s 200 (a4 * a2)), .ref 75] (xo_push (.int 0)) rfl rfl ?_
      refine zn_row 0 [.int (zg s 200 (a4 * a2)), .ref 75] (a := 204) hd rfl rfl rfl rfl ?_
      change Zn _ _ _ _ _ _ _ _ _ _ _ [.int (zg s 204 0), .int (zg s 200 (a4 * a2)), .ref 75] _ _
      refine zn_zt [.ref 75, .int (zg s 200 (a4 * a2)), .int (zg s 204 0)] [] rfl rfl rfl rfl rfl (Zt.imp h (fun v3 s4 h => ?_))
      obtain ⟨x5, rfl, h⟩ := h
      change Zn _ _ _ _ _ _ _ _ _ _ _ [.int x5] _ _
      refine zn_brP rfl rfl ⟨fun hcn => ?_, fun hcn => ?_⟩
      · replace h := h.1 ((i_eq (x := x5) (y := 0) rfl (show (0 : Int32).toInt = 0 by decide)).mp hcn)
        exact m_103_41_3e200 hd r11 h
      · replace h := h.2 (fun q => hcn ((i_eq (x := x5) (y := 0) rfl (show (0 : Int32).toInt = 0 by decide)).mpr q))
        refine zn_c [.int 1] (xo_push (.int 1)) rfl rfl ?_
        refine zn_go rfl ?_
        exact m_103_42_3e200 hd r11 h
theorem ml_103_11_3e200 {d d0 : Nat} (hd : d = d0 + 8)  {a2 : Int32} {a3 : Int32} {a4 : Int32} {s : zS} {Q : Option Value → zS → Prop}  (h : vl_103_11 (fun j => Zt d (wd2 3 j) j) 3 200  a2 a3 a4 s Q) : Zn d [] [] ([(197, 5, 3), (197, 6, 21), (75, 0, 3), (75, 1, 21), (75, 2, 25)] : zW) ([(197, 5, 3), (197, 6, 21), (75, 0, 3), (75, 1, 21), (75, 2, 25)] : zW) xL_8 8 (some .boolean) xE_103 (xE_103.drop 11) [.ref 197, .ref 200, .int a2, .int a3, .int a4, .null, .null, .null, .null, .null, .null] [] s Q := by
  obtain ⟨I, μ, h0, h1⟩ := h
  have key : ∀ (n : Nat) (a2 : Int32) (a3 : Int32) (a4 : Int32) (s : zS), μ a2 a3 a4 s = n → I a2 a3 a4 s → Zn d [] [] ([(197, 5, 3), (197, 6, 21), (75, 0, 3), (75, 1, 21), (75, 2, 25)] : zW) ([(197, 5, 3), (197, 6, 21), (75, 0, 3), (75, 1, 21), (75, 2, 25)] : zW) xL_8 8 (some .boolean) xE_103 (xE_103.drop 11) [.ref 197, .ref 200, .int a2, .int a3, .int a4, .null, .null, .null, .null, .null, .null] [] s Q := by
    intro n
    induction n using Nat.strongRecOn with
    | ind n ih =>
      intro a2 a3 a4 s e hI
      exact m_103_11_3e200 hd (fun a2' a3' a4' s' q => ih _ (by rw [← e]; exact q.2) a2' a3' a4' s' rfl q.1) (h1 a2 a3 a4 s hI)
  exact key _ a2 a3 a4 s rfl h0
set_option maxRecDepth 20000 in
theorem m_103_8_3e200 {d d0 : Nat} (hd : d = d0 + 8)  {a2 : Int32} {t0 : Int32} {s : zS} {Q : Option Value → zS → Prop}  (h : v_103_8 (fun j => Zt d (wd2 3 j) j) 3 200  a2 t0 s Q) : Zn d [] [] ([(197, 5, 3), (197, 6, 21), (75, 0, 3), (75, 1, 21), (75, 2, 25)] : zW) ([(197, 5, 3), (197, 6, 21), (75, 0, 3), (75, 1, 21), (75, 2, 25)] : zW) xL_8 8 (some .boolean) xE_103 (xE_103.drop 8) [.ref 197, .ref 200, .int a2, .null, .null, .null, .null, .null, .null, .null, .null] [.int t0] s Q := by
  unfold v_103_8 at h
  refine zn_st [.ref 197, .ref 200, .int a2, .int t0, .null, .null, .null, .null, .null, .null, .null] rfl rfl rfl ?_
  refine zn_c [.int 0] (xo_push (.int 0)) rfl rfl ?_
  refine zn_st [.ref 197, .ref 200, .int a2, .int t0, .int 0, .null, .null, .null, .null, .null, .null] rfl rfl rfl ?_
  exact ml_103_11_3e200 hd  h
set_option maxRecDepth 20000 in
theorem m_103_0_3e200 {d d0 : Nat} (hd : d = d0 + 8)  {a2 : Int32} {s : zS} {Q : Option Value → zS → Prop}  (h : v_103_0 (fun j => Zt d (wd2 3 j) j) 3 200  a2 s Q) : Zn d [] [] ([(197, 5, 3), (197, 6, 21), (75, 0, 3), (75, 1, 21), (75, 2, 25)] : zW) ([(197, 5, 3), (197, 6, 21), (75, 0, 3), (75, 1, 21), (75, 2, 25)] : zW) xL_8 8 (some .boolean) xE_103 (xE_103.drop 0) [.ref 197, .ref 200, .int a2, .null, .null, .null, .null, .null, .null, .null, .null] [] s Q := by
  unfold v_103_0 at h
  refine zn_ld rfl rfl rfl ?_
  refine zn_brP rfl rfl ⟨fun hcn => ?_, fun hcn => ?_⟩
  · replace h := h.1 ((i_le (x := a2) (y := 0) rfl (show (0 : Int32).toInt = 0 by decide)).mp hcn)
    refine zn_c [.int 0] (xo_push (.int 0)) rfl rfl ?_
    exact m_103_8_3e200 hd  h
  · replace h := h.2 (fun q => hcn ((i_le (x := a2) (y := 0) rfl (show (0 : Int32).toInt = 0 by decide)).mpr q))
    refine zn_ld rfl rfl rfl ?_
    refine zn_get (v := .int (s.1 200 2)) rfl (zv_I (a := 200) rfl rfl) ?_
    refine zn_ld rfl rfl rfl ?_
    obtain ⟨hnz, h⟩ := h
    replace h := h ((s.1 200 2) / a2)
    refine zn_c [.int ((s.1 200 2) / a2)] xo_idiv rfl (o_idiv (fun q => hnz (by rw [q]; rfl))) ?_
    refine zn_go rfl ?_
    exact m_103_8_3e200 hd  h
theorem zq_103_3e200 {d : Nat} {a2 : Int32} {s : zS} {Q : Option Value → zS → Prop} (h : v_103_0 (fun j => Zt (d + 8) (wd2 3 j) j) 3 200 a2 s Q) : Zt (d + 9) ([(197, 5, 3), (197, 6, 21), (75, 0, 3), (75, 1, 21), (75, 2, 25)] : zW) 103 [.ref 197, .ref 200, .int a2] s Q := zt_of (E := xE_103) (L := xL_8) (ml := 8) (ret := some .boolean) rfl rfl rfl (m_103_0_3e200 rfl h)
set_option maxRecDepth 20000 in
theorem m_103_66_3e202 {d d0 : Nat} (hd : d = d0 + 8) {R11 : Int32 → Int32 → Int32 → zS → Prop} {a2 : Int32} {a3 : Int32} {a4 : Int32} {a5 : Int32} {a6 : Int32} {a7 : Int32} {s : zS} {Q : Option Value → zS → Prop} (r11 : ∀ a2 a3 a4 s, R11 a2 a3 a4 s → Zn d [] [] ([(197, 5, 3), (197, 6, 21), (75, 0, 3), (75, 1, 21), (75, 2, 25)] : zW) ([(197, 5, 3), (197, 6, 21), (75, 0, 3), (75, 1, 21), (75, 2, 25)] : zW) xL_8 8 (some .boolean) xE_103 (xE_103.drop 11) [.ref 197, .ref 202, .int a2, .int a3, .int a4, .null, .null, .null, .null, .null, .null] [] s Q) (h : v_103_66 (fun j => Zt d (wd2 3 j) j) 3 202 R11 a2 a3 a4 a5 a6 a7 s Q) : Zn d [] [] ([(197, 5, 3), (197, 6, 21), (75, 0, 3), (75, 1, 21), (75, 2, 25)] : zW) ([(197, 5, 3), (197, 6, 21), (75, 0, 3), (75, 1, 21), (75, 2, 25)] : zW) xL_8 8 (some .boolean) xE_103 (xE_103.drop 66) [.ref 197, .ref 202, .int a2, .int a3, .int a4, .int a5, .int a6, .int a7, .null, .null, .null] [] s Q := by
  unfold v_103_66 at h
  refine zn_ld rfl rfl rfl ?_
  refine zn_brP rfl rfl ⟨fun hcn => ?_, fun hcn => ?_⟩
  · replace h := h.1 ((i_eq (x := a6) (y := 0) rfl (show (0 : Int32).toInt = 0 by decide)).mp hcn)
    replace h := h _ (i_add (x := a4) (y := 1) rfl (show (1 : Int32).toInt = 1 by decide))
    refine zn_inc [.ref 197, .ref 202, .int a2, .int a3, .int (a4 + 1), .int a5, .int a6, .int a7, .null, .null, .null] rfl rfl rfl rfl ?_
    refine zn_go rfl ?_
    refine zn_fg 5 ?_
    refine zn_fg 6 ?_
    refine zn_fg 7 ?_
    exact r11 a2 a3 (a4 + 1) s h
  · replace h := h.2 (fun q => hcn ((i_eq (x := a6) (y := 0) rfl (show (0 : Int32).toInt = 0 by decide)).mpr q))
    refine zn_c [.int 1] (xo_push (.int 1)) rfl rfl ?_
    exact zn_retZ rfl rfl h
set_option maxRecDepth 20000 in
theorem m_103_63_3e202 {d d0 : Nat} (hd : d = d0 + 8) {R11 : Int32 → Int32 → Int32 → zS → Prop} {R45 : Int32 → Int32 → Int32 → Int32 → Int32 → Int32 → zS → Prop} {a2 : Int32} {a3 : Int32} {a4 : Int32} {a5 : Int32} {a6 : Int32} {a7 : Int32} {t0 : Int32} {s : zS} {Q : Option Value → zS → Prop} (r11 : ∀ a2 a3 a4 s, R11 a2 a3 a4 s → Zn d [] [] ([(197, 5, 3), (197, 6, 21), (75, 0, 3), (75, 1, 21), (75, 2, 25)] : zW) ([(197, 5, 3), (197, 6, 21), (75, 0, 3), (75, 1, 21), (75, 2, 25)] : zW) xL_8 8 (some .boolean) xE_103 (xE_103.drop 11) [.ref 197, .ref 202, .int a2, .int a3, .int a4, .null, .null, .null, .null, .null, .null] [] s Q) (r45 : ∀ a2 a3 a4 a5 a6 a7 s, R45 a2 a3 a4 a5 a6 a7 s → Zn d [] [] ([(197, 5, 3), (197, 6, 21), (75, 0, 3), (75, 1, 21), (75, 2, 25)] : zW) ([(197, 5, 3), (197, 6, 21), (75, 0, 3), (75, 1, 21), (75, 2, 25)] : zW) xL_8 8 (some .boolean) xE_103 (xE_103.drop 45) [.ref 197, .ref 202, .int a2, .int a3, .int a4, .int a5, .int a6, .int a7, .null, .null, .null] [] s Q) (h : v_103_63 (fun j => Zt d (wd2 3 j) j) 3 202 R11 R45 a2 a3 a4 a5 a6 a7 t0 s Q) : Zn d [] [] ([(197, 5, 3), (197, 6, 21), (75, 0, 3), (75, 1, 21), (75, 2, 25)] : zW) ([(197, 5, 3), (197, 6, 21), (75, 0, 3), (75, 1, 21), (75, 2, 25)] : zW) xL_8 8 (some .boolean) xE_103 (xE_103.drop 63) [.ref 197, .ref 202, .int a2, .int a3, .int a4, .int a5, .int a6, .int a7, .null, .null, .null] [.int t0] s Q := by
  unfold v_103_63 at h
  refine zn_st [.ref 197, .ref 202, .int a2, .int a3, .int a4, .int a5, .int t0, .int a7, .null, .null, .null] rfl rfl rfl ?_
  replace h := h _ (i_add (x := a7) (y := 1) rfl (show (1 : Int32).toInt = 1 by decide))
  refine zn_inc [.ref 197, .ref 202, .int a2, .int a3, .int a4, .int a5, .int t0, .int (a7 + 1), .null, .null, .null] rfl rfl rfl rfl ?_
  refine zn_go rfl ?_
  exact r45 a2 a3 a4 a5 t0 (a7 + 1) s h
set_option maxRecDepth 20000 in
theorem m_103_45_3e202 {d d0 : Nat} (hd : d = d0 + 8) {R11 : Int32 → Int32 → Int32 → zS → Prop} {R45 : Int32 → Int32 → Int32 → Int32 → Int32 → Int32 → zS → Prop} {a2 : Int32} {a3 : Int32} {a4 : Int32} {a5 : Int32} {a6 : Int32} {a7 : Int32} {s : zS} {Q : Option Value → zS → Prop} (r11 : ∀ a2 a3 a4 s, R11 a2 a3 a4 s → Zn d [] [] ([(197, 5, 3), (197, 6, 21), (75, 0, 3), (75, 1, 21), (75, 2, 25)] : zW) ([(197, 5, 3), (197, 6, 21), (75, 0, 3), (75, 1, 21), (75, 2, 25)] : zW) xL_8 8 (some .boolean) xE_103 (xE_103.drop 11) [.ref 197, .ref 202, .int a2, .int a3, .int a4, .null, .null, .null, .null, .null, .null] [] s Q) (r45 : ∀ a2 a3 a4 a5 a6 a7 s, R45 a2 a3 a4 a5 a6 a7 s → Zn d [] [] ([(197, 5, 3), (197, 6, 21), (75, 0, 3), (75, 1, 21), (75, 2, 25)] : zW) ([(197, 5, 3), (197, 6, 21), (75, 0, 3), (75, 1, 21), (75, 2, 25)] : zW) xL_8 8 (some .boolean) xE_103 (xE_103.drop 45) [.ref 197, .ref 202, .int a2, .int a3, .int a4, .int a5, .int a6, .int a7, .null, .null, .null] [] s Q) (h : v_103_45 (fun j => Zt d (wd2 3 j) j) 3 202 R11 R45 a2 a3 a4 a5 a6 a7 s Q) : Zn d [] [] ([(197, 5, 3), (197, 6, 21), (75, 0, 3), (75, 1, 21), (75, 2, 25)] : zW) ([(197, 5, 3), (197, 6, 21), (75, 0, 3), (75, 1, 21), (75, 2, 25)] : zW) xL_8 8 (some .boolean) xE_103 (xE_103.drop 45) [.ref 197, .ref 202, .int a2, .int a3, .int a4, .int a5, .int a6, .int a7, .null, .null, .null] [] s Q := by
  unfold v_103_45 at h
  refine zn_ld rfl rfl rfl ?_
  refine zn_brP rfl rfl ⟨fun hcn => ?_, fun hcn => ?_⟩
  · replace h := h.1 ((i_eq (x := a6) (y := 0) rfl (show (0 : Int32).toInt = 0 by decide)).mp hcn)
    exact m_103_66_3e202 hd r11 h
  · replace h := h.2 (fun q => hcn ((i_eq (x := a6) (y := 0) rfl (show (0 : Int32).toInt = 0 by decide)).mpr q))
    refine zn_ld rfl rfl rfl ?_
    refine zn_c [.int 9, .int a7] (xo_push (.int 9)) rfl rfl ?_
    refine zn_brP rfl rfl ⟨fun hcn => ?_, fun hcn => ?_⟩
    · replace h := h.1 ((i_le (x := 9) (y := a7) (show (9 : Int32).toInt = 9 by decide) rfl).mp hcn)
      exact m_103_66_3e202 hd r11 h
    · replace h := h.2 (fun q => hcn ((i_le (x := 9) (y := a7) (show (9 : Int32).toInt = 9 by decide) rfl).mpr q))
      refine zn_ld rfl rfl rfl ?_
      refine zn_ld rfl rfl rfl ?_
      refine zn_ld rfl rfl rfl ?_
      replace h := h _ (i_add (x := a5) (y := a7) rfl rfl)
      refine zn_c [.int (a5 + a7), .ref 202] xo_iadd rfl rfl ?_
      refine zn_row (a5 + a7) [] (a := 202) hd rfl rfl rfl rfl ?_
      change Zn _ _ _ _ _ _ _ _ _ _ _ [.int (zg s 202 (a5 + a7))] _ _
      refine zn_ld rfl rfl rfl ?_
      refine zn_get (v := .ref 204) rfl (zv_R (a := 197) rfl rfl) ?_
      refine zn_ld rfl rfl rfl ?_
      refine zn_row a7 [.int (zg s 202 (a5 + a7))] (a := 204) hd rfl rfl rfl rfl ?_
      change Zn _ _ _ _ _ _ _ _ _ _ _ [.int (zg s 204 a7), .int (zg s 202 (a5 + a7))] _ _
      refine zn_brN rfl rfl ⟨fun hcn => ?_, fun hcn => ?_⟩
      · replace h := h.1 (fun q => hcn ((i_eq (x := zg s 202 (a5 + a7)) (y := zg s 204 a7) rfl rfl).mpr q))
        refine zn_c [.int 0] (xo_push (.int 0)) rfl rfl ?_
        exact m_103_63_3e202 hd r11 r45 h
      · replace h := h.2 ((i_eq (x := zg s 202 (a5 + a7)) (y := zg s 204 a7) rfl rfl).mp hcn)
        refine zn_c [.int 1] (xo_push (.int 1)) rfl rfl ?_
        refine zn_go rfl ?_
        exact m_103_63_3e202 hd r11 r45 h
theorem ml_103_45_3e202 {d d0 : Nat} (hd : d = d0 + 8) {R11 : Int32 → Int32 → Int32 → zS → Prop} {a2 : Int32} {a3 : Int32} {a4 : Int32} {a5 : Int32} {a6 : Int32} {a7 : Int32} {s : zS} {Q : Option Value → zS → Prop} (r11 : ∀ a2 a3 a4 s, R11 a2 a3 a4 s → Zn d [] [] ([(197, 5, 3), (197, 6, 21), (75, 0, 3), (75, 1, 21), (75, 2, 25)] : zW) ([(197, 5, 3), (197, 6, 21), (75, 0, 3), (75, 1, 21), (75, 2, 25)] : zW) xL_8 8 (some .boolean) xE_103 (xE_103.drop 11) [.ref 197, .ref 202, .int a2, .int a3, .int a4, .null, .null, .null, .null, .null, .null] [] s Q) (h : vl_103_45 (fun j => Zt d (wd2 3 j) j) 3 202 R11 a2 a3 a4 a5 a6 a7 s Q) : Zn d [] [] ([(197, 5, 3), (197, 6, 21), (75, 0, 3), (75, 1, 21), (75, 2, 25)] : zW) ([(197, 5, 3), (197, 6, 21), (75, 0, 3), (75, 1, 21), (75, 2, 25)] : zW) xL_8 8 (some .boolean) xE_103 (xE_103.drop 45) [.ref 197, .ref 202, .int a2, .int a3, .int a4, .int a5, .int a6, .int a7, .null, .null, .null] [] s Q := by
  obtain ⟨I, μ, h0, h1⟩ := h
  have key : ∀ (n : Nat) (a2 : Int32) (a3 : Int32) (a4 : Int32) (a5 : Int32) (a6 : Int32) (a7 : Int32) (s : zS), μ a2 a3 a4 a5 a6 a7 s = n → I a2 a3 a4 a5 a6 a7 s → Zn d [] [] ([(197, 5, 3), (197, 6, 21), (75, 0, 3), (75, 1, 21), (75, 2, 25)] : zW) ([(197, 5, 3), (197, 6, 21), (75, 0, 3), (75, 1, 21), (75, 2, 25)] : zW) xL_8 8 (some .boolean) xE_103 (xE_103.drop 45) [.ref 197, .ref 202, .int a2, .int a3, .int a4, .int a5, .int a6, .int a7, .null, .null, .null] [] s Q := by
    intro n
    induction n using Nat.strongRecOn with
    | ind n ih =>
      intro a2 a3 a4 a5 a6 a7 s e hI
      exact m_103_45_3e202 hd r11 (fun a2' a3' a4' a5' a6' a7' s' q => ih _ (by rw [← e]; exact q.2) a2' a3' a4' a5' a6' a7' s' rfl q.1) (h1 a2 a3 a4 a5 a6 a7 s hI)
  exact key _ a2 a3 a4 a5 a6 a7 s rfl h0
set_option maxRecDepth 20000 in
theorem m_103_42_3e202 {d d0 : Nat} (hd : d = d0 + 8) {R11 : Int32 → Int32 → Int32 → zS → Prop} {a2 : Int32} {a3 : Int32} {a4 : Int32} {a5 : Int32} {t0 : Int32} {s : zS} {Q : Option Value → zS → Prop} (r11 : ∀ a2 a3 a4 s, R11 a2 a3 a4 s → Zn d [] [] ([(197, 5, 3), (197, 6, 21), (75, 0, 3), (75, 1, 21), (75, 2, 25)] : zW) ([(197, 5, 3), (197, 6, 21), (75, 0, 3), (75, 1, 21), (75, 2, 25)] : zW) xL_8 8 (some .boolean) xE_103 (xE_103.drop 11) [.ref 197, .ref 202, .int a2, .int a3, .int a4, .null, .null, .null, .null, .null, .null] [] s Q) (h : v_103_42 (fun j => Zt d (wd2 3 j) j) 3 202 R11 a2 a3 a4 a5 t0 s Q) : Zn d [] [] ([(197, 5, 3), (197, 6, 21), (75, 0, 3), (75, 1, 21), (75, 2, 25)] : zW) ([(197, 5, 3), (197, 6, 21), (75, 0, 3), (75, 1, 21), (75, 2, 25)] : zW) xL_8 8 (some .boolean) xE_103 (xE_103.drop 42) [.ref 197, .ref 202, .int a2, .int a3, .int a4, .int a5, .null, .null, .null, .null, .null] [.int t0] s Q := by
  unfold v_103_42 at h
  refine zn_st [.ref 197, .ref 202, .int a2, .int a3, .int a4, .int a5, .int t0, .null, .null, .null, .null] rfl rfl rfl ?_
  refine zn_c [.int 2] (xo_push (.int 2)) rfl rfl ?_
  refine zn_st [.ref 197, .ref 202, .int a2, .int a3, .int a4, .int a5, .int t0, .int 2, .null, .null, .null] rfl rfl rfl ?_
  exact ml_103_45_3e202 hd r11 h
set_option maxRecDepth 20000 in
theorem m_103_41_3e202 {d d0 : Nat} (hd : d = d0 + 8) {R11 : Int32 → Int32 → Int32 → zS → Prop} {a2 : Int32} {a3 : Int32} {a4 : Int32} {a5 : Int32} {s : zS} {Q : Option Value → zS → Prop} (r11 : ∀ a2 a3 a4 s, R11 a2 a3 a4 s → Zn d [] [] ([(197, 5, 3), (197, 6, 21), (75, 0, 3), (75, 1, 21), (75, 2, 25)] : zW) ([(197, 5, 3), (197, 6, 21), (75, 0, 3), (75, 1, 21), (75, 2, 25)] : zW) xL_8 8 (some .boolean) xE_103 (xE_103.drop 11) [.ref 197, .ref 202, .int a2, .int a3, .int a4, .null, .null, .null, .null, .null, .null] [] s Q) (h : v_103_41 (fun j => Zt d (wd2 3 j) j) 3 202 R11 a2 a3 a4 a5 s Q) : Zn d [] [] ([(197, 5, 3), (197, 6, 21), (75, 0, 3), (75, 1, 21), (75, 2, 25)] : zW) ([(197, 5, 3), (197, 6, 21), (75, 0, 3), (75, 1, 21), (75, 2, 25)] : zW) xL_8 8 (some .boolean) xE_103 (xE_103.drop 41) [.ref 197, .ref 202, .int a2, .int a3, .int a4, .int a5, .null, .null, .null, .null, .null] [] s Q := by
  unfold v_103_41 at h
  refine zn_c [.int 0] (xo_push (.int 0)) rfl rfl ?_
  exact m_103_42_3e202 hd r11 h
set_option maxRecDepth 20000 in
theorem m_103_11_3e202 {d d0 : Nat} (hd : d = d0 + 8) {R11 : Int32 → Int32 → Int32 → zS → Prop} {a2 : Int32} {a3 : Int32} {a4 : Int32} {s : zS} {Q : Option Value → zS → Prop} (r11 : ∀ a2 a3 a4 s, R11 a2 a3 a4 s → Zn d [] [] ([(197, 5, 3), (197, 6, 21), (75, 0, 3), (75, 1, 21), (75, 2, 25)] : zW) ([(197, 5, 3), (197, 6, 21), (75, 0, 3), (75, 1, 21), (75, 2, 25)] : zW) xL_8 8 (some .boolean) xE_103 (xE_103.drop 11) [.ref 197, .ref 202, .int a2, .int a3, .int a4, .null, .null, .null, .null, .null, .null] [] s Q) (h : v_103_11 (fun j => Zt d (wd2 3 j) j) 3 202 R11 a2 a3 a4 s Q) : Zn d [] [] ([(197, 5, 3), (197, 6, 21), (75, 0, 3), (75, 1, 21), (75, 2, 25)] : zW) ([(197, 5, 3), (197, 6, 21), (75, 0, 3), (75, 1, 21), (75, 2, 25)] : zW) xL_8 8 (some .boolean) xE_103 (xE_103.drop 11) [.ref 197, .ref 202, .int a2, .int a3, .int a4, .null, .null, .null, .null, .null, .null] [] s Q := by
  unfold v_103_11 at h
  refine zn_ld rfl rfl rfl ?_
  refine zn_ld rfl rfl rfl ?_
  refine zn_brP rfl rfl ⟨fun hcn => ?_, fun hcn => ?_⟩
  · replace h := h.1 ((i_le (x := a3) (y := a4) rfl rfl).mp hcn)
    refine zn_c [.int 0] (xo_push (.int 0)) rfl rfl ?_
    exact zn_retZ rfl rfl h
  · replace h := h.2 (fun q => hcn ((i_le (x := a3) (y := a4) rfl rfl).mpr q))
    refine zn_ld rfl rfl rfl ?_
    refine zn_ld rfl rfl rfl ?_
    replace h := h _ (i_mul (x := a4) (y := a2) rfl rfl)
    refine zn_c [.int (a4 * a2)] xo_imul rfl rfl ?_
    refine zn_st [.ref 197, .ref 202, .int a2, .int a3, .int a4, .int (a4 * a2), .null, .null, .null, .null, .null] rfl rfl rfl ?_
    refine zn_ld rfl rfl rfl ?_
    refine zn_ld rfl rfl rfl ?_
    refine zn_c [.int 1, .int (a4 * a2), .ref 202] (xo_push (.int 1)) rfl rfl ?_
    replace h := h _ (i_add (x := (a4 * a2)) (y := 1) rfl (show (1 : Int32).toInt = 1 by decide))
    refine zn_c [.int ((a4 * a2) + 1), .ref 202] xo_iadd rfl rfl ?_
    refine zn_row ((a4 * a2) + 1) [] (a := 202) hd rfl rfl rfl rfl ?_
    change Zn _ _ _ _ _ _ _ _ _ _ _ [.int (zg s 202 ((a4 * a2) + 1))] _ _
    refine zn_ld rfl rfl rfl ?_
    refine zn_get (v := .ref 204) rfl (zv_R (a := 197) rfl rfl) ?_
    refine zn_c [.int 1, .ref 204, .int (zg s 202 ((a4 * a2) + 1))] (xo_push (.int 1)) rfl rfl ?_
    refine zn_row 1 [.int (zg s 202 ((a4 * a2) + 1))] (a := 204) hd rfl rfl rfl rfl ?_
    change Zn _ _ _ _ _ _ _ _ _ _ _ [.int (zg s 204 1), .int (zg s 202 ((a4 * a2) + 1))] _ _
    refine zn_brN rfl rfl ⟨fun hcn => ?_, fun hcn => ?_⟩
    · replace h := h.1 (fun q => hcn ((i_eq (x := zg s 202 ((a4 * a2) + 1)) (y := zg s 204 1) rfl rfl).mpr q))
      exact m_103_41_3e202 hd r11 h
    · replace h := h.2 ((i_eq (x := zg s 202 ((a4 * a2) + 1)) (y := zg s 204 1) rfl rfl).mp hcn)
      refine zn_ld rfl rfl rfl ?_
      refine zn_get (v := .ref 75) rfl (zv_R (a := 197) rfl rfl) ?_
      refine zn_ld rfl rfl rfl ?_
      refine zn_ld rfl rfl rfl ?_
      refine zn_row (a4 * a2) [.ref 75] (a := 202) hd rfl rfl rfl rfl ?_
      change Zn _ _ _ _ _ _ _ _ _ _ _ [.int (zg s 202 (a4 * a2)), .ref 75] _ _
      refine zn_ld rfl rfl rfl ?_
      refine zn_get (v := .ref 204) rfl (zv_R (a := 197) rfl rfl) ?_
      refine zn_c [.int 0, .ref 204, .int (zg s 202 (a4 * a2)), .ref 75] (xo_push (.int 0)) rfl rfl ?_
      refine zn_row 0 [.int (zg s 202 (a4 * a2)), .ref 75] (a := 204) hd rfl rfl rfl rfl ?_
      change Zn _ _ _ _ _ _ _ _ _ _ _ [.int (zg s 204 0), .int (zg s 202 (a4 * a2)), .ref 75] _ _
      refine zn_zt [.ref 75, .int (zg s 202 (a4 * a2)), .int (zg s 204 0)] [] rfl rfl rfl rfl rfl (Zt.imp h (fun v3 s4 h => ?_))
      obtain ⟨x5, rfl, h⟩ := h
      change Zn _ _ _ _ _ _ _ _ _ _ _ [.int x5] _ _
      refine zn_brP rfl rfl ⟨fun hcn => ?_, fun hcn => ?_⟩
      · replace h := h.1 ((i_eq (x := x5) (y := 0) rfl (show (0 : Int32).toInt = 0 by decide)).mp hcn)
        exact m_103_41_3e202 hd r11 h
      · replace h := h.2 (fun q => hcn ((i_eq (x := x5) (y := 0) rfl (show (0 : Int32).toInt = 0 by decide)).mpr q))
        refine zn_c [.int 1] (xo_push (.int 1)) rfl rfl ?_
        refine zn_go rfl ?_
        exact m_103_42_3e202 hd r11 h
theorem ml_103_11_3e202 {d d0 : Nat} (hd : d = d0 + 8)  {a2 : Int32} {a3 : Int32} {a4 : Int32} {s : zS} {Q : Option Value → zS → Prop}  (h : vl_103_11 (fun j => Zt d (wd2 3 j) j) 3 202  a2 a3 a4 s Q) : Zn d [] [] ([(197, 5, 3), (197, 6, 21), (75, 0, 3), (75, 1, 21), (75, 2, 25)] : zW) ([(197, 5, 3), (197, 6, 21), (75, 0, 3), (75, 1, 21), (75, 2, 25)] : zW) xL_8 8 (some .boolean) xE_103 (xE_103.drop 11) [.ref 197, .ref 202, .int a2, .int a3, .int a4, .null, .null, .null, .null, .null, .null] [] s Q := by
  obtain ⟨I, μ, h0, h1⟩ := h
  have key : ∀ (n : Nat) (a2 : Int32) (a3 : Int32) (a4 : Int32) (s : zS), μ a2 a3 a4 s = n → I a2 a3 a4 s → Zn d [] [] ([(197, 5, 3), (197, 6, 21), (75, 0, 3), (75, 1, 21), (75, 2, 25)] : zW) ([(197, 5, 3), (197, 6, 21), (75, 0, 3), (75, 1, 21), (75, 2, 25)] : zW) xL_8 8 (some .boolean) xE_103 (xE_103.drop 11) [.ref 197, .ref 202, .int a2, .int a3, .int a4, .null, .null, .null, .null, .null, .null] [] s Q := by
    intro n
    induction n using Nat.strongRecOn with
    | ind n ih =>
      intro a2 a3 a4 s e hI
      exact m_103_11_3e202 hd (fun a2' a3' a4' s' q => ih _ (by rw [← e]; exact q.2) a2' a3' a4' s' rfl q.1) (h1 a2 a3 a4 s hI)
  exact key _ a2 a3 a4 s rfl h0
set_option maxRecDepth 20000 in
theorem m_103_8_3e202 {d d0 : Nat} (hd : d = d0 + 8)  {a2 : Int32} {t0 : Int32} {s : zS} {Q : Option Value → zS → Prop}  (h : v_103_8 (fun j => Zt d (wd2 3 j) j) 3 202  a2 t0 s Q) : Zn d [] [] ([(197, 5, 3), (197, 6, 21), (75, 0, 3), (75, 1, 21), (75, 2, 25)] : zW) ([(197, 5, 3), (197, 6, 21), (75, 0, 3), (75, 1, 21), (75, 2, 25)] : zW) xL_8 8 (some .boolean) xE_103 (xE_103.drop 8) [.ref 197, .ref 202, .int a2, .null, .null, .null, .null, .null, .null, .null, .null] [.int t0] s Q := by
  unfold v_103_8 at h
  refine zn_st [.ref 197, .ref 202, .int a2, .int t0, .null, .null, .null, .null, .null, .null, .null] rfl rfl rfl ?_
  refine zn_c [.int 0] (xo_push (.int 0)) rfl rfl ?_
  refine zn_st [.ref 197, .ref 202, .int a2, .int t0, .int 0, .null, .null, .null, .null, .null, .null] rfl rfl rfl ?_
  exact ml_103_11_3e202 hd  h
set_option maxRecDepth 20000 in
theorem m_103_0_3e202 {d d0 : Nat} (hd : d = d0 + 8)  {a2 : Int32} {s : zS} {Q : Option Value → zS → Prop}  (h : v_103_0 (fun j => Zt d (wd2 3 j) j) 3 202  a2 s Q) : Zn d [] [] ([(197, 5, 3), (197, 6, 21), (75, 0, 3), (75, 1, 21), (75, 2, 25)] : zW) ([(197, 5, 3), (197, 6, 21), (75, 0, 3), (75, 1, 21), (75, 2, 25)] : zW) xL_8 8 (some .boolean) xE_103 (xE_103.drop 0) [.ref 197, .ref 202, .int a2, .null, .null, .null, .null, .null, .null, .null, .null] [] s Q := by
  unfold v_103_0 at h
  refine zn_ld rfl rfl rfl ?_
  refine zn_brP rfl rfl ⟨fun hcn => ?_, fun hcn => ?_⟩
  · replace h := h.1 ((i_le (x := a2) (y := 0) rfl (show (0 : Int32).toInt = 0 by decide)).mp hcn)
    refine zn_c [.int 0] (xo_push (.int 0)) rfl rfl ?_
    exact m_103_8_3e202 hd  h
  · replace h := h.2 (fun q => hcn ((i_le (x := a2) (y := 0) rfl (show (0 : Int32).toInt = 0 by decide)).mpr q))
    refine zn_ld rfl rfl rfl ?_
    refine zn_get (v := .int (s.1 202 2)) rfl (zv_I (a := 202) rfl rfl) ?_
    refine zn_ld rfl rfl rfl ?_
    obtain ⟨hnz, h⟩ := h
    replace h := h ((s.1 202 2) / a2)
    refine zn_c [.int ((s.1 202 2) / a2)] xo_idiv rfl (o_idiv (fun q => hnz (by rw [q]; rfl))) ?_
    refine zn_go rfl ?_
    exact m_103_8_3e202 hd  h
theorem zq_103_3e202 {d : Nat} {a2 : Int32} {s : zS} {Q : Option Value → zS → Prop} (h : v_103_0 (fun j => Zt (d + 8) (wd2 3 j) j) 3 202 a2 s Q) : Zt (d + 9) ([(197, 5, 3), (197, 6, 21), (75, 0, 3), (75, 1, 21), (75, 2, 25)] : zW) 103 [.ref 197, .ref 202, .int a2] s Q := zt_of (E := xE_103) (L := xL_8) (ml := 8) (ret := some .boolean) rfl rfl rfl (m_103_0_3e202 rfl h)
set_option maxRecDepth 20000 in
theorem m_103_66_39e200 {d d0 : Nat} (hd : d = d0 + 8) {R11 : Int32 → Int32 → Int32 → zS → Prop} {a2 : Int32} {a3 : Int32} {a4 : Int32} {a5 : Int32} {a6 : Int32} {a7 : Int32} {s : zS} {Q : Option Value → zS → Prop} (r11 : ∀ a2 a3 a4 s, R11 a2 a3 a4 s → Zn d [] [] ([(197, 5, 39), (197, 6, 57), (75, 0, 39), (75, 1, 57), (75, 2, 61)] : zW) ([(197, 5, 39), (197, 6, 57), (75, 0, 39), (75, 1, 57), (75, 2, 61)] : zW) xL_8 8 (some .boolean) xE_103 (xE_103.drop 11) [.ref 197, .ref 200, .int a2, .int a3, .int a4, .null, .null, .null, .null, .null, .null] [] s Q) (h : v_103_66 (fun j => Zt d (wd2 39 j) j) 39 200 R11 a2 a3 a4 a5 a6 a7 s Q) : Zn d [] [] ([(197, 5, 39), (197, 6, 57), (75, 0, 39), (75, 1, 57), (75, 2, 61)] : zW) ([(197, 5, 39), (197, 6, 57), (75, 0, 39), (75, 1, 57), (75, 2, 61)] : zW) xL_8 8 (some .boolean) xE_103 (xE_103.drop 66) [.ref 197, .ref 200, .int a2, .int a3, .int a4, .int a5, .int a6, .int a7, .null, .null, .null] [] s Q := by
  unfold v_103_66 at h
  refine zn_ld rfl rfl rfl ?_
  refine zn_brP rfl rfl ⟨fun hcn => ?_, fun hcn => ?_⟩
  · replace h := h.1 ((i_eq (x := a6) (y := 0) rfl (show (0 : Int32).toInt = 0 by decide)).mp hcn)
    replace h := h _ (i_add (x := a4) (y := 1) rfl (show (1 : Int32).toInt = 1 by decide))
    refine zn_inc [.ref 197, .ref 200, .int a2, .int a3, .int (a4 + 1), .int a5, .int a6, .int a7, .null, .null, .null] rfl rfl rfl rfl ?_
    refine zn_go rfl ?_
    refine zn_fg 5 ?_
    refine zn_fg 6 ?_
    refine zn_fg 7 ?_
    exact r11 a2 a3 (a4 + 1) s h
  · replace h := h.2 (fun q => hcn ((i_eq (x := a6) (y := 0) rfl (show (0 : Int32).toInt = 0 by decide)).mpr q))
    refine zn_c [.int 1] (xo_push (.int 1)) rfl rfl ?_
    exact zn_retZ rfl rfl h
set_option maxRecDepth 20000 in
theorem m_103_63_39e200 {d d0 : Nat} (hd : d = d0 + 8) {R11 : Int32 → Int32 → Int32 → zS → Prop} {R45 : Int32 → Int32 → Int32 → Int32 → Int32 → Int32 → zS → Prop} {a2 : Int32} {a3 : Int32} {a4 : Int32} {a5 : Int32} {a6 : Int32} {a7 : Int32} {t0 : Int32} {s : zS} {Q : Option Value → zS → Prop} (r11 : ∀ a2 a3 a4 s, R11 a2 a3 a4 s → Zn d [] [] ([(197, 5, 39), (197, 6, 57), (75, 0, 39), (75, 1, 57), (75, 2, 61)] : zW) ([(197, 5, 39), (197, 6, 57), (75, 0, 39), (75, 1, 57), (75, 2, 61)] : zW) xL_8 8 (some .boolean) xE_103 (xE_103.drop 11) [.ref 197, .ref 200, .int a2, .int a3, .int a4, .null, .null, .null, .null, .null, .null] [] s Q) (r45 : ∀ a2 a3 a4 a5 a6 a7 s, R45 a2 a3 a4 a5 a6 a7 s → Zn d [] [] ([(197, 5, 39), (197, 6, 57), (75, 0, 39), (75, 1, 57), (75, 2, 61)] : zW) ([(197, 5, 39), (197, 6, 57), (75, 0, 39), (75, 1, 57), (75, 2, 61)] : zW) xL_8 8 (some .boolean) xE_103 (xE_103.drop 45) [.ref 197, .ref 200, .int a2, .int a3, .int a4, .int a5, .int a6, .int a7, .null, .null, .null] [] s Q) (h : v_103_63 (fun j => Zt d (wd2 39 j) j) 39 200 R11 R45 a2 a3 a4 a5 a6 a7 t0 s Q) : Zn d [] [] ([(197, 5, 39), (197, 6, 57), (75, 0, 39), (75, 1, 57), (75, 2, 61)] : zW) ([(197, 5, 39), (197, 6, 57), (75, 0, 39), (75, 1, 57), (75, 2, 61)] : zW) xL_8 8 (some .boolean) xE_103 (xE_103.drop 63) [.ref 197, .ref 200, .int a2, .int a3, .int a4, .int a5, .int a6, .int a7, .null, .null, .null] [.int t0] s Q := by
  unfold v_103_63 at h
  refine zn_st [.ref 197, .ref 200, .int a2, .int a3, .int a4, .int a5, .int t0, .int a7, .null, .null, .null] rfl rfl rfl ?_
  replace h := h _ (i_add (x := a7) (y := 1) rfl (show (1 : Int32).toInt = 1 by decide))
  refine zn_inc [.ref 197, .ref 200, .int a2, .int a3, .int a4, .int a5, .int t0, .int (a7 + 1), .null, .null, .null] rfl rfl rfl rfl ?_
  refine zn_go rfl ?_
  exact r45 a2 a3 a4 a5 t0 (a7 + 1) s h
set_option maxRecDepth 20000 in
theorem m_103_45_39e200 {d d0 : Nat} (hd : d = d0 + 8) {R11 : Int32 → Int32 → Int32 → zS → Prop} {R45 : Int32 → Int32 → Int32 → Int32 → Int32 → Int32 → zS → Prop} {a2 : Int32} {a3 : Int32} {a4 : Int32} {a5 : Int32} {a6 : Int32} {a7 : Int32} {s : zS} {Q : Option Value → zS → Prop} (r11 : ∀ a2 a3 a4 s, R11 a2 a3 a4 s → Zn d [] [] ([(197, 5, 39), (197, 6, 57), (75, 0, 39), (75, 1, 57), (75, 2, 61)] : zW) ([(197, 5, 39), (197, 6, 57), (75, 0, 39), (75, 1, 57), (75, 2, 61)] : zW) xL_8 8 (some .boolean) xE_103 (xE_103.drop 11) [.ref 197, .ref 200, .int a2, .int a3, .int a4, .null, .null, .null, .null, .null, .null] [] s Q) (r45 : ∀ a2 a3 a4 a5 a6 a7 s, R45 a2 a3 a4 a5 a6 a7 s → Zn d [] [] ([(197, 5, 39), (197, 6, 57), (75, 0, 39), (75, 1, 57), (75, 2, 61)] : zW) ([(197, 5, 39), (197, 6, 57), (75, 0, 39), (75, 1, 57), (75, 2, 61)] : zW) xL_8 8 (some .boolean) xE_103 (xE_103.drop 45) [.ref 197, .ref 200, .int a2, .int a3, .int a4, .int a5, .int a6, .int a7, .null, .null, .null] [] s Q) (h : v_103_45 (fun j => Zt d (wd2 39 j) j) 39 200 R11 R45 a2 a3 a4 a5 a6 a7 s Q) : Zn d [] [] ([(197, 5, 39), (197, 6, 57), (75, 0, 39), (75, 1, 57), (75, 2, 61)] : zW) ([(197, 5, 39), (197, 6, 57), (75, 0, 39), (75, 1, 57), (75, 2, 61)] : zW) xL_8 8 (some .boolean) xE_103 (xE_103.drop 45) [.ref 197, .ref 200, .int a2, .int a3, .int a4, .int a5, .int a6, .int a7, .null, .null, .null] [] s Q := by
  unfold v_103_45 at h
  refine zn_ld rfl rfl rfl ?_
  refine zn_brP rfl rfl ⟨fun hcn => ?_, fun hcn => ?_⟩
  · replace h := h.1 ((i_eq (x := a6) (y := 0) rfl (show (0 : Int32).toInt = 0 by decide)).mp hcn)
    exact m_103_66_39e200 hd r11 h
  · replace h := h.2 (fun q => hcn ((i_eq (x := a6) (y := 0) rfl (show (0 : Int32).toInt = 0 by decide)).mpr q))
    refine zn_ld rfl rfl rfl ?_
    refine zn_c [.int 9, .int a7] (xo_push (.int 9)) rfl rfl ?_
    refine zn_brP rfl rfl ⟨fun hcn => ?_, fun hcn => ?_⟩
    · replace h := h.1 ((i_le (x := 9) (y := a7) (show (9 : Int32).toInt = 9 by decide) rfl).mp hcn)
      exact m_103_66_39e200 hd r11 h
    · replace h := h.2 (fun q => hcn ((i_le (x := 9) (y := a7) (show (9 : Int32).toInt = 9 by decide) rfl).mpr q))
      refine zn_ld rfl rfl rfl ?_
      refine zn_ld rfl rfl rfl ?_
      refine zn_ld rfl rfl rfl ?_
      replace h := h _ (i_add (x := a5) (y := a7) rfl rfl)
      refine zn_c [.int (a5 + a7), .ref 200] xo_iadd rfl rfl ?_
      refine zn_row (a5 + a7) [] (a := 200) hd rfl rfl rfl rfl ?_
      change Zn _ _ _ _ _ _ _ _ _ _ _ [.int (zg s 200 (a5 + a7))] _ _
      refine zn_ld rfl rfl rfl ?_
      refine zn_get (v := .ref 204) rfl (zv_R (a := 197) rfl rfl) ?_
      refine zn_ld rfl rfl rfl ?_
      refine zn_row a7 [.int (zg s 200 (a5 + a7))] (a := 204) hd rfl rfl rfl rfl ?_
      change Zn _ _ _ _ _ _ _ _ _ _ _ [.int (zg s 204 a7), .int (zg s 200 (a5 + a7))] _ _
      refine zn_brN rfl rfl ⟨fun hcn => ?_, fun hcn => ?_⟩
      · replace h := h.1 (fun q => hcn ((i_eq (x := zg s 200 (a5 + a7)) (y := zg s 204 a7) rfl rfl).mpr q))
        refine zn_c [.int 0] (xo_push (.int 0)) rfl rfl ?_
        exact m_103_63_39e200 hd r11 r45 h
      · replace h := h.2 ((i_eq (x := zg s 200 (a5 + a7)) (y := zg s 204 a7) rfl rfl).mp hcn)
        refine zn_c [.int 1] (xo_push (.int 1)) rfl rfl ?_
        refine zn_go rfl ?_
        exact m_103_63_39e200 hd r11 r45 h
theorem ml_103_45_39e200 {d d0 : Nat} (hd : d = d0 + 8) {R11 : Int32 → Int32 → Int32 → zS → Prop} {a2 : Int32} {a3 : Int32} {a4 : Int32} {a5 : Int32} {a6 : Int32} {a7 : Int32} {s : zS} {Q : Option Value → zS → Prop} (r11 : ∀ a2 a3 a4 s, R11 a2 a3 a4 s → Zn d [] [] ([(197, 5, 39), (197, 6, 57), (75, 0, 39), (75, 1, 57), (75, 2, 61)] : zW) ([(197, 5, 39), (197, 6, 57), (75, 0, 39), (75, 1, 57), (75, 2, 61)] : zW) xL_8 8 (some .boolean) xE_103 (xE_103.drop 11) [.ref 197, .ref 200, .int a2, .int a3, .int a4, .null, .null, .null, .null, .null, .null] [] s Q) (h : vl_103_45 (fun j => Zt d (wd2 39 j) j) 39 200 R11 a2 a3 a4 a5 a6 a7 s Q) : Zn d [] [] ([(197, 5, 39), (197, 6, 57), (75, 0, 39), (75, 1, 57), (75, 2, 61)] : zW) ([(197, 5, 39), (197, 6, 57), (75, 0, 39), (75, 1, 57), (75, 2, 61)] : zW) xL_8 8 (some .boolean) xE_103 (xE_103.drop 45) [.ref 197, .ref 200, .int a2, .int a3, .int a4, .int a5, .int a6, .int a7, .null, .null, .null] [] s Q := by
  obtain ⟨I, μ, h0, h1⟩ := h
  have key : ∀ (n : Nat) (a2 : Int32) (a3 : Int32) (a4 : Int32) (a5 : Int32) (a6 : Int32) (a7 : Int32) (s : zS), μ a2 a3 a4 a5 a6 a7 s = n → I a2 a3 a4 a5 a6 a7 s → Zn d [] [] ([(197, 5, 39), (197, 6, 57), (75, 0, 39), (75, 1, 57), (75, 2, 61)] : zW) ([(197, 5, 39), (197, 6, 57), (75, 0, 39), (75, 1, 57), (75, 2, 61)] : zW) xL_8 8 (some .boolean) xE_103 (xE_103.drop 45) [.ref 197, .ref 200, .int a2, .int a3, .int a4, .int a5, .int a6, .int a7, .null, .null, .null] [] s Q := by
    intro n
    induction n using Nat.strongRecOn with
    | ind n ih =>
      intro a2 a3 a4 a5 a6 a7 s e hI
      exact m_103_45_39e200 hd r11 (fun a2' a3' a4' a5' a6' a7' s' q => ih _ (by rw [← e]; exact q.2) a2' a3' a4' a5' a6' a7' s' rfl q.1) (h1 a2 a3 a4 a5 a6 a7 s hI)
  exact key _ a2 a3 a4 a5 a6 a7 s rfl h0
set_option maxRecDepth 20000 in
theorem m_103_42_39e200 {d d0 : Nat} (hd : d = d0 + 8) {R11 : Int32 → Int32 → Int32 → zS → Prop} {a2 : Int32} {a3 : Int32} {a4 : Int32} {a5 : Int32} {t0 : Int32} {s : zS} {Q : Option Value → zS → Prop} (r11 : ∀ a2 a3 a4 s, R11 a2 a3 a4 s → Zn d [] [] ([(197, 5, 39), (197, 6, 57), (75, 0, 39), (75, 1, 57), (75, 2, 61)] : zW) ([(197, 5, 39), (197, 6, 57), (75, 0, 39), (75, 1, 57), (75, 2, 61)] : zW) xL_8 8 (some .boolean) xE_103 (xE_103.drop 11) [.ref 197, .ref 200, .int a2, .int a3, .int a4, .null, .null, .null, .null, .null, .null] [] s Q) (h : v_103_42 (fun j => Zt d (wd2 39 j) j) 39 200 R11 a2 a3 a4 a5 t0 s Q) : Zn d [] [] ([(197, 5, 39), (197, 6, 57), (75, 0, 39), (75, 1, 57), (75, 2, 61)] : zW) ([(197, 5, 39), (197, 6, 57), (75, 0, 39), (75, 1, 57), (75, 2, 61)] : zW) xL_8 8 (some .boolean) xE_103 (xE_103.drop 42) [.ref 197, .ref 200, .int a2, .int a3, .int a4, .int a5, .null, .null, .null, .null, .null] [.int t0] s Q := by
  unfold v_103_42 at h
  refine zn_st [.ref 197, .ref 200, .int a2, .int a3, .int a4, .int a5, .int t0, .null, .null, .null, .null] rfl rfl rfl ?_
  refine zn_c [.int 2] (xo_push (.int 2)) rfl rfl ?_
  refine zn_st [.ref 197, .ref 200, .int a2, .int a3, .int a4, .int a5, .int t0, .int 2, .null, .null, .null] rfl rfl rfl ?_
  exact ml_103_45_39e200 hd r11 h
set_option maxRecDepth 20000 in
theorem m_103_41_39e200 {d d0 : Nat} (hd : d = d0 + 8) {R11 : Int32 → Int32 → Int32 → zS → Prop} {a2 : Int32} {a3 : Int32} {a4 : Int32} {a5 : Int32} {s : zS} {Q : Option Value → zS → Prop} (r11 : ∀ a2 a3 a4 s, R11 a2 a3 a4 s → Zn d [] [] ([(197, 5, 39), (197, 6, 57), (75, 0, 39), (75, 1, 57), (75, 2, 61)] : zW) ([(197, 5, 39), (197, 6, 57), (75, 0, 39), (75, 1, 57), (75, 2, 61)] : zW) xL_8 8 (some .boolean) xE_103 (xE_103.drop 11) [.ref 197, .ref 200, .int a2, .int a3, .int a4, .null, .null, .null, .null, .null, .null] [] s Q) (h : v_103_41 (fun j => Zt d (wd2 39 j) j) 39 200 R11 a2 a3 a4 a5 s Q) : Zn d [] [] ([(197, 5, 39), (197, 6, 57), (75, 0, 39), (75, 1, 57), (75, 2, 61)] : zW) ([(197, 5, 39), (197, 6, 57), (75, 0, 39), (75, 1, 57), (75, 2, 61)] : zW) xL_8 8 (some .boolean) xE_103 (xE_103.drop 41) [.ref 197, .ref 200, .int a2, .int a3, .int a4, .int a5, .null, .null, .null, .null, .null] [] s Q := by
  unfold v_103_41 at h
  refine zn_c [.int 0] (xo_push (.int 0)) rfl rfl ?_
  exact m_103_42_39e200 hd r11 h
set_option maxRecDepth 20000 in
theorem m_103_11_39e200 {d d0 : Nat} (hd : d = d0 + 8) {R11 : Int32 → Int32 → Int32 → zS → Prop} {a2 : Int32} {a3 : Int32} {a4 : Int32} {s : zS} {Q : Option Value → zS → Prop} (r11 : ∀ a2 a3 a4 s, R11 a2 a3 a4 s → Zn d [] [] ([(197, 5, 39), (197, 6, 57), (75, 0, 39), (75, 1, 57), (75, 2, 61)] : zW) ([(197, 5, 39), (197, 6, 57), (75, 0, 39), (75, 1, 57), (75, 2, 61)] : zW) xL_8 8 (some .boolean) xE_103 (xE_103.drop 11) [.ref 197, .ref 200, .int a2, .int a3, .int a4, .null, .null, .null, .null, .null, .null] [] s Q) (h : v_103_11 (fun j => Zt d (wd2 39 j) j) 39 200 R11 a2 a3 a4 s Q) : Zn d [] [] ([(197, 5, 39), (197, 6, 57), (75, 0, 39), (75, 1, 57), (75, 2, 61)] : zW) ([(197, 5, 39), (197, 6, 57), (75, 0, 39), (75, 1, 57), (75, 2, 61)] : zW) xL_8 8 (some .boolean) xE_103 (xE_103.drop 11) [.ref 197, .ref 200, .int a2, .int a3, .int a4, .null, .null, .null, .null, .null, .null] [] s Q := by
  unfold v_103_11 at h
  refine zn_ld rfl rfl rfl ?_
  refine zn_ld rfl rfl rfl ?_
  refine zn_brP rfl rfl ⟨fun hcn => ?_, fun hcn => ?_⟩
  · replace h := h.1 ((i_le (x := a3) (y := a4) rfl rfl).mp hcn)
    refine zn_c [.int 0] (xo_push (.int 0)) rfl rfl ?_
    exact zn_retZ rfl rfl h
  · replace h := h.2 (fun q => hcn ((i_le (x := a3) (y := a4) rfl rfl).mpr q))
    refine zn_ld rfl rfl rfl ?_
    refine zn_ld rfl rfl rfl ?_
    replace h := h _ (i_mul (x := a4) (y := a2) rfl rfl)
    refine zn_c [.int (a4 * a2)] xo_imul rfl rfl ?_
    refine zn_st [.ref 197, .ref 200, .int a2, .int a3, .int a4, .int (a4 * a2), .null, .null, .null, .null, .null] rfl rfl rfl ?_
    refine zn_ld rfl rfl rfl ?_
    refine zn_ld rfl rfl rfl ?_
    refine zn_c [.int 1, .int (a4 * a2), .ref 200] (xo_push (.int 1)) rfl rfl ?_
    replace h := h _ (i_add (x := (a4 * a2)) (y := 1) rfl (show (1 : Int32).toInt = 1 by decide))
    refine zn_c [.int ((a4 * a2) + 1), .ref 200] xo_iadd rfl rfl ?_
    refine zn_row ((a4 * a2) + 1) [] (a := 200) hd rfl rfl rfl rfl ?_
    change Zn _ _ _ _ _ _ _ _ _ _ _ [.int (zg s 200 ((a4 * a2) + 1))] _ _
    refine zn_ld rfl rfl rfl ?_
    refine zn_get (v := .ref 204) rfl (zv_R (a := 197) rfl rfl) ?_
    refine zn_c [.int 1, .ref 204, .int (zg s 200 ((a4 * a2) + 1))] (xo_push (.int 1)) rfl rfl ?_
    refine zn_row 1 [.int (zg s 200 ((a4 * a2) + 1))] (a := 204) hd rfl rfl rfl rfl ?_
    change Zn _ _ _ _ _ _ _ _ _ _ _ [.int (zg s 204 1), .int (zg s 200 ((a4 * a2) + 1))] _ _
    refine zn_brN rfl rfl ⟨fun hcn => ?_, fun hcn => ?_⟩
    · replace h := h.1 (fun q => hcn ((i_eq (x := zg s 200 ((a4 * a2) + 1)) (y := zg s 204 1) rfl rfl).mpr q))
      exact m_103_41_39e200 hd r11 h
    · replace h := h.2 ((i_eq (x := zg s 200 ((a4 * a2) + 1)) (y := zg s 204 1) rfl rfl).mp hcn)
      refine zn_ld rfl rfl rfl ?_
      refine zn_get (v := .ref 75) rfl (zv_R (a := 197) rfl rfl) ?_
      refine zn_ld rfl rfl rfl ?_
      refine zn_ld rfl rfl rfl ?_
      refine zn_row (a4 * a2) [.ref 75] (a := 200) hd rfl rfl rfl rfl ?_
      change Zn _ _ _ _ _ _ _ _ _ _ _ [.int (zg s 200 (a4 * a2)), .ref 75] _ _
      refine zn_ld rfl rfl rfl ?_
      refine zn_get (v := .ref 204) rfl (zv_R (a := 197) rfl rfl) ?_
      refine zn_c [.int 0, .ref 204, .int (zg s 200 (a4 * a2)), .ref 75] (xo_push (.int 0)) rfl rfl ?_
      refine zn_row 0 [.int (zg s 200 (a4 * a2)), .ref 75] (a := 204) hd rfl rfl rfl rfl ?_
      change Zn _ _ _ _ _ _ _ _ _ _ _ [.int (zg s 204 0), .int (zg s 200 (a4 * a2)), .ref 75] _ _
      refine zn_zt [.ref 75, .int (zg s 200 (a4 * a2)), .int (zg s 204 0)] [] rfl rfl rfl rfl rfl (Zt.imp h (fun v3 s4 h => ?_))
      obtain ⟨x5, rfl, h⟩ := h
      change Zn _ _ _ _ _ _ _ _ _ _ _ [.int x5] _ _
      refine zn_brP rfl rfl ⟨fun hcn => ?_, fun hcn => ?_⟩
      · replace h := h.1 ((i_eq (x := x5) (y := 0) rfl (show (0 : Int32).toInt = 0 by decide)).mp hcn)
        exact m_103_41_39e200 hd r11 h
      · replace h := h.2 (fun q => hcn ((i_eq (x := x5) (y := 0) rfl (show (0 : Int32).toInt = 0 by decide)).mpr q))
        refine zn_c [.int 1] (xo_push (.int 1)) rfl rfl ?_
        refine zn_go rfl ?_
        exact m_103_42_39e200 hd r11 h
theorem ml_103_11_39e200 {d d0 : Nat} (hd : d = d0 + 8)  {a2 : Int32} {a3 : Int32} {a4 : Int32} {s : zS} {Q : Option Value → zS → Prop}  (h : vl_103_11 (fun j => Zt d (wd2 39 j) j) 39 200  a2 a3 a4 s Q) : Zn d [] [] ([(197, 5, 39), (197, 6, 57), (75, 0, 39), (75, 1, 57), (75, 2, 61)] : zW) ([(197, 5, 39), (197, 6, 57), (75, 0, 39), (75, 1, 57), (75, 2, 61)] : zW) xL_8 8 (some .boolean) xE_103 (xE_103.drop 11) [.ref 197, .ref 200, .int a2, .int a3, .int a4, .null, .null, .null, .null, .null, .null] [] s Q := by
  obtain ⟨I, μ, h0, h1⟩ := h
  have key : ∀ (n : Nat) (a2 : Int32) (a3 : Int32) (a4 : Int32) (s : zS), μ a2 a3 a4 s = n → I a2 a3 a4 s → Zn d [] [] ([(197, 5, 39), (197, 6, 57), (75, 0, 39), (75, 1, 57), (75, 2, 61)] : zW) ([(197, 5, 39), (197, 6, 57), (75, 0, 39), (75, 1, 57), (75, 2, 61)] : zW) xL_8 8 (some .boolean) xE_103 (xE_103.drop 11) [.ref 197, .ref 200, .int a2, .int a3, .int a4, .null, .null, .null, .null, .null, .null] [] s Q := by
    intro n
    induction n using Nat.strongRecOn with
    | ind n ih =>
      intro a2 a3 a4 s e hI
      exact m_103_11_39e200 hd (fun a2' a3' a4' s' q => ih _ (by rw [← e]; exact q.2) a2' a3' a4' s' rfl q.1) (h1 a2 a3 a4 s hI)
  exact key _ a2 a3 a4 s rfl h0
set_option maxRecDepth 20000 in
theorem m_103_8_39e200 {d d0 : Nat} (hd : d = d0 + 8)  {a2 : Int32} {t0 : Int32} {s : zS} {Q : Option Value → zS → Prop}  (h : v_103_8 (fun j => Zt d (wd2 39 j) j) 39 200  a2 t0 s Q) : Zn d [] [] ([(197, 5, 39), (197, 6, 57), (75, 0, 39), (75, 1, 57), (75, 2, 61)] : zW) ([(197, 5, 39), (197, 6, 57), (75, 0, 39), (75, 1, 57), (75, 2, 61)] : zW) xL_8 8 (some .boolean) xE_103 (xE_103.drop 8) [.ref 197, .ref 200, .int a2, .null, .null, .null, .null, .null, .null, .null, .null] [.int t0] s Q := by
  unfold v_103_8 at h
  refine zn_st [.ref 197, .ref 200, .int a2, .int t0, .null, .null, .null, .null, .null, .null, .null] rfl rfl rfl ?_
  refine zn_c [.int 0] (xo_push (.int 0)) rfl rfl ?_
  refine zn_st [.ref 197, .ref 200, .int a2, .int t0, .int 0, .null, .null, .null, .null, .null, .null] rfl rfl rfl ?_
  exact ml_103_11_39e200 hd  h
set_option maxRecDepth 20000 in
theorem m_103_0_39e200 {d d0 : Nat} (hd : d = d0 + 8)  {a2 : Int32} {s : zS} {Q : Option Value → zS → Prop}  (h : v_103_0 (fun j => Zt d (wd2 39 j) j) 39 200  a2 s Q) : Zn d [] [] ([(197, 5, 39), (197, 6, 57), (75, 0, 39), (75, 1, 57), (75, 2, 61)] : zW) ([(197, 5, 39), (197, 6, 57), (75, 0, 39), (75, 1, 57), (75, 2, 61)] : zW) xL_8 8 (some .boolean) xE_103 (xE_103.drop 0) [.ref 197, .ref 200, .int a2, .null, .null, .null, .null, .null, .null, .null, .null] [] s Q := by
  unfold v_103_0 at h
  refine zn_ld rfl rfl rfl ?_
  refine zn_brP rfl rfl ⟨fun hcn => ?_, fun hcn => ?_⟩
  · replace h := h.1 ((i_le (x := a2) (y := 0) rfl (show (0 : Int32).toInt = 0 by decide)).mp hcn)
    refine zn_c [.int 0] (xo_push (.int 0)) rfl rfl ?_
    exact m_103_8_39e200 hd  h
  · replace h := h.2 (fun q => hcn ((i_le (x := a2) (y := 0) rfl (show (0 : Int32).toInt = 0 by decide)).mpr q))
    refine zn_ld rfl rfl rfl ?_
    refine zn_get (v := .int (s.1 200 2)) rfl (zv_I (a := 200) rfl rfl) ?_
    refine zn_ld rfl rfl rfl ?_
    obtain ⟨hnz, h⟩ := h
    replace h := h ((s.1 200 2) / a2)
    refine zn_c [.int ((s.1 200 2) / a2)] xo_idiv rfl (o_idiv (fun q => hnz (by rw [q]; rfl))) ?_
    refine zn_go rfl ?_
    exact m_103_8_39e200 hd  h
theorem zq_103_39e200 {d : Nat} {a2 : Int32} {s : zS} {Q : Option Value → zS → Prop} (h : v_103_0 (fun j => Zt (d + 8) (wd2 39 j) j) 39 200 a2 s Q) : Zt (d + 9) ([(197, 5, 39), (197, 6, 57), (75, 0, 39), (75, 1, 57), (75, 2, 61)] : zW) 103 [.ref 197, .ref 200, .int a2] s Q := zt_of (E := xE_103) (L := xL_8) (ml := 8) (ret := some .boolean) rfl rfl rfl (m_103_0_39e200 rfl h)
set_option maxRecDepth 20000 in
theorem m_103_66_39e202 {d d0 : Nat} (hd : d = d0 + 8) {R11 : Int32 → Int32 → Int32 → zS → Prop} {a2 : Int32} {a3 : Int32} {a4 : Int32} {a5 : Int32} {a6 : Int32} {a7 : Int32} {s : zS} {Q : Option Value → zS → Prop} (r11 : ∀ a2 a3 a4 s, R11 a2 a3 a4 s → Zn d [] [] ([(197, 5, 39), (197, 6, 57), (75, 0, 39), (75, 1, 57), (75, 2, 61)] : zW) ([(197, 5, 39), (197, 6, 57), (75, 0, 39), (75, 1, 57), (75, 2, 61)] : zW) xL_8 8 (some .boolean) xE_103 (xE_103.drop 11) [.ref 197, .ref 202, .int a2, .int a3, .int a4, .null, .null, .null, .null, .null, .null] [] s Q) (h : v_103_66 (fun j => Zt d (wd2 39 j) j) 39 202 R11 a2 a3 a4 a5 a6 a7 s Q) : Zn d [] [] ([(197, 5, 39), (197, 6, 57), (75, 0, 39), (75, 1, 57), (75, 2, 61)] : zW) ([(197, 5, 39), (197, 6, 57), (75, 0, 39), (75, 1, 57), (75, 2, 61)] : zW) xL_8 8 (some .boolean) xE_103 (xE_103.drop 66) [.ref 197, .ref 202, .int a2, .int a3, .int a4, .int a5, .int a6, .int a7, .null, .null, .null] [] s Q := by
  unfold v_103_66 at h
  refine zn_ld rfl rfl rfl ?_
  refine zn_brP rfl rfl ⟨fun hcn => ?_, fun hcn => ?_⟩
  · replace h := h.1 ((i_eq (x := a6) (y := 0) rfl (show (0 : Int32).toInt = 0 by decide)).mp hcn)
    replace h := h _ (i_add (x := a4) (y := 1) rfl (show (1 : Int32).toInt = 1 by decide))
    refine zn_inc [.ref 197, .ref 202, .int a2, .int a3, .int (a4 + 1), .int a5, .int a6, .int a7, .null, .null, .null] rfl rfl rfl rfl ?_
    refine zn_go rfl ?_
    refine zn_fg 5 ?_
    refine zn_fg 6 ?_
    refine zn_fg 7 ?_
    exact r11 a2 a3 (a4 + 1) s h
  · replace h := h.2 (fun q => hcn ((i_eq (x := a6) (y := 0) rfl (show (0 : Int32).toInt = 0 by decide)).mpr q))
    refine zn_c [.int 1] (xo_push (.int 1)) rfl rfl ?_
    exact zn_retZ rfl rfl h
set_option maxRecDepth 20000 in
theorem m_103_63_39e202 {d d0 : Nat} (hd : d = d0 + 8) {R11 : Int32 → Int32 → Int32 → zS → Prop} {R45 : Int32 → Int32 → Int32 → Int32 → Int32 → Int32 → zS → Prop} {a2 : Int32} {a3 : Int32} {a4 : Int32} {a5 : Int32} {a6 : Int32} {a7 : Int32} {t0 : Int32} {s : zS} {Q : Option Value → zS → Prop} (r11 : ∀ a2 a3 a4 s, R11 a2 a3 a4 s → Zn d [] [] ([(197, 5, 39), (197, 6, 57), (75, 0, 39), (75, 1, 57), (75, 2, 61)] : zW) ([(197, 5, 39), (197, 6, 57), (75, 0, 39), (75, 1, 57), (75, 2, 61)] : zW) xL_8 8 (some .boolean) xE_103 (xE_103.drop 11) [.ref 197, .ref 202, .int a2, .int a3, .int a4, .null, .null, .null, .null, .null, .null] [] s Q) (r45 : ∀ a2 a3 a4 a5 a6 a7 s, R45 a2 a3 a4 a5 a6 a7 s → Zn d [] [] ([(197, 5, 39), (197, 6, 57), (75, 0, 39), (75, 1, 57), (75, 2, 61)] : zW) ([(197, 5, 39), (197, 6, 57), (75, 0, 39), (75, 1, 57), (75, 2, 61)] : zW) xL_8 8 (some .boolean) xE_103 (xE_103.drop 45) [.ref 197, .ref 202, .int a2, .int a3, .int a4, .int a5, .int a6, .int a7, .null, .null, .null] [] s Q) (h : v_103_63 (fun j => Zt d (wd2 39 j) j) 39 202 R11 R45 a2 a3 a4 a5 a6 a7 t0 s Q) : Zn d [] [] ([(197, 5, 39), (197, 6, 57), (75, 0, 39), (75, 1, 57), (75, 2, 61)] : zW) ([(197, 5, 39), (197, 6, 57), (75, 0, 39), (75, 1, 57), (75, 2, 61)] : zW) xL_8 8 (some .boolean) xE_103 (xE_103.drop 63) [.ref 197, .ref 202, .int a2, .int a3, .int a4, .int a5, .int a6, .int a7, .null, .null, .null] [.int t0] s Q := by
  unfold v_103_63 at h
  refine zn_st [.ref 197, .ref 202, .int a2, .int a3, .int a4, .int a5, .int t0, .int a7, .null, .null, .null] rfl rfl rfl ?_
  replace h := h _ (i_add (x := a7) (y := 1) rfl (show (1 : Int32).toInt = 1 by decide))
  refine zn_inc [.ref 197, .ref 202, .int a2, .int a3, .int a4, .int a5, .int t0, .int (a7 + 1), .null, .null, .null] rfl rfl rfl rfl ?_
  refine zn_go rfl ?_
  exact r45 a2 a3 a4 a5 t0 (a7 + 1) s h
set_option maxRecDepth 20000 in
theorem m_103_45_39e202 {d d0 : Nat} (hd : d = d0 + 8) {R11 : Int32 → Int32 → Int32 → zS → Prop} {R45 : Int32 → Int32 → Int32 → Int32 → Int32 → Int32 → zS → Prop} {a2 : Int32} {a3 : Int32} {a4 : Int32} {a5 : Int32} {a6 : Int32} {a7 : Int32} {s : zS} {Q : Option Value → zS → Prop} (r11 : ∀ a2 a3 a4 s, R11 a2 a3 a4 s → Zn d [] [] ([(197, 5, 39), (197, 6, 57), (75, 0, 39), (75, 1, 57), (75, 2, 61)] : zW) ([(197, 5, 39), (197, 6, 57), (75, 0, 39), (75, 1, 57), (75, 2, 61)] : zW) xL_8 8 (some .boolean) xE_103 (xE_103.drop 11) [.ref 197, .ref 202, .int a2, .int a3, .int a4, .null, .null, .null, .null, .null, .null] [] s Q) (r45 : ∀ a2 a3 a4 a5 a6 a7 s, R45 a2 a3 a4 a5 a6 a7 s → Zn d [] [] ([(197, 5, 39), (197, 6, 57), (75, 0, 39), (75, 1, 57), (75, 2, 61)] : zW) ([(197, 5, 39), (197, 6, 57), (75, 0, 39), (75, 1, 57), (75, 2, 61)] : zW) xL_8 8 (some .boolean) xE_103 (xE_103.drop 45) [.ref 197, .ref 202, .int a2, .int a3, .int a4, .int a5, .int a6, .int a7, .null, .null, .null] [] s Q) (h : v_103_45 (fun j => Zt d (wd2 39 j) j) 39 202 R11 R45 a2 a3 a4 a5 a6 a7 s Q) : Zn d [] [] ([(197, 5, 39), (197, 6, 57), (75, 0, 39), (75, 1, 57), (75, 2, 61)] : zW) ([(197, 5, 39), (197, 6, 57), (75, 0, 39), (75, 1, 57), (75, 2, 61)] : zW) xL_8 8 (some .boolean) xE_103 (xE_103.drop 45) [.ref 197, .ref 202, .int a2, .int a3, .int a4, .int a5, .int a6, .int a7, .null, .null, .null] [] s Q := by
  unfold v_103_45 at h
  refine zn_ld rfl rfl rfl ?_
  refine zn_brP rfl rfl ⟨fun hcn => ?_, fun hcn => ?_⟩
  · replace h := h.1 ((i_eq (x := a6) (y := 0) rfl (show (0 : Int32).toInt = 0 by decide)).mp hcn)
    exact m_103_66_39e202 hd r11 h
  · replace h := h.2 (fun q => hcn ((i_eq (x := a6) (y := 0) rfl (show (0 : Int32).toInt = 0 by decide)).mpr q))
    refine zn_ld rfl rfl rfl ?_
    refine zn_c [.int 9, .int a7] (xo_push (.int 9)) rfl rfl ?_
    refine zn_brP rfl rfl ⟨fun hcn => ?_, fun hcn => ?_⟩
    · replace h := h.1 ((i_le (x := 9) (y := a7) (show (9 : Int32).toInt = 9 by decide) rfl).mp hcn)
      exact m_103_66_39e202 hd r11 h
    · replace h := h.2 (fun q => hcn ((i_le (x := 9) (y := a7) (show (9 : Int32).toInt = 9 by decide) rfl).mpr q))
      refine zn_ld rfl rfl rfl ?_
      refine zn_ld rfl rfl rfl ?_
      refine zn_ld rfl rfl rfl ?_
      replace h := h _ (i_add (x := a5) (y := a7) rfl rfl)
      refine zn_c [.int (a5 + a7), .ref 202] xo_iadd rfl rfl ?_
      refine zn_row (a5 + a7) [] (a := 202) hd rfl rfl rfl rfl ?_
      change Zn _ _ _ _ _ _ _ _ _ _ _ [.int (zg s 202 (a5 + a7))] _ _
      refine zn_ld rfl rfl rfl ?_
      refine zn_get (v := .ref 204) rfl (zv_R (a := 197) rfl rfl) ?_
      refine zn_ld rfl rfl rfl ?_
      refine zn_row a7 [.int (zg s 202 (a5 + a7))] (a := 204) hd rfl rfl rfl rfl ?_
      change Zn _ _ _ _ _ _ _ _ _ _ _ [.int (zg s 204 a7), .int (zg s 202 (a5 + a7))] _ _
      refine zn_brN rfl rfl ⟨fun hcn => ?_, fun hcn => ?_⟩
      · replace h := h.1 (fun q => hcn ((i_eq (x := zg s 202 (a5 + a7)) (y := zg s 204 a7) rfl rfl).mpr q))
        refine zn_c [.int 0] (xo_push (.int 0)) rfl rfl ?_
        exact m_103_63_39e202 hd r11 r45 h
      · replace h := h.2 ((i_eq (x := zg s 202 (a5 + a7)) (y := zg s 204 a7) rfl rfl).mp hcn)
        refine zn_c [.int 1] (xo_push (.int 1)) rfl rfl ?_
        refine zn_go rfl ?_
        exact m_103_63_39e202 hd r11 r45 h
theorem ml_103_45_39e202 {d d0 : Nat} (hd : d = d0 + 8) {R11 : Int32 → Int32 → Int32 → zS → Prop} {a2 : Int32} {a3 : Int32} {a4 : Int32} {a5 : Int32} {a6 : Int32} {a7 : Int32} {s : zS} {Q : Option Value → zS → Prop} (r11 : ∀ a2 a3 a4 s, R11 a2 a3 a4 s → Zn d [] [] ([(197, 5, 39), (197, 6, 57), (75, 0, 39), (75, 1, 57), (75, 2, 61)] : zW) ([(197, 5, 39), (197, 6, 57), (75, 0, 39), (75, 1, 57), (75, 2, 61)] : zW) xL_8 8 (some .boolean) xE_103 (xE_103.drop 11) [.ref 197, .ref 202, .int a2, .int a3, .int a4, .null, .null, .null, .null, .null, .null] [] s Q) (h : vl_103_45 (fun j => Zt d (wd2 39 j) j) 39 202 R11 a2 a3 a4 a5 a6 a7 s Q) : Zn d [] [] ([(197, 5, 39), (197, 6, 57), (75, 0, 39), (75, 1, 57), (75, 2, 61)] : zW) ([(197, 5, 39), (197, 6, 57), (75, 0, 39), (75, 1, 57), (75, 2, 61)] : zW) xL_8 8 (some .boolean) xE_103 (xE_103.drop 45) [.ref 197, .ref 202, .int a2, .int a3, .int a4, .int a5, .int a6, .int a7, .null, .null, .null] [] s Q := by
  obtain ⟨I, μ, h0, h1⟩ := h
  have key : ∀ (n : Nat) (a2 : Int32) (a3 : Int32) (a4 : Int32) (a5 : Int32) (a6 : Int32) (a7 : Int32) (s : zS), μ a2 a3 a4 a5 a6 a7 s = n → I a2 a3 a4 a5 a6 a7 s → Zn d [] [] ([(197, 5, 39), (197, 6, 57), (75, 0, 39), (75, 1, 57), (75, 2, 61)] : zW) ([(197, 5, 39), (197, 6, 57), (75, 0, 39), (75, 1, 57), (75, 2, 61)] : zW) xL_8 8 (some .boolean) xE_103 (xE_103.drop 45) [.ref 197, .ref 202, .int a2, .int a3, .int a4, .int a5, .int a6, .int a7, .null, .null, .null] [] s Q := by
    intro n
    induction n using Nat.strongRecOn with
    | ind n ih =>
      intro a2 a3 a4 a5 a6 a7 s e hI
      exact m_103_45_39e202 hd r11 (fun a2' a3' a4' a5' a6' a7' s' q => ih _ (by rw [← e]; exact q.2) a2' a3' a4' a5' a6' a7' s' rfl q.1) (h1 a2 a3 a4 a5 a6 a7 s hI)
  exact key _ a2 a3 a4 a5 a6 a7 s rfl h0
set_option maxRecDepth 20000 in
theorem m_103_42_39e202 {d d0 : Nat} (hd : d = d0 + 8) {R11 : Int32 → Int32 → Int32 → zS → Prop} {a2 : Int32} {a3 : Int32} {a4 : Int32} {a5 : Int32} {t0 : Int32} {s : zS} {Q : Option Value → zS → Prop} (r11 : ∀ a2 a3 a4 s, R11 a2 a3 a4 s → Zn d [] [] ([(197, 5, 39), (197, 6, 57), (75, 0, 39), (75, 1, 57), (75, 2, 61)] : zW) ([(197, 5, 39), (197, 6, 57), (75, 0, 39), (75, 1, 57), (75, 2, 61)] : zW) xL_8 8 (some .boolean) xE_103 (xE_103.drop 11) [.ref 197, .ref 202, .int a2, .int a3, .int a4, .null, .null, .null, .null, .null, .null] [] s Q) (h : v_103_42 (fun j => Zt d (wd2 39 j) j) 39 202 R11 a2 a3 a4 a5 t0 s Q) : Zn d [] [] ([(197, 5, 39), (197, 6, 57), (75, 0, 39), (75, 1, 57), (75, 2, 61)] : zW) ([(197, 5, 39), (197, 6, 57), (75, 0, 39), (75, 1, 57), (75, 2, 61)] : zW) xL_8 8 (some .boolean) xE_103 (xE_103.drop 42) [.ref 197, .ref 202, .int a2, .int a3, .int a4, .int a5, .null, .null, .null, .null, .null] [.int t0] s Q := by
  unfold v_103_42 at h
  refine zn_st [.ref 197, .ref 202, .int a2, .int a3, .int a4, .int a5, .int t0, .null, .null, .null, .null] rfl rfl rfl ?_
  refine zn_c [.int 2] (xo_push (.int 2)) rfl rfl ?_
  refine zn_st [.ref 197, .ref 202, .int a2, .int a3, .int a4, .int a5, .int t0, .int 2, .null, .null, .null] rfl rfl rfl ?_
  exact ml_103_45_39e202 hd r11 h
set_option maxRecDepth 20000 in
theorem m_103_41_39e202 {d d0 : Nat} (hd : d = d0 + 8) {R11 : Int32 → Int32 → Int32 → zS → Prop} {a2 : Int32} {a3 : Int32} {a4 : Int32} {a5 : Int32} {s : zS} {Q : Option Value → zS → Prop} (r11 : ∀ a2 a3 a4 s, R11 a2 a3 a4 s → Zn d [] [] ([(197, 5, 39), (197, 6, 57), (75, 0, 39), (75, 1, 57), (75, 2, 61)] : zW) ([(197, 5, 39), (197, 6, 57), (75, 0, 39), (75, 1, 57), (75, 2, 61)] : zW) xL_8 8 (some .boolean) xE_103 (xE_103.drop 11) [.ref 197, .ref 202, .int a2, .int a3, .int a4, .null, .null, .null, .null, .null, .null] [] s Q) (h : v_103_41 (fun j => Zt d (wd2 39 j) j) 39 202 R11 a2 a3 a4 a5 s Q) : Zn d [] [] ([(197, 5, 39), (197, 6, 57), (75, 0, 39), (75, 1, 57), (75, 2, 61)] : zW) ([(197, 5, 39), (197, 6, 57), (75, 0, 39), (75, 1, 57), (75, 2, 61)] : zW) xL_8 8 (some .boolean) xE_103 (xE_103.drop 41) [.ref 197, .ref 202, .int a2, .int a3, .int a4, .int a5, .null, .null, .null, .null, .null] [] s Q := by
  unfold v_103_41 at h
  refine zn_c [.int 0] (xo_push (.int 0)) rfl rfl ?_
  exact m_103_42_39e202 hd r11 h
set_option maxRecDepth 20000 in
theorem m_103_11_39e202 {d d0 : Nat} (hd : d = d0 + 8) {R11 : Int32 → Int32 → Int32 → zS → Prop} {a2 : Int32} {a3 : Int32} {a4 : Int32} {s : zS} {Q : Option Value → zS → Prop} (r11 : ∀ a2 a3 a4 s, R11 a2 a3 a4 s → Zn d [] [] ([(197, 5, 39), (197, 6, 57), (75, 0, 39), (75, 1, 57), (75, 2, 61)] : zW) ([(197, 5, 39), (197, 6, 57), (75, 0, 39), (75, 1, 57), (75, 2, 61)] : zW) xL_8 8 (some .boolean) xE_103 (xE_103.drop 11) [.ref 197, .ref 202, .int a2, .int a3, .int a4, .null, .null, .null, .null, .null, .null] [] s Q) (h : v_103_11 (fun j => Zt d (wd2 39 j) j) 39 202 R11 a2 a3 a4 s Q) : Zn d [] [] ([(197, 5, 39), (197, 6, 57), (75, 0, 39), (75, 1, 57), (75, 2, 61)] : zW) ([(197, 5, 39), (197, 6, 57), (75, 0, 39), (75, 1, 57), (75, 2, 61)] : zW) xL_8 8 (some .boolean) xE_103 (xE_103.drop 11) [.ref 197, .ref 202, .int a2, .int a3, .int a4, .null, .null, .null, .null, .null, .null] [] s Q := by
  unfold v_103_11 at h
  refine zn_ld rfl rfl rfl ?_
  refine zn_ld rfl rfl rfl ?_
  refine zn_brP rfl rfl ⟨fun hcn => ?_, fun hcn => ?_⟩
  · replace h := h.1 ((i_le (x := a3) (y := a4) rfl rfl).mp hcn)
    refine zn_c [.int 0] (xo_push (.int 0)) rfl rfl ?_
    exact zn_retZ rfl rfl h
  · replace h := h.2 (fun q => hcn ((i_le (x := a3) (y := a4) rfl rfl).mpr q))
    refine zn_ld rfl rfl rfl ?_
    refine zn_ld rfl rfl rfl ?_
    replace h := h _ (i_mul (x := a4) (y := a2) rfl rfl)
    refine zn_c [.int (a4 * a2)] xo_imul rfl rfl ?_
    refine zn_st [.ref 197, .ref 202, .int a2, .int a3, .int a4, .int (a4 * a2), .null, .null, .null, .null, .null] rfl rfl rfl ?_
    refine zn_ld rfl rfl rfl ?_
    refine zn_ld rfl rfl rfl ?_
    refine zn_c [.int 1, .int (a4 * a2), .ref 202] (xo_push (.int 1)) rfl rfl ?_
    replace h := h _ (i_add (x := (a4 * a2)) (y := 1) rfl (show (1 : Int32).toInt = 1 by decide))
    refine zn_c [.int ((a4 * a2) + 1), .ref 202] xo_iadd rfl rfl ?_
    refine zn_row ((a4 * a2) + 1) [] (a := 202) hd rfl rfl rfl rfl ?_
    change Zn _ _ _ _ _ _ _ _ _ _ _ [.int (zg s 202 ((a4 * a2) + 1))] _ _
    refine zn_ld rfl rfl rfl ?_
    refine zn_get (v := .ref 204) rfl (zv_R (a := 197) rfl rfl) ?_
    refine zn_c [.int 1, .ref 204, .int (zg s 202 ((a4 * a2) + 1))] (xo_push (.int 1)) rfl rfl ?_
    refine zn_row 1 [.int (zg s 202 ((a4 * a2) + 1))] (a := 204) hd rfl rfl rfl rfl ?_
    change Zn _ _ _ _ _ _ _ _ _ _ _ [.int (zg s 204 1), .int (zg s 202 ((a4 * a2) + 1))] _ _
    refine zn_brN rfl rfl ⟨fun hcn => ?_, fun hcn => ?_⟩
    · replace h := h.1 (fun q => hcn ((i_eq (x := zg s 202 ((a4 * a2) + 1)) (y := zg s 204 1) rfl rfl).mpr q))
      exact m_103_41_39e202 hd r11 h
    · replace h := h.2 ((i_eq (x := zg s 202 ((a4 * a2) + 1)) (y := zg s 204 1) rfl rfl).mp hcn)
      refine zn_ld rfl rfl rfl ?_
      refine zn_get (v := .ref 75) rfl (zv_R (a := 197) rfl rfl) ?_
      refine zn_ld rfl rfl rfl ?_
      refine zn_ld rfl rfl rfl ?_
      refine zn_row (a4 * a2) [.ref 75] (a := 202) hd rfl rfl rfl rfl ?_
      change Zn _ _ _ _ _ _ _ _ _ _ _ [.int (zg s 202 (a4 * a2)), .ref 75] _ _
      refine zn_ld rfl rfl rfl ?_
      refine zn_get (v := .ref 204) rfl (zv_R (a := 197) rfl rfl) ?_
      refine zn_c [.int 0, .ref 204, .int (zg s 202 (a4 * a2)), .ref 75] (xo_push (.int 0)) rfl rfl ?_
      refine zn_row 0 [.int (zg s 202 (a4 * a2)), .ref 75] (a := 204) hd rfl rfl rfl rfl ?_
      change Zn _ _ _ _ _ _ _ _ _ _ _ [.int (zg s 204 0), .int (zg s 202 (a4 * a2)), .ref 75] _ _
      refine zn_zt [.ref 75, .int (zg s 202 (a4 * a2)), .int (zg s 204 0)] [] rfl rfl rfl rfl rfl (Zt.imp h (fun v3 s4 h => ?_))
      obtain ⟨x5, rfl, h⟩ := h
      change Zn _ _ _ _ _ _ _ _ _ _ _ [.int x5] _ _
      refine zn_brP rfl rfl ⟨fun hcn => ?_, fun hcn => ?_⟩
      · replace h := h.1 ((i_eq (x := x5) (y := 0) rfl (show (0 : Int32).toInt = 0 by decide)).mp hcn)
        exact m_103_41_39e202 hd r11 h
      · replace h := h.2 (fun q => hcn ((i_eq (x := x5) (y := 0) rfl (show (0 : Int32).toInt = 0 by decide)).mpr q))
        refine zn_c [.int 1] (xo_push (.int 1)) rfl rfl ?_
        refine zn_go rfl ?_
        exact m_103_42_39e202 hd r11 h
theorem ml_103_11_39e202 {d d0 : Nat} (hd : d = d0 + 8)  {a2 : Int32} {a3 : Int32} {a4 : Int32} {s : zS} {Q : Option Value → zS → Prop}  (h : vl_103_11 (fun j => Zt d (wd2 39 j) j) 39 202  a2 a3 a4 s Q) : Zn d [] [] ([(197, 5, 39), (197, 6, 57), (75, 0, 39), (75, 1, 57), (75, 2, 61)] : zW) ([(197, 5, 39), (197, 6, 57), (75, 0, 39), (75, 1, 57), (75, 2, 61)] : zW) xL_8 8 (some .boolean) xE_103 (xE_103.drop 11) [.ref 197, .ref 202, .int a2, .int a3, .int a4, .null, .null, .null, .null, .null, .null] [] s Q := by
  obtain ⟨I, μ, h0, h1⟩ := h
  have key : ∀ (n : Nat) (a2 : Int32) (a3 : Int32) (a4 : Int32) (s : zS), μ a2 a3 a4 s = n → I a2 a3 a4 s → Zn d [] [] ([(197, 5, 39), (197, 6, 57), (75, 0, 39), (75, 1, 57), (75, 2, 61)] : zW) ([(197, 5, 39), (197, 6, 57), (75, 0, 39), (75, 1, 57), (75, 2, 61)] : zW) xL_8 8 (some .boolean) xE_103 (xE_103.drop 11) [.ref 197, .ref 202, .int a2, .int a3, .int a4, .null, .null, .null, .null, .null, .null] [] s Q := by
    intro n
    induction n using Nat.strongRecOn with
    | ind n ih =>
      intro a2 a3 a4 s e hI
      exact m_103_11_39e202 hd (fun a2' a3' a4' s' q => ih _ (by rw [← e]; exact q.2) a2' a3' a4' s' rfl q.1) (h1 a2 a3 a4 s hI)
  exact key _ a2 a3 a4 s rfl h0
set_option maxRecDepth 20000 in
theorem m_103_8_39e202 {d d0 : Nat} (hd : d = d0 + 8)  {a2 : Int32} {t0 : Int32} {s : zS} {Q : Option Value → zS → Prop}  (h : v_103_8 (fun j => Zt d (wd2 39 j) j) 39 202  a2 t0 s Q) : Zn d [] [] ([(197, 5, 39), (197, 6, 57), (75, 0, 39), (75, 1, 57), (75, 2, 61)] : zW) ([(197, 5, 39), (197, 6, 57), (75, 0, 39), (75, 1, 57), (75, 2, 61)] : zW) xL_8 8 (some .boolean) xE_103 (xE_103.drop 8) [.ref 197, .ref 202, .int a2, .null, .null, .null, .null, .null, .null, .null, .null] [.int t0] s Q := by
  unfold v_103_8 at h
  refine zn_st [.ref 197, .ref 202, .int a2, .int t0, .null, .null, .null, .null, .null, .null, .null] rfl rfl rfl ?_
  refine zn_c [.int 0] (xo_push (.int 0)) rfl rfl ?_
  refine zn_st [.ref 197, .ref 202, .int a2, .int t0, .int 0, .null, .null, .null, .null, .null, .null] rfl rfl rfl ?_
  exact ml_103_11_39e202 hd  h
set_option maxRecDepth 20000 in
theorem m_103_0_39e202 {d d0 : Nat} (hd : d = d0 + 8)  {a2 : Int32} {s : zS} {Q : Option Value → zS → Prop}  (h : v_103_0 (fun j => Zt d (wd2 39 j) j) 39 202  a2 s Q) : Zn d [] [] ([(197, 5, 39), (197, 6, 57), (75, 0, 39), (75, 1, 57), (75, 2, 61)] : zW) ([(197, 5, 39), (197, 6, 57), (75, 0, 39), (75, 1, 57), (75, 2, 61)] : zW) xL_8 8 (some .boolean) xE_103 (xE_103.drop 0) [.ref 197, .ref 202, .int a2, .null, .null, .null, .null, .null, .null, .null, .null] [] s Q := by
  unfold v_103_0 at h
  refine zn_ld rfl rfl rfl ?_
  refine zn_brP rfl rfl ⟨fun hcn => ?_, fun hcn => ?_⟩
  · replace h := h.1 ((i_le (x := a2) (y := 0) rfl (show (0 : Int32).toInt = 0 by decide)).mp hcn)
    refine zn_c [.int 0] (xo_push (.int 0)) rfl rfl ?_
    exact m_103_8_39e202 hd  h
  · replace h := h.2 (fun q => hcn ((i_le (x := a2) (y := 0) rfl (show (0 : Int32).toInt = 0 by decide)).mpr q))
    refine zn_ld rfl rfl rfl ?_
    refine zn_get (v := .int (s.1 202 2)) rfl (zv_I (a := 202) rfl rfl) ?_
    refine zn_ld rfl rfl rfl ?_
    obtain ⟨hnz, h⟩ := h
    replace h := h ((s.1 202 2) / a2)
    refine zn_c [.int ((s.1 202 2) / a2)] xo_idiv rfl (o_idiv (fun q => hnz (by rw [q]; rfl))) ?_
    refine zn_go rfl ?_
    exact m_103_8_39e202 hd  h
theorem zq_103_39e202 {d : Nat} {a2 : Int32} {s : zS} {Q : Option Value → zS → Prop} (h : v_103_0 (fun j => Zt (d + 8) (wd2 39 j) j) 39 202 a2 s Q) : Zt (d + 9) ([(197, 5, 39), (197, 6, 57), (75, 0, 39), (75, 1, 57), (75, 2, 61)] : zW) 103 [.ref 197, .ref 202, .int a2] s Q := zt_of (E := xE_103) (L := xL_8) (ml := 8) (ret := some .boolean) rfl rfl rfl (m_103_0_39e202 rfl h)
theorem zc_103 {d P e : Nat} (hP : P = 3 ∨ P = 39) (he : e = 200 ∨ e = 202) {a2 : Int32} {s : zS} {Q : Option Value → zS → Prop} (h : v_103_0 (fun j => Zt (d + 8) (wd2 P j) j) P e a2 s Q) : Zt (d + 9) (wd2 P 103) 103 [.ref 197, .ref e, .int a2] s Q := by
  rcases hP with rfl | rfl
  · rcases he with rfl | rfl
    · exact zq_103_3e200 h
    · exact zq_103_3e202 h
  · rcases he with rfl | rfl
    · exact zq_103_39e200 h
    · exact zq_103_39e202 h
/-! FeatherBench$Stock.addTypes -/
def v_106_62 (T : Nat → List Value → zS → (Option Value → zS → Prop) → Prop) (P : Nat)  (a1 : Int32) (a2 : Int32) (a3 : Int32) (a4 : Int32) (a5 : Int32) (s : zS) (Q : Option Value → zS → Prop) : Prop :=
  T 98 [.ref 197, .int a3] s (fun v1 s2 => ∃ x3, v1 = some (.int x3) ∧ (Q (some (.int x3)) s2))
def v_106_60 (T : Nat → List Value → zS → (Option Value → zS → Prop) → Prop) (P : Nat) (R36 : Int32 → Int32 → Int32 → Int32 → Int32 → zS → Prop) (a1 : Int32) (a2 : Int32) (a3 : Int32) (a4 : Int32) (a5 : Int32) (s : zS) (Q : Option Value → zS → Prop) : Prop :=
  ∀ x1 : Int32, (-2147483648 ≤ a5.toInt + 1 ∧ a5.toInt + 1 ≤ 2147483647 → x1.toInt = a5.toInt + 1) → R36 a1 a2 a3 a4 x1 s
def v_106_36 (T : Nat → List Value → zS → (Option Value → zS → Prop) → Prop) (P : Nat) (R36 : Int32 → Int32 → Int32 → Int32 → Int32 → zS → Prop) (a1 : Int32) (a2 : Int32) (a3 : Int32) (a4 : Int32) (a5 : Int32) (s : zS) (Q : Option Value → zS → Prop) : Prop :=
  (a4.toInt ≤ a5.toInt → v_106_62 T P  a1 a2 a3 a4 a5 s Q) ∧ (¬ (a4.toInt ≤ a5.toInt) → (¬ ((s.1 197 10).toInt = 0) → v_106_62 T P  a1 a2 a3 a4 a5 s Q) ∧ ((s.1 197 10).toInt = 0 → T 98 [.ref 197, .int a5] s (fun v1 s2 => ∃ x3, v1 = some (.int x3) ∧ ((0 ≤ x3.toInt → v_106_60 T P R36 a1 a2 a3 a4 a5 s2 Q) ∧ (¬ (0 ≤ x3.toInt) → T 83 [.ref 75, .int a5] s2 (fun v4 s5 => ∃ x6, v4 = some (.int x6) ∧ (∀ x7 : Int32, (-2147483648 ≤ x6.toInt - a5.toInt ∧ x6.toInt - a5.toInt ≤ 2147483647 → x7.toInt = x6.toInt - a5.toInt) → T 107 [.ref 197, .int a5, .int x7] s5 (fun v8 s9 => ∃ x10, v8 = some (.int x10) ∧ ((-1000 ≤ x10.toInt ∧ x10.toInt ≤ 1000000000) ∧ (∀ s11, s11 = za s9 198 x10 → T 104 [.ref 197] s11 (fun v12 s13 => v12 = none ∧ (v_106_60 T P R36 a1 a2 a3 a4 a5 s13 Q))))))))))))
def vl_106_36 (T : Nat → List Value → zS → (Option Value → zS → Prop) → Prop) (P : Nat)  (a1 : Int32) (a2 : Int32) (a3 : Int32) (a4 : Int32) (a5 : Int32) (s : zS) (Q : Option Value → zS → Prop) : Prop :=
  ∃ (I : Int32 → Int32 → Int32 → Int32 → Int32 → zS → Prop) (μ : Int32 → Int32 → Int32 → Int32 → Int32 → zS → Nat), I a1 a2 a3 a4 a5 s ∧ ∀ (a1 : Int32) (a2 : Int32) (a3 : Int32) (a4 : Int32) (a5 : Int32) (s : zS), I a1 a2 a3 a4 a5 s → v_106_36 T P (fun a1' a2' a3' a4' a5' s' => I a1' a2' a3' a4' a5' s' ∧ μ a1' a2' a3' a4' a5' s' < μ a1 a2 a3 a4 a5 s) a1 a2 a3 a4 a5 s Q
def v_106_33 (T : Nat → List Value → zS → (Option Value → zS → Prop) → Prop) (P : Nat)  (a1 : Int32) (a2 : Int32) (a3 : Int32) (t0 : Int32) (s : zS) (Q : Option Value → zS → Prop) : Prop :=
  vl_106_36 T P  a1 a2 a3 t0 a3 s Q
def v_106_0 (T : Nat → List Value → zS → (Option Value → zS → Prop) → Prop) (P : Nat)  (a1 : Int32) (s : zS) (Q : Option Value → zS → Prop) : Prop :=
  T 87 [.ref 75, .int a1, .ref 76] s (fun v1 s2 => ∃ x3, v1 = some (.int x3) ∧ (∀ s4, s4 = zf s2 75 3 (s.1 75 3) → (0 ≤ x3.toInt → T 98 [.ref 197, .int x3] s4 (fun v5 s6 => ∃ x7, v5 = some (.int x7) ∧ ((0 ≤ x7.toInt → v_106_33 T P  a1 (s.1 75 3) x3 x3 s6 Q) ∧ (¬ (0 ≤ x7.toInt) → T 83 [.ref 75, .int x3] s6 (fun v8 s9 => ∃ x10, v8 = some (.int x10) ∧ (v_106_33 T P  a1 (s.1 75 3) x3 x10 s9 Q)))))) ∧ (¬ (0 ≤ x3.toInt) → ∀ s11, s11 = zf s4 197 10 1 → Q (some (.int (-1))) s11)))
set_option maxRecDepth 20000 in
theorem m_106_62_3 {d d0 : Nat} (hd : d = d0 + 8)  {a1 : Int32} {a2 : Int32} {a3 : Int32} {a4 : Int32} {a5 : Int32} {s : zS} {Q : Option Value → zS → Prop}  (h : v_106_62 (fun j => Zt d (wd2 3 j) j) 3  a1 a2 a3 a4 a5 s Q) : Zn d [] [(3, 98), (0, 198)] ([(197, 5, 3), (197, 6, 21), (75, 0, 3), (75, 1, 21), (75, 2, 25)] : zW) ([(197, 5, 3), (197, 6, 21), (75, 0, 3), (75, 1, 21), (75, 2, 25)] : zW) xL_8 6 (some .int) xE_106 (xE_106.drop 62) [.ref 197, .int a1, .int a2, .int a3, .int a4, .int a5, .null, .null] [] s Q := by
  unfold v_106_62 at h
  refine zn_ld rfl rfl rfl ?_
  refine zn_ld rfl rfl rfl ?_
  refine zn_zt [.ref 197, .int a3] [] rfl rfl rfl rfl rfl (Zt.imp h (fun v1 s2 h => ?_))
  obtain ⟨x3, rfl, h⟩ := h
  change Zn _ _ _ _ _ _ _ _ _ _ _ [.int x3] _ _
  exact zn_retI rfl h
set_option maxRecDepth 20000 in
theorem m_106_60_3 {d d0 : Nat} (hd : d = d0 + 8) {R36 : Int32 → Int32 → Int32 → Int32 → Int32 → zS → Prop} {a1 : Int32} {a2 : Int32} {a3 : Int32} {a4 : Int32} {a5 : Int32} {s : zS} {Q : Option Value → zS → Prop} (r36 : ∀ a1 a2 a3 a4 a5 s, R36 a1 a2 a3 a4 a5 s → Zn d [] [(3, 98), (0, 198)] ([(197, 5, 3), (197, 6, 21), (75, 0, 3), (75, 1, 21), (75, 2, 25)] : zW) ([(197, 5, 3), (197, 6, 21), (75, 0, 3), (75, 1, 21), (75, 2, 25)] : zW) xL_8 6 (some .int) xE_106 (xE_106.drop 36) [.ref 197, .int a1, .int a2, .int a3, .int a4, .int a5, .null, .null] [] s Q) (h : v_106_60 (fun j => Zt d (wd2 3 j) j) 3 R36 a1 a2 a3 a4 a5 s Q) : Zn d [] [(3, 98), (0, 198)] ([(197, 5, 3), (197, 6, 21), (75, 0, 3), (75, 1, 21), (75, 2, 25)] : zW) ([(197, 5, 3), (197, 6, 21), (75, 0, 3), (75, 1, 21), (75, 2, 25)] : zW) xL_8 6 (some .int) xE_106 (xE_106.drop 60) [.ref 197, .int a1, .int a2, .int a3, .int a4, .int a5, .null, .null] [] s Q := by
  unfold v_106_60 at h
  replace h := h _ (i_add (x := a5) (y := 1) rfl (show (1 : Int32).toInt = 1 by decide))
  refine zn_inc [.ref 197, .int a1, .int a2, .int a3, .int a4, .int (a5 + 1), .null, .null] rfl rfl rfl rfl ?_
  refine zn_go rfl ?_
  exact r36 a1 a2 a3 a4 (a5 + 1) s h
set_option maxRecDepth 20000 in
theorem m_106_36_3 {d d0 : Nat} (hd : d = d0 + 8) {R36 : Int32 → Int32 → Int32 → Int32 → Int32 → zS → Prop} {a1 : Int32} {a2 : Int32} {a3 : Int32} {a4 : Int32} {a5 : Int32} {s : zS} {Q : Option Value → zS → Prop} (r36 : ∀ a1 a2 a3 a4 a5 s, R36 a1 a2 a3 a4 a5 s → Zn d [] [(3, 98), (0, 198)] ([(197, 5, 3), (197, 6, 21), (75, 0, 3), (75, 1, 21), (75, 2, 25)] : zW) ([(197, 5, 3), (197, 6, 21), (75, 0, 3), (75, 1, 21), (75, 2, 25)] : zW) xL_8 6 (some .int) xE_106 (xE_106.drop 36) [.ref 197, .int a1, .int a2, .int a3, .int a4, .int a5, .null, .null] [] s Q) (h : v_106_36 (fun j => Zt d (wd2 3 j) j) 3 R36 a1 a2 a3 a4 a5 s Q) : Zn d [] [(3, 98), (0, 198)] ([(197, 5, 3), (197, 6, 21), (75, 0, 3), (75, 1, 21), (75, 2, 25)] : zW) ([(197, 5, 3), (197, 6, 21), (75, 0, 3), (75, 1, 21), (75, 2, 25)] : zW) xL_8 6 (some .int) xE_106 (xE_106.drop 36) [.ref 197, .int a1, .int a2, .int a3, .int a4, .int a5, .null, .null] [] s Q := by
  unfold v_106_36 at h
  refine zn_ld rfl rfl rfl ?_
  refine zn_ld rfl rfl rfl ?_
  refine zn_brP rfl rfl ⟨fun hcn => ?_, fun hcn => ?_⟩
  · replace h := h.1 ((i_le (x := a4) (y := a5) rfl rfl).mp hcn)
    exact m_106_62_3 hd  h
  · replace h := h.2 (fun q => hcn ((i_le (x := a4) (y := a5) rfl rfl).mpr q))
    refine zn_ld rfl rfl rfl ?_
    refine zn_get (v := .int (s.1 197 10)) rfl (zv_I (a := 197) rfl rfl) ?_
    refine zn_brN rfl rfl ⟨fun hcn => ?_, fun hcn => ?_⟩
    · replace h := h.1 (fun q => hcn ((i_eq (x := s.1 197 10) (y := 0) rfl (show (0 : Int32).toInt = 0 by decide)).mpr q))
      exact m_106_62_3 hd  h
    · replace h := h.2 ((i_eq (x := s.1 197 10) (y := 0) rfl (show (0 : Int32).toInt = 0 by decide)).mp hcn)
      refine zn_ld rfl rfl rfl ?_
      refine zn_ld rfl rfl rfl ?_
      refine zn_zt [.ref 197, .int a5] [] rfl rfl rfl rfl rfl (Zt.imp h (fun v1 s2 h => ?_))
      obtain ⟨x3, rfl, h⟩ := h
      change Zn _ _ _ _ _ _ _ _ _ _ _ [.int x3] _ _
      refine zn_brP rfl rfl ⟨fun hcn => ?_, fun hcn => ?_⟩
      · replace h := h.1 ((i_le (x := 0) (y := x3) (show (0 : Int32).toInt = 0 by decide) rfl).mp hcn)
        exact m_106_60_3 hd r36 h
      · replace h := h.2 (fun q => hcn ((i_le (x := 0) (y := x3) (show (0 : Int32).toInt = 0 by decide) rfl).mpr q))
        refine zn_ld rfl rfl rfl ?_
        refine zn_get (v := .ref 198) rfl (zv_R (a := 197) rfl rfl) ?_
        refine zn_ld rfl rfl rfl ?_
        refine zn_ld rfl rfl rfl ?_
        refine zn_ld rfl rfl rfl ?_
        refine zn_get (v := .ref 75) rfl (zv_R (a := 197) rfl rfl) ?_
        refine zn_ld rfl rfl rfl ?_
        refine zn_zt [.ref 75, .int a5] [.int a5, .ref 197, .ref 198] rfl rfl rfl rfl rfl (Zt.imp h (fun v4 s5 h => ?_))
        obtain ⟨x6, rfl, h⟩ := h
        change Zn _ _ _ _ _ _ _ _ _ _ _ [.int x6, .int a5, .ref 197, .ref 198] _ _
        refine zn_ld rfl rfl rfl ?_
        replace h := h _ (i_sub (x := x6) (y := a5) rfl rfl)
        refine zn_c [.int (x6 - a5), .int a5, .ref 197, .ref 198] xo_isub rfl rfl ?_
        refine zn_zt [.ref 197, .int a5, .int (x6 - a5)] [.ref 198] rfl rfl rfl rfl rfl (Zt.imp h (fun v8 s9 h => ?_))
        obtain ⟨x10, rfl, h⟩ := h
        change Zn _ _ _ _ _ _ _ _ _ _ _ [.int x10, .ref 198] _ _
        obtain ⟨hyS, h⟩ := h
        refine zn_add x10 [] (a := 198) hd rfl rfl rfl rfl ⟨Int32.le_toInt _, Int.le_of_lt_add_one (Int32.toInt_lt _)⟩ (fun q => absurd q (by decide)) rfl ?_ (hy := fun _ => hyS)
        replace h := h _ rfl
        refine zn_ld rfl rfl rfl ?_
        refine zn_zt [.ref 197] [] rfl rfl rfl rfl rfl (Zt.imp h (fun v12 s13 h => ?_))
        obtain ⟨rfl, h⟩ := h
        change Zn _ _ _ _ _ _ _ _ _ _ _ [] _ _
        exact m_106_60_3 hd r36 h
theorem ml_106_36_3 {d d0 : Nat} (hd : d = d0 + 8)  {a1 : Int32} {a2 : Int32} {a3 : Int32} {a4 : Int32} {a5 : Int32} {s : zS} {Q : Option Value → zS → Prop}  (h : vl_106_36 (fun j => Zt d (wd2 3 j) j) 3  a1 a2 a3 a4 a5 s Q) : Zn d [] [(3, 98), (0, 198)] ([(197, 5, 3), (197, 6, 21), (75, 0, 3), (75, 1, 21), (75, 2, 25)] : zW) ([(197, 5, 3), (197, 6, 21), (75, 0, 3), (75, 1, 21), (75, 2, 25)] : zW) xL_8 6 (some .int) xE_106 (xE_106.drop 36) [.ref 197, .int a1, .int a2, .int a3, .int a4, .int a5, .null, .null] [] s Q := by
  obtain ⟨I, μ, h0, h1⟩ := h
  have key : ∀ (n : Nat) (a1 : Int32) (a2 : Int32) (a3 : Int32) (a4 : Int32) (a5 : Int32) (s : zS), μ a1 a2 a3 a4 a5 s = n → I a1 a2 a3 a4 a5 s → Zn d [] [(3, 98), (0, 198)] ([(197, 5, 3), (197, 6, 21), (75, 0, 3), (75, 1, 21), (75, 2, 25)] : zW) ([(197, 5, 3), (197, 6, 21), (75, 0, 3), (75, 1, 21), (75, 2, 25)] : zW) xL_8 6 (some .int) xE_106 (xE_106.drop 36) [.ref 197, .int a1, .int a2, .int a3, .int a4, .int a5, .null, .null] [] s Q := by
    intro n
    induction n using Nat.strongRecOn with
    | ind n ih =>
      intro a1 a2 a3 a4 a5 s e hI
      exact m_106_36_3 hd (fun a1' a2' a3' a4' a5' s' q => ih _ (by rw [← e]; exact q.2) a1' a2' a3' a4' a5' s' rfl q.1) (h1 a1 a2 a3 a4 a5 s hI)
  exact key _ a1 a2 a3 a4 a5 s rfl h0
set_option maxRecDepth 20000 in
theorem m_106_33_3 {d d0 : Nat} (hd : d = d0 + 8)  {a1 : Int32} {a2 : Int32} {a3 : Int32} {t0 : Int32} {s : zS} {Q : Option Value → zS → Prop}  (h : v_106_33 (fun j => Zt d (wd2 3 j) j) 3  a1 a2 a3 t0 s Q) : Zn d [] [(3, 98), (0, 198)] ([(197, 5, 3), (197, 6, 21), (75, 0, 3), (75, 1, 21), (75, 2, 25)] : zW) ([(197, 5, 3), (197, 6, 21), (75, 0, 3), (75, 1, 21), (75, 2, 25)] : zW) xL_8 6 (some .int) xE_106 (xE_106.drop 33) [.ref 197, .int a1, .int a2, .int a3, .null, .null, .null, .null] [.int t0] s Q := by
  unfold v_106_33 at h
  refine zn_st [.ref 197, .int a1, .int a2, .int a3, .int t0, .null, .null, .null] rfl rfl rfl ?_
  refine zn_ld rfl rfl rfl ?_
  refine zn_st [.ref 197, .int a1, .int a2, .int a3, .int t0, .int a3, .null, .null] rfl rfl rfl ?_
  exact ml_106_36_3 hd  h
set_option maxRecDepth 20000 in
theorem m_106_0_3 {d d0 : Nat} (hd : d = d0 + 8)  {a1 : Int32} {s : zS} {Q : Option Value → zS → Prop}  (h : v_106_0 (fun j => Zt d (wd2 3 j) j) 3  a1 s Q) : Zn d [] [(3, 98), (0, 198)] ([(197, 5, 3), (197, 6, 21), (75, 0, 3), (75, 1, 21), (75, 2, 25)] : zW) ([(197, 5, 3), (197, 6, 21), (75, 0, 3), (75, 1, 21), (75, 2, 25)] : zW) xL_8 6 (some .int) xE_106 (xE_106.drop 0) [.ref 197, .int a1, .null, .null, .null, .null, .null, .null] [] s Q := by
  unfold v_106_0 at h
  refine zn_ld rfl rfl rfl ?_
  refine zn_get (v := .ref 75) rfl (zv_R (a := 197) rfl rfl) ?_
  refine zn_get (v := .int (s.1 75 3)) rfl (zv_I (a := 75) rfl rfl) ?_
  refine zn_st [.ref 197, .int a1, .int (s.1 75 3), .null, .null, .null, .null, .null] rfl rfl rfl ?_
  refine zn_ld rfl rfl rfl ?_
  refine zn_get (v := .ref 75) rfl (zv_R (a := 197) rfl rfl) ?_
  refine zn_ld rfl rfl rfl ?_
  refine zn_ld rfl rfl rfl ?_
  refine zn_get (v := .ref 75) rfl (zv_R (a := 197) rfl rfl) ?_
  refine zn_get (v := .ref 76) rfl (zv_R (a := 75) rfl rfl) ?_
  refine zn_zt [.ref 75, .int a1, .ref 76] [] rfl rfl rfl rfl rfl (Zt.imp h (fun v1 s2 h => ?_))
  obtain ⟨x3, rfl, h⟩ := h
  change Zn _ _ _ _ _ _ _ _ _ _ _ [.int x3] _ _
  refine zn_st [.ref 197, .int a1, .int (s.1 75 3), .int x3, .null, .null, .null, .null] rfl rfl rfl ?_
  refine zn_ld rfl rfl rfl ?_
  refine zn_get (v := .ref 75) rfl (zv_R (a := 197) rfl rfl) ?_
  refine zn_ld rfl rfl rfl ?_
  refine zn_putI (a := 75) rfl rfl rfl rfl ⟨Int32.le_toInt _, Int.le_of_lt_add_one (Int32.toInt_lt _)⟩ rfl rfl rfl ?_
  replace h := h _ rfl
  refine zn_ld rfl rfl rfl ?_
  refine zn_brP rfl rfl ⟨fun hcn => ?_, fun hcn => ?_⟩
  · replace h := h.1 ((i_le (x := 0) (y := x3) (show (0 : Int32).toInt = 0 by decide) rfl).mp hcn)
    refine zn_ld rfl rfl rfl ?_
    refine zn_ld rfl rfl rfl ?_
    refine zn_zt [.ref 197, .int x3] [] rfl rfl rfl rfl rfl (Zt.imp h (fun v5 s6 h => ?_))
    obtain ⟨x7, rfl, h⟩ := h
    change Zn _ _ _ _ _ _ _ _ _ _ _ [.int x7] _ _
    refine zn_brP rfl rfl ⟨fun hcn => ?_, fun hcn => ?_⟩
    · replace h := h.1 ((i_le (x := 0) (y := x7) (show (0 : Int32).toInt = 0 by decide) rfl).mp hcn)
      refine zn_ld rfl rfl rfl ?_
      exact m_106_33_3 hd  h
    · replace h := h.2 (fun q => hcn ((i_le (x := 0) (y := x7) (show (0 : Int32).toInt = 0 by decide) rfl).mpr q))
      refine zn_ld rfl rfl rfl ?_
      refine zn_get (v := .ref 75) rfl (zv_R (a := 197) rfl rfl) ?_
      refine zn_ld rfl rfl rfl ?_
      refine zn_zt [.ref 75, .int x3] [] rfl rfl rfl rfl rfl (Zt.imp h (fun v8 s9 h => ?_))
      obtain ⟨x10, rfl, h⟩ := h
      change Zn _ _ _ _ _ _ _ _ _ _ _ [.int x10] _ _
      refine zn_go rfl ?_
      exact m_106_33_3 hd  h
  · replace h := h.2 (fun q => hcn ((i_le (x := 0) (y := x3) (show (0 : Int32).toInt = 0 by decide) rfl).mpr q))
    refine zn_ld rfl rfl rfl ?_
    refine zn_c [.int 1, .ref 197] (xo_push (.int 1)) rfl rfl ?_
    refine zn_putI (a := 197) rfl rfl rfl rfl (by decide) rfl rfl rfl ?_
    replace h := h _ rfl
    refine zn_c [.int (-1)] (xo_push (.int (-1))) rfl rfl ?_
    exact zn_retI rfl h
theorem zq_106_3 {d : Nat} {a1 : Int32} {s : zS} {Q : Option Value → zS → Prop} (h : v_106_0 (fun j => Zt (d + 8) (wd2 3 j) j) 3 a1 s Q) : Zt (d + 9) ([(197, 5, 3), (197, 6, 21), (75, 0, 3), (75, 1, 21), (75, 2, 25)] : zW) 106 [.ref 197, .int a1] s Q := zt_of (E := xE_106) (L := xL_8) (ml := 6) (ret := some .int) rfl rfl rfl (m_106_0_3 rfl h)
set_option maxRecDepth 20000 in
theorem m_106_62_39 {d d0 : Nat} (hd : d = d0 + 8)  {a1 : Int32} {a2 : Int32} {a3 : Int32} {a4 : Int32} {a5 : Int32} {s : zS} {Q : Option Value → zS → Prop}  (h : v_106_62 (fun j => Zt d (wd2 39 j) j) 39  a1 a2 a3 a4 a5 s Q) : Zn d [] [(39, 98), (0, 198)] ([(197, 5, 39), (197, 6, 57), (75, 0, 39), (75, 1, 57), (75, 2, 61)] : zW) ([(197, 5, 39), (197, 6, 57), (75, 0, 39), (75, 1, 57), (75, 2, 61)] : zW) xL_8 6 (some .int) xE_106 (xE_106.drop 62) [.ref 197, .int a1, .int a2, .int a3, .int a4, .int a5, .null, .null] [] s Q := by
  unfold v_106_62 at h
  refine zn_ld rfl rfl rfl ?_
  refine zn_ld rfl rfl rfl ?_
  refine zn_zt [.ref 197, .int a3] [] rfl rfl rfl rfl rfl (Zt.imp h (fun v1 s2 h => ?_))
  obtain ⟨x3, rfl, h⟩ := h
  change Zn _ _ _ _ _ _ _ _ _ _ _ [.int x3] _ _
  exact zn_retI rfl h
set_option maxRecDepth 20000 in
theorem m_106_60_39 {d d0 : Nat} (hd : d = d0 + 8) {R36 : Int32 → Int32 → Int32 → Int32 → Int32 → zS → Prop} {a1 : Int32} {a2 : Int32} {a3 : Int32} {a4 : Int32} {a5 : Int32} {s : zS} {Q : Option Value → zS → Prop} (r36 : ∀ a1 a2 a3 a4 a5 s, R36 a1 a2 a3 a4 a5 s → Zn d [] [(39, 98), (0, 198)] ([(197, 5, 39), (197, 6, 57), (75, 0, 39), (75, 1, 57), (75, 2, 61)] : zW) ([(197, 5, 39), (197, 6, 57), (75, 0, 39), (75, 1, 57), (75, 2, 61)] : zW) xL_8 6 (some .int) xE_106 (xE_106.drop 36) [.ref 197, .int a1, .int a2, .int a3, .int a4, .int a5, .null, .null] [] s Q) (h : v_106_60 (fun j => Zt d (wd2 39 j) j) 39 R36 a1 a2 a3 a4 a5 s Q) : Zn d [] [(39, 98), (0, 198)] ([(197, 5, 39), (197, 6, 57), (75, 0, 39), (75, 1, 57), (75, 2, 61)] : zW) ([(197, 5, 39), (197, 6, 57), (75, 0, 39), (75, 1, 57), (75, 2, 61)] : zW) xL_8 6 (some .int) xE_106 (xE_106.drop 60) [.ref 197, .int a1, .int a2, .int a3, .int a4, .int a5, .null, .null] [] s Q := by
  unfold v_106_60 at h
  replace h := h _ (i_add (x := a5) (y := 1) rfl (show (1 : Int32).toInt = 1 by decide))
  refine zn_inc [.ref 197, .int a1, .int a2, .int a3, .int a4, .int (a5 + 1), .null, .null] rfl rfl rfl rfl ?_
  refine zn_go rfl ?_
  exact r36 a1 a2 a3 a4 (a5 + 1) s h
set_option maxRecDepth 20000 in
theorem m_106_36_39 {d d0 : Nat} (hd : d = d0 + 8) {R36 : Int32 → Int32 → Int32 → Int32 → Int32 → zS → Prop} {a1 : Int32} {a2 : Int32} {a3 : Int32} {a4 : Int32} {a5 : Int32} {s : zS} {Q : Option Value → zS → Prop} (r36 : ∀ a1 a2 a3 a4 a5 s, R36 a1 a2 a3 a4 a5 s → Zn d [] [(39, 98), (0, 198)] ([(197, 5, 39), (197, 6, 57), (75, 0, 39), (75, 1, 57), (75, 2, 61)] : zW) ([(197, 5, 39), (197, 6, 57), (75, 0, 39), (75, 1, 57), (75, 2, 61)] : zW) xL_8 6 (some .int) xE_106 (xE_106.drop 36) [.ref 197, .int a1, .int a2, .int a3, .int a4, .int a5, .null, .null] [] s Q) (h : v_106_36 (fun j => Zt d (wd2 39 j) j) 39 R36 a1 a2 a3 a4 a5 s Q) : Zn d [] [(39, 98), (0, 198)] ([(197, 5, 39), (197, 6, 57), (75, 0, 39), (75, 1, 57), (75, 2, 61)] : zW) ([(197, 5, 39), (197, 6, 57), (75, 0, 39), (75, 1, 57), (75, 2, 61)] : zW) xL_8 6 (some .int) xE_106 (xE_106.drop 36) [.ref 197, .int a1, .int a2, .int a3, .int a4, .int a5, .null, .null] [] s Q := by
  unfold v_106_36 at h
  refine zn_ld rfl rfl rfl ?_
  refine zn_ld rfl rfl rfl ?_
  refine zn_brP rfl rfl ⟨fun hcn => ?_, fun hcn => ?_⟩
  · replace h := h.1 ((i_le (x := a4) (y := a5) rfl rfl).mp hcn)
    exact m_106_62_39 hd  h
  · replace h := h.2 (fun q => hcn ((i_le (x := a4) (y := a5) rfl rfl).mpr q))
    refine zn_ld rfl rfl rfl ?_
    refine zn_get (v := .int (s.1 197 10)) rfl (zv_I (a := 197) rfl rfl) ?_
    refine zn_brN rfl rfl ⟨fun hcn => ?_, fun hcn => ?_⟩
    · replace h := h.1 (fun q => hcn ((i_eq (x := s.1 197 10) (y := 0) rfl (show (0 : Int32).toInt = 0 by decide)).mpr q))
      exact m_106_62_39 hd  h
    · replace h := h.2 ((i_eq (x := s.1 197 10) (y := 0) rfl (show (0 : Int32).toInt = 0 by decide)).mp hcn)
      refine zn_ld rfl rfl rfl ?_
      refine zn_ld rfl rfl rfl ?_
      refine zn_zt [.ref 197, .int a5] [] rfl rfl rfl rfl rfl (Zt.imp h (fun v1 s2 h => ?_))
      obtain ⟨x3, rfl, h⟩ := h
      change Zn _ _ _ _ _ _ _ _ _ _ _ [.int x3] _ _
      refine zn_brP rfl rfl ⟨fun hcn => ?_, fun hcn => ?_⟩
      · replace h := h.1 ((i_le (x := 0) (y := x3) (show (0 : Int32).toInt = 0 by decide) rfl).mp hcn)
        exact m_106_60_39 hd r36 h
      · replace h := h.2 (fun q => hcn ((i_le (x := 0) (y := x3) (show (0 : Int32).toInt = 0 by decide) rfl).mpr q))
        refine zn_ld rfl rfl rfl ?_
        refine zn_get (v := .ref 198) rfl (zv_R (a := 197) rfl rfl) ?_
        refine zn_ld rfl rfl rfl ?_
        refine zn_ld rfl rfl rfl ?_
        refine zn_ld rfl rfl rfl ?_
        refine zn_get (v := .ref 75) rfl (zv_R (a := 197) rfl rfl) ?_
        refine zn_ld rfl rfl rfl ?_
        refine zn_zt [.ref 75, .int a5] [.int a5, .ref 197, .ref 198] rfl rfl rfl rfl rfl (Zt.imp h (fun v4 s5 h => ?_))
        obtain ⟨x6, rfl, h⟩ := h
        change Zn _ _ _ _ _ _ _ _ _ _ _ [.int x6, .int a5, .ref 197, .ref 198] _ _
        refine zn_ld rfl rfl rfl ?_
        replace h := h _ (i_sub (x := x6) (y := a5) rfl rfl)
        refine zn_c [.int (x6 - a5), .int a5, .ref 197, .ref 198] xo_isub rfl rfl ?_
        refine zn_zt [.ref 197, .int a5, .int (x6 - a5)] [.ref 198] rfl rfl rfl rfl rfl (Zt.imp h (fun v8 s9 h => ?_))
        obtain ⟨x10, rfl, h⟩ := h
        change Zn _ _ _ _ _ _ _ _ _ _ _ [.int x10, .ref 198] _ _
        obtain ⟨hyS, h⟩ := h
        refine zn_add x10 [] (a := 198) hd rfl rfl rfl rfl ⟨Int32.le_toInt _, Int.le_of_lt_add_one (Int32.toInt_lt _)⟩ (fun q => absurd q (by decide)) rfl ?_ (hy := fun _ => hyS)
        replace h := h _ rfl
        refine zn_ld rfl rfl rfl ?_
        refine zn_zt [.ref 197] [] rfl rfl rfl rfl rfl (Zt.imp h (fun v12 s13 h => ?_))
        obtain ⟨rfl, h⟩ := h
        change Zn _ _ _ _ _ _ _ _ _ _ _ [] _ _
        exact m_106_60_39 hd r36 h
theorem ml_106_36_39 {d d0 : Nat} (hd : d = d0 + 8)  {a1 : Int32} {a2 : Int32} {a3 : Int32} {a4 : Int32} {a5 : Int32} {s : zS} {Q : Option Value → zS → Prop}  (h : vl_106_36 (fun j => Zt d (wd2 39 j) j) 39  a1 a2 a3 a4 a5 s Q) : Zn d [] [(39, 98), (0, 198)] ([(197, 5, 39), (197, 6, 57), (75, 0, 39), (75, 1, 57), (75, 2, 61)] : zW) ([(197, 5, 39), (197, 6, 57), (75, 0, 39), (75, 1, 57), (75, 2, 61)] : zW) xL_8 6 (some .int) xE_106 (xE_106.drop 36) [.ref 197, .int a1, .int a2, .int a3, .int a4, .int a5, .null, .null] [] s Q := by
  obtain ⟨I, μ, h0, h1⟩ := h
  have key : ∀ (n : Nat) (a1 : Int32) (a2 : Int32) (a3 : Int32) (a4 : Int32) (a5 : Int32) (s : zS), μ a1 a2 a3 a4 a5 s = n → I a1 a2 a3 a4 a5 s → Zn d [] [(39, 98), (0, 198)] ([(197, 5, 39), (197, 6, 57), (75, 0, 39), (75, 1, 57), (75, 2, 61)] : zW) ([(197, 5, 39), (197, 6, 57), (75, 0, 39), (75, 1, 57), (75, 2, 61)] : zW) xL_8 6 (some .int) xE_106 (xE_106.drop 36) [.ref 197, .int a1, .int a2, .int a3, .int a4, .int a5, .null, .null] [] s Q := by
    intro n
    induction n using Nat.strongRecOn with
    | ind n ih =>
      intro a1 a2 a3 a4 a5 s e hI
      exact m_106_36_39 hd (fun a1' a2' a3' a4' a5' s' q => ih _ (by rw [← e]; exact q.2) a1' a2' a3' a4' a5' s' rfl q.1) (h1 a1 a2 a3 a4 a5 s hI)
  exact key _ a1 a2 a3 a4 a5 s rfl h0
set_option maxRecDepth 20000 in
theorem m_106_33_39 {d d0 : Nat} (hd : d = d0 + 8)  {a1 : Int32} {a2 : Int32} {a3 : Int32} {t0 : Int32} {s : zS} {Q : Option Value → zS → Prop}  (h : v_106_33 (fun j => Zt d (wd2 39 j) j) 39  a1 a2 a3 t0 s Q) : Zn d [] [(39, 98), (0, 198)] ([(197, 5, 39), (197, 6, 57), (75, 0, 39), (75, 1, 57), (75, 2, 61)] : zW) ([(197, 5, 39), (197, 6, 57), (75, 0, 39), (75, 1, 57), (75, 2, 61)] : zW) xL_8 6 (some .int) xE_106 (xE_106.drop 33) [.ref 197, .int a1, .int a2, .int a3, .null, .null, .null, .null] [.int t0] s Q := by
  unfold v_106_33 at h
  refine zn_st [.ref 197, .int a1, .int a2, .int a3, .int t0, .null, .null, .null] rfl rfl rfl ?_
  refine zn_ld rfl rfl rfl ?_
  refine zn_st [.ref 197, .int a1, .int a2, .int a3, .int t0, .int a3, .null, .null] rfl rfl rfl ?_
  exact ml_106_36_39 hd  h
set_option maxRecDepth 20000 in
theorem m_106_0_39 {d d0 : Nat} (hd : d = d0 + 8)  {a1 : Int32} {s : zS} {Q : Option Value → zS → Prop}  (h : v_106_0 (fun j => Zt d (wd2 39 j) j) 39  a1 s Q) : Zn d [] [(39, 98), (0, 198)] ([(197, 5, 39), (197, 6, 57), (75, 0, 39), (75, 1, 57), (75, 2, 61)] : zW) ([(197, 5, 39), (197, 6, 57), (75, 0, 39), (75, 1, 57), (75, 2, 61)] : zW) xL_8 6 (some .int) xE_106 (xE_106.drop 0) [.ref 197, .int a1, .null, .null, .null, .null, .null, .null] [] s Q := by
  unfold v_106_0 at h
  refine zn_ld rfl rfl rfl ?_
  refine zn_get (v := .ref 75) rfl (zv_R (a := 197) rfl rfl) ?_
  refine zn_get (v := .int (s.1 75 3)) rfl (zv_I (a := 75) rfl rfl) ?_
  refine zn_st [.ref 197, .int a1, .int (s.1 75 3), .null, .null, .null, .null, .null] rfl rfl rfl ?_
  refine zn_ld rfl rfl rfl ?_
  refine zn_get (v := .ref 75) rfl (zv_R (a := 197) rfl rfl) ?_
  refine zn_ld rfl rfl rfl ?_
  refine zn_ld rfl rfl rfl ?_
  refine zn_get (v := .ref 75) rfl (zv_R (a := 197) rfl rfl) ?_
  refine zn_get (v := .ref 76) rfl (zv_R (a := 75) rfl rfl) ?_
  refine zn_zt [.ref 75, .int a1, .ref 76] [] rfl rfl rfl rfl rfl (Zt.imp h (fun v1 s2 h => ?_))
  obtain ⟨x3, rfl, h⟩ := h
  change Zn _ _ _ _ _ _ _ _ _ _ _ [.int x3] _ _
  refine zn_st [.ref 197, .int a1, .int (s.1 75 3), .int x3, .null, .null, .null, .null] rfl rfl rfl ?_
  refine zn_ld rfl rfl rfl ?_
  refine zn_get (v := .ref 75) rfl (zv_R (a := 197) rfl rfl) ?_
  refine zn_ld rfl rfl rfl ?_
  refine zn_putI (a := 75) rfl rfl rfl rfl ⟨Int32.le_toInt _, Int.le_of_lt_add_one (Int32.toInt_lt _)⟩ rfl rfl rfl ?_
  replace h := h _ rfl
  refine zn_ld rfl rfl rfl ?_
  refine zn_brP rfl rfl ⟨fun hcn => ?_, fun hcn => ?_⟩
  · replace h := h.1 ((i_le (x := 0) (y := x3) (show (0 : Int32).toInt = 0 by decide) rfl).mp hcn)
    refine zn_ld rfl rfl rfl ?_
    refine zn_ld rfl rfl rfl ?_
    refine zn_zt [.ref 197, .int x3] [] rfl rfl rfl rfl rfl (Zt.imp h (fun v5 s6 h => ?_))
    obtain ⟨x7, rfl, h⟩ := h
    change Zn _ _ _ _ _ _ _ _ _ _ _ [.int x7] _ _
    refine zn_brP rfl rfl ⟨fun hcn => ?_, fun hcn => ?_⟩
    · replace h := h.1 ((i_le (x := 0) (y := x7) (show (0 : Int32).toInt = 0 by decide) rfl).mp hcn)
      refine zn_ld rfl rfl rfl ?_
      exact m_106_33_39 hd  h
    · replace h := h.2 (fun q => hcn ((i_le (x := 0) (y := x7) (show (0 : Int32).toInt = 0 by decide) rfl).mpr q))
      refine zn_ld rfl rfl rfl ?_
      refine zn_get (v := .ref 75) rfl (zv_R (a := 197) rfl rfl) ?_
      refine zn_ld rfl rfl rfl ?_
      refine zn_zt [.ref 75, .int x3] [] rfl rfl rfl rfl rfl (Zt.imp h (fun v8 s9 h => ?_))
      obtain ⟨x10, rfl, h⟩ := h
      change Zn _ _ _ _ _ _ _ _ _ _ _ [.int x10] _ _
      refine zn_go rfl ?_
      exact m_106_33_39 hd  h
  · replace h := h.2 (fun q => hcn ((i_le (x := 0) (y := x3) (show (0 : Int32).toInt = 0 by decide) rfl).mpr q))
    refine zn_ld rfl rfl rfl ?_
    refine zn_c [.int 1, .ref 197] (xo_push (.int 1)) rfl rfl ?_
    refine zn_putI (a := 197) rfl rfl rfl rfl (by decide) rfl rfl rfl ?_
    replace h := h _ rfl
    refine zn_c [.int (-1)] (xo_push (.int (-1))) rfl rfl ?_
    exact zn_retI rfl h
theorem zq_106_39 {d : Nat} {a1 : Int32} {s : zS} {Q : Option Value → zS → Prop} (h : v_106_0 (fun j => Zt (d + 8) (wd2 39 j) j) 39 a1 s Q) : Zt (d + 9) ([(197, 5, 39), (197, 6, 57), (75, 0, 39), (75, 1, 57), (75, 2, 61)] : zW) 106 [.ref 197, .int a1] s Q := zt_of (E := xE_106) (L := xL_8) (ml := 6) (ret := some .int) rfl rfl rfl (m_106_0_39 rfl h)
theorem zc_106 {d P : Nat} (hP : P = 3 ∨ P = 39) {a1 : Int32} {s : zS} {Q : Option Value → zS → Prop} (h : v_106_0 (fun j => Zt (d + 8) (wd2 P j) j) P a1 s Q) : Zt (d + 9) (wd2 P 106) 106 [.ref 197, .int a1] s Q := by
  rcases hP with rfl | rfl
  · exact zq_106_3 h
  · exact zq_106_39 h
/-! FeatherBench$Stock.addMethod -/
def v_100_53 (T : Nat → List Value → zS → (Option Value → zS → Prop) → Prop) (P : Nat)  (a1 : Int32) (a2 : Int32) (a3 : Int32) (a4 : Int32) (s : zS) (Q : Option Value → zS → Prop) : Prop :=
  Q none s
def v_100_39 (T : Nat → List Value → zS → (Option Value → zS → Prop) → Prop) (P : Nat) (R39 : Int32 → Int32 → Int32 → Int32 → zS → Prop) (a1 : Int32) (a2 : Int32) (a3 : Int32) (a4 : Int32) (s : zS) (Q : Option Value → zS → Prop) : Prop :=
  (9 ≤ a4.toInt → T 104 [.ref 197] s (fun v1 s2 => v1 = none ∧ (v_100_53 T P  a1 a2 a3 a4 s2 Q))) ∧ (¬ (9 ≤ a4.toInt) → (-1000 ≤ (zg s 204 a4).toInt ∧ (zg s 204 a4).toInt ≤ 1000000000) ∧ (∀ s3, s3 = za s 202 (zg s 204 a4) → ∀ x4 : Int32, (-2147483648 ≤ a4.toInt + 1 ∧ a4.toInt + 1 ≤ 2147483647 → x4.toInt = a4.toInt + 1) → R39 a1 a2 a3 x4 s3))
def vl_100_39 (T : Nat → List Value → zS → (Option Value → zS → Prop) → Prop) (P : Nat)  (a1 : Int32) (a2 : Int32) (a3 : Int32) (a4 : Int32) (s : zS) (Q : Option Value → zS → Prop) : Prop :=
  ∃ (I : Int32 → Int32 → Int32 → Int32 → zS → Prop) (μ : Int32 → Int32 → Int32 → Int32 → zS → Nat), I a1 a2 a3 a4 s ∧ ∀ (a1 : Int32) (a2 : Int32) (a3 : Int32) (a4 : Int32) (s : zS), I a1 a2 a3 a4 s → v_100_39 T P (fun a1' a2' a3' a4' s' => I a1' a2' a3' a4' s' ∧ μ a1' a2' a3' a4' s' < μ a1 a2 a3 a4 s) a1 a2 a3 a4 s Q
def v_100_12 (T : Nat → List Value → zS → (Option Value → zS → Prop) → Prop) (P : Nat) (R12 : Int32 → Int32 → Int32 → Int32 → zS → Prop) (a1 : Int32) (a2 : Int32) (a3 : Int32) (a4 : Int32) (s : zS) (Q : Option Value → zS → Prop) : Prop :=
  (6 ≤ a4.toInt → T 103 [.ref 197, .ref 202, .int 9] s (fun v1 s2 => ∃ x3, v1 = some (.int x3) ∧ ((¬ (x3.toInt = 0) → v_100_53 T P  a1 a2 a3 a4 s2 Q) ∧ (x3.toInt = 0 → vl_100_39 T P  a1 a2 a3 0 s2 Q)))) ∧ (¬ (6 ≤ a4.toInt) → ∀ x4 : Int32, (-2147483648 ≤ 3 + a4.toInt ∧ 3 + a4.toInt ≤ 2147483647 → x4.toInt = 3 + a4.toInt) → ∀ x5 : Int32, (-2147483648 ≤ a1.toInt + 3 ∧ a1.toInt + 3 ≤ 2147483647 → x5.toInt = a1.toInt + 3) → ∀ x6 : Int32, (-2147483648 ≤ x5.toInt + a4.toInt ∧ x5.toInt + a4.toInt ≤ 2147483647 → x6.toInt = x5.toInt + a4.toInt) → (-1000 ≤ (zg s 200 x6).toInt ∧ (zg s 200 x6).toInt ≤ 1000000000) ∧ (∀ s7, s7 = zt s 204 x4 (zg s 200 x6) → ∀ x8 : Int32, (-2147483648 ≤ a4.toInt + 1 ∧ a4.toInt + 1 ≤ 2147483647 → x8.toInt = a4.toInt + 1) → R12 a1 a2 a3 x8 s7))
def vl_100_12 (T : Nat → List Value → zS → (Option Value → zS → Prop) → Prop) (P : Nat)  (a1 : Int32) (a2 : Int32) (a3 : Int32) (a4 : Int32) (s : zS) (Q : Option Value → zS → Prop) : Prop :=
  ∃ (I : Int32 → Int32 → Int32 → Int32 → zS → Prop) (μ : Int32 → Int32 → Int32 → Int32 → zS → Nat), I a1 a2 a3 a4 s ∧ ∀ (a1 : Int32) (a2 : Int32) (a3 : Int32) (a4 : Int32) (s : zS), I a1 a2 a3 a4 s → v_100_12 T P (fun a1' a2' a3' a4' s' => I a1' a2' a3' a4' s' ∧ μ a1' a2' a3' a4' s' < μ a1 a2 a3 a4 s) a1 a2 a3 a4 s Q
def v_100_0 (T : Nat → List Value → zS → (Option Value → zS → Prop) → Prop) (P : Nat)  (a1 : Int32) (a2 : Int32) (a3 : Int32) (s : zS) (Q : Option Value → zS → Prop) : Prop :=
  ∀ x1 : Int32, (-2147483648 ≤ a1.toInt + 2 ∧ a1.toInt + 2 ≤ 2147483647 → x1.toInt = a1.toInt + 2) → T 102 [.ref 197, .int a2, .int a3, .int (zg s 200 x1)] s (fun v2 s3 => v2 = none ∧ (vl_100_12 T P  a1 a2 a3 0 s3 Q))
set_option maxRecDepth 20000 in
theorem m_100_53_3 {d d0 : Nat} (hd : d = d0 + 8)  {a1 : Int32} {a2 : Int32} {a3 : Int32} {a4 : Int32} {s : zS} {Q : Option Value → zS → Prop}  (h : v_100_53 (fun j => Zt d (wd2 3 j) j) 3  a1 a2 a3 a4 s Q) : Zn d [] [(0, 198)] ([(197, 5, 3), (197, 6, 21), (75, 0, 3), (75, 1, 21), (75, 2, 25)] : zW) ([(197, 5, 3), (197, 6, 21), (75, 0, 3), (75, 1, 21), (75, 2, 25)] : zW) xL_8 5 (none) xE_100 (xE_100.drop 53) [.ref 197, .int a1, .int a2, .int a3, .int a4, .null, .null, .null, .null] [] s Q := by
  unfold v_100_53 at h
  exact zn_ret0 rfl h
set_option maxRecDepth 20000 in
theorem m_100_39_3 {d d0 : Nat} (hd : d = d0 + 8) {R39 : Int32 → Int32 → Int32 → Int32 → zS → Prop} {a1 : Int32} {a2 : Int32} {a3 : Int32} {a4 : Int32} {s : zS} {Q : Option Value → zS → Prop} (r39 : ∀ a1 a2 a3 a4 s, R39 a1 a2 a3 a4 s → Zn d [] [(0, 198)] ([(197, 5, 3), (197, 6, 21), (75, 0, 3), (75, 1, 21), (75, 2, 25)] : zW) ([(197, 5, 3), (197, 6, 21), (75, 0, 3), (75, 1, 21), (75, 2, 25)] : zW) xL_8 5 (none) xE_100 (xE_100.drop 39) [.ref 197, .int a1, .int a2, .int a3, .int a4, .null, .null, .null, .null] [] s Q) (h : v_100_39 (fun j => Zt d (wd2 3 j) j) 3 R39 a1 a2 a3 a4 s Q) : Zn d [] [(0, 198)] ([(197, 5, 3), (197, 6, 21), (75, 0, 3), (75, 1, 21), (75, 2, 25)] : zW) ([(197, 5, 3), (197, 6, 21), (75, 0, 3), (75, 1, 21), (75, 2, 25)] : zW) xL_8 5 (none) xE_100 (xE_100.drop 39) [.ref 197, .int a1, .int a2, .int a3, .int a4, .null, .null, .null, .null] [] s Q := by
  unfold v_100_39 at h
  refine zn_ld rfl rfl rfl ?_
  refine zn_c [.int 9, .int a4] (xo_push (.int 9)) rfl rfl ?_
  refine zn_brP rfl rfl ⟨fun hcn => ?_, fun hcn => ?_⟩
  · replace h := h.1 ((i_le (x := 9) (y := a4) (show (9 : Int32).toInt = 9 by decide) rfl).mp hcn)
    refine zn_ld rfl rfl rfl ?_
    refine zn_zt [.ref 197] [] rfl rfl rfl rfl rfl (Zt.imp h (fun v1 s2 h => ?_))
    obtain ⟨rfl, h⟩ := h
    change Zn _ _ _ _ _ _ _ _ _ _ _ [] _ _
    exact m_100_53_3 hd  h
  · replace h := h.2 (fun q => hcn ((i_le (x := 9) (y := a4) (show (9 : Int32).toInt = 9 by decide) rfl).mpr q))
    refine zn_ld rfl rfl rfl ?_
    refine zn_get (v := .ref 202) rfl (zv_R (a := 197) rfl rfl) ?_
    refine zn_ld rfl rfl rfl ?_
    refine zn_get (v := .ref 204) rfl (zv_R (a := 197) rfl rfl) ?_
    refine zn_ld rfl rfl rfl ?_
    refine zn_row a4 [.ref 202] (a := 204) hd rfl rfl rfl rfl ?_
    change Zn _ _ _ _ _ _ _ _ _ _ _ [.int (zg s 204 a4), .ref 202] _ _
    obtain ⟨hyS, h⟩ := h
    refine zn_add (zg s 204 a4) [] (a := 202) hd rfl rfl rfl rfl ⟨Int32.le_toInt _, Int.le_of_lt_add_one (Int32.toInt_lt _)⟩ (fun q => absurd q (by decide)) rfl ?_ (hy := fun _ => hyS)
    replace h := h _ rfl
    replace h := h _ (i_add (x := a4) (y := 1) rfl (show (1 : Int32).toInt = 1 by decide))
    refine zn_inc [.ref 197, .int a1, .int a2, .int a3, .int (a4 + 1), .null, .null, .null, .null] rfl rfl rfl rfl ?_
    refine zn_go rfl ?_
    exact r39 a1 a2 a3 (a4 + 1) (za s 202 (zg s 204 a4)) h
theorem ml_100_39_3 {d d0 : Nat} (hd : d = d0 + 8)  {a1 : Int32} {a2 : Int32} {a3 : Int32} {a4 : Int32} {s : zS} {Q : Option Value → zS → Prop}  (h : vl_100_39 (fun j => Zt d (wd2 3 j) j) 3  a1 a2 a3 a4 s Q) : Zn d [] [(0, 198)] ([(197, 5, 3), (197, 6, 21), (75, 0, 3), (75, 1, 21), (75, 2, 25)] : zW) ([(197, 5, 3), (197, 6, 21), (75, 0, 3), (75, 1, 21), (75, 2, 25)] : zW) xL_8 5 (none) xE_100 (xE_100.drop 39) [.ref 197, .int a1, .int a2, .int a3, .int a4, .null, .null, .null, .null] [] s Q := by
  obtain ⟨I, μ, h0, h1⟩ := h
  have key : ∀ (n : Nat) (a1 : Int32) (a2 : Int32) (a3 : Int32) (a4 : Int32) (s : zS), μ a1 a2 a3 a4 s = n → I a1 a2 a3 a4 s → Zn d [] [(0, 198)] ([(197, 5, 3), (197, 6, 21), (75, 0, 3), (75, 1, 21), (75, 2, 25)] : zW) ([(197, 5, 3), (197, 6, 21), (75, 0, 3), (75, 1, 21), (75, 2, 25)] : zW) xL_8 5 (none) xE_100 (xE_100.drop 39) [.ref 197, .int a1, .int a2, .int a3, .int a4, .null, .null, .null, .null] [] s Q := by
    intro n
    induction n using Nat.strongRecOn with
    | ind n ih =>
      intro a1 a2 a3 a4 s e hI
      exact m_100_39_3 hd (fun a1' a2' a3' a4' s' q => ih _ (by rw [← e]; exact q.2) a1' a2' a3' a4' s' rfl q.1) (h1 a1 a2 a3 a4 s hI)
  exact key _ a1 a2 a3 a4 s rfl h0
set_option maxRecDepth 20000 in
theorem m_100_12_3 {d d0 : Nat} (hd : d = d0 + 8) {R12 : Int32 → Int32 → Int32 → Int32 → zS → Prop} {a1 : Int32} {a2 : Int32} {a3 : Int32} {a4 : Int32} {s : zS} {Q : Option Value → zS → Prop} (r12 : ∀ a1 a2 a3 a4 s, R12 a1 a2 a3 a4 s → Zn d [] [(0, 198)] ([(197, 5, 3), (197, 6, 21), (75, 0, 3), (75, 1, 21), (75, 2, 25)] : zW) ([(197, 5, 3), (197, 6, 21), (75, 0, 3), (75, 1, 21), (75, 2, 25)] : zW) xL_8 5 (none) xE_100 (xE_100.drop 12) [.ref 197, .int a1, .int a2, .int a3, .int a4, .null, .null, .null, .null] [] s Q) (h : v_100_12 (fun j => Zt d (wd2 3 j) j) 3 R12 a1 a2 a3 a4 s Q) : Zn d [] [(0, 198)] ([(197, 5, 3), (197, 6, 21), (75, 0, 3), (75, 1, 21), (75, 2, 25)] : zW) ([(197, 5, 3), (197, 6, 21), (75, 0, 3), (75, 1, 21), (75, 2, 25)] : zW) xL_8 5 (none) xE_100 (xE_100.drop 12) [.ref 197, .int a1, .int a2, .int a3, .int a4, .null, .null, .null, .null] [] s Q := by
  unfold v_100_12 at h
  refine zn_ld rfl rfl rfl ?_
  refine zn_c [.int 6, .int a4] (xo_push (.int 6)) rfl rfl ?_
  refine zn_brP rfl rfl ⟨fun hcn => ?_, fun hcn => ?_⟩
  · replace h := h.1 ((i_le (x := 6) (y := a4) (show (6 : Int32).toInt = 6 by decide) rfl).mp hcn)
    refine zn_ld rfl rfl rfl ?_
    refine zn_ld rfl rfl rfl ?_
    refine zn_get (v := .ref 202) rfl (zv_R (a := 197) rfl rfl) ?_
    refine zn_c [.int 9, .ref 202, .ref 197] (xo_push (.int 9)) rfl rfl ?_
    refine zn_zt [.ref 197, .ref 202, .int 9] [] rfl rfl rfl rfl rfl (Zt.imp h (fun v1 s2 h => ?_))
    obtain ⟨x3, rfl, h⟩ := h
    change Zn _ _ _ _ _ _ _ _ _ _ _ [.int x3] _ _
    refine zn_brN rfl rfl ⟨fun hcn => ?_, fun hcn => ?_⟩
    · replace h := h.1 (fun q => hcn ((i_eq (x := x3) (y := 0) rfl (show (0 : Int32).toInt = 0 by decide)).mpr q))
      exact m_100_53_3 hd  h
    · replace h := h.2 ((i_eq (x := x3) (y := 0) rfl (show (0 : Int32).toInt = 0 by decide)).mp hcn)
      refine zn_c [.int 0] (xo_push (.int 0)) rfl rfl ?_
      refine zn_st [.ref 197, .int a1, .int a2, .int a3, .int 0, .null, .null, .null, .null] rfl rfl rfl ?_
      exact ml_100_39_3 hd  h
  · replace h := h.2 (fun q => hcn ((i_le (x := 6) (y := a4) (show (6 : Int32).toInt = 6 by decide) rfl).mpr q))
    refine zn_ld rfl rfl rfl ?_
    refine zn_get (v := .ref 204) rfl (zv_R (a := 197) rfl rfl) ?_
    refine zn_c [.int 3, .ref 204] (xo_push (.int 3)) rfl rfl ?_
    refine zn_ld rfl rfl rfl ?_
    replace h := h _ (i_add (x := 3) (y := a4) (show (3 : Int32).toInt = 3 by decide) rfl)
    refine zn_c [.int (3 + a4), .ref 204] xo_iadd rfl rfl ?_
    refine zn_ld rfl rfl rfl ?_
    refine zn_get (v := .ref 200) rfl (zv_R (a := 197) rfl rfl) ?_
    refine zn_ld rfl rfl rfl ?_
    refine zn_c [.int 3, .int a1, .ref 200, .int (3 + a4), .ref 204] (xo_push (.int 3)) rfl rfl ?_
    replace h := h _ (i_add (x := a1) (y := 3) rfl (show (3 : Int32).toInt = 3 by decide))
    refine zn_c [.int (a1 + 3), .ref 200, .int (3 + a4), .ref 204] xo_iadd rfl rfl ?_
    refine zn_ld rfl rfl rfl ?_
    replace h := h _ (i_add (x := (a1 + 3)) (y := a4) rfl rfl)
    refine zn_c [.int ((a1 + 3) + a4), .ref 200, .int (3 + a4), .ref 204] xo_iadd rfl rfl ?_
    refine zn_row ((a1 + 3) + a4) [.int (3 + a4), .ref 204] (a := 200) hd rfl rfl rfl rfl ?_
    change Zn _ _ _ _ _ _ _ _ _ _ _ [.int (zg s 200 ((a1 + 3) + a4)), .int (3 + a4), .ref 204] _ _
    obtain ⟨hyS, h⟩ := h
    refine zn_set (3 + a4) (zg s 200 ((a1 + 3) + a4)) [] (a := 204) hd rfl rfl rfl rfl ⟨Int32.le_toInt _, Int.le_of_lt_add_one (Int32.toInt_lt _)⟩ rfl rfl ?_ (hy := fun _ => hyS)
    replace h := h _ rfl
    replace h := h _ (i_add (x := a4) (y := 1) rfl (show (1 : Int32).toInt = 1 by decide))
    refine zn_inc [.ref 197, .int a1, .int a2, .int a3, .int (a4 + 1), .null, .null, .null, .null] rfl rfl rfl rfl ?_
    refine zn_go rfl ?_
    exact r12 a1 a2 a3 (a4 + 1) (zt s 204 (3 + a4) (zg s 200 ((a1 + 3) + a4))) h
theorem ml_100_12_3 {d d0 : Nat} (hd : d = d0 + 8)  {a1 : Int32} {a2 : Int32} {a3 : Int32} {a4 : Int32} {s : zS} {Q : Option Value → zS → Prop}  (h : vl_100_12 (fun j => Zt d (wd2 3 j) j) 3  a1 a2 a3 a4 s Q) : Zn d [] [(0, 198)] ([(197, 5, 3), (197, 6, 21), (75, 0, 3), (75, 1, 21), (75, 2, 25)] : zW) ([(197, 5, 3), (197, 6, 21), (75, 0, 3), (75, 1, 21), (75, 2, 25)] : zW) xL_8 5 (none) xE_100 (xE_100.drop 12) [.ref 197, .int a1, .int a2, .int a3, .int a4, .null, .null, .null, .null] [] s Q := by
  obtain ⟨I, μ, h0, h1⟩ := h
  have key : ∀ (n : Nat) (a1 : Int32) (a2 : Int32) (a3 : Int32) (a4 : Int32) (s : zS), μ a1 a2 a3 a4 s = n → I a1 a2 a3 a4 s → Zn d [] [(0, 198)] ([(197, 5, 3), (197, 6, 21), (75, 0, 3), (75, 1, 21), (75, 2, 25)] : zW) ([(197, 5, 3), (197, 6, 21), (75, 0, 3), (75, 1, 21), (75, 2, 25)] : zW) xL_8 5 (none) xE_100 (xE_100.drop 12) [.ref 197, .int a1, .int a2, .int a3, .int a4, .null, .null, .null, .null] [] s Q := by
    intro n
    induction n using Nat.strongRecOn with
    | ind n ih =>
      intro a1 a2 a3 a4 s e hI
      exact m_100_12_3 hd (fun a1' a2' a3' a4' s' q => ih _ (by rw [← e]; exact q.2) a1' a2' a3' a4' s' rfl q.1) (h1 a1 a2 a3 a4 s hI)
  exact key _ a1 a2 a3 a4 s rfl h0
set_option maxRecDepth 20000 in
theorem m_100_0_3 {d d0 : Nat} (hd : d = d0 + 8)  {a1 : Int32} {a2 : Int32} {a3 : Int32} {s : zS} {Q : Option Value → zS → Prop}  (h : v_100_0 (fun j => Zt d (wd2 3 j) j) 3  a1 a2 a3 s Q) : Zn d [] [(0, 198)] ([(197, 5, 3), (197, 6, 21), (75, 0, 3), (75, 1, 21), (75, 2, 25)] : zW) ([(197, 5, 3), (197, 6, 21), (75, 0, 3), (75, 1, 21), (75, 2, 25)] : zW) xL_8 5 (none) xE_100 (xE_100.drop 0) [.ref 197, .int a1, .int a2, .int a3, .null, .null, .null, .null, .null] [] s Q := by
  unfold v_100_0 at h
  refine zn_ld rfl rfl rfl ?_
  refine zn_ld rfl rfl rfl ?_
  refine zn_ld rfl rfl rfl ?_
  refine zn_ld rfl rfl rfl ?_
  refine zn_get (v := .ref 200) rfl (zv_R (a := 197) rfl rfl) ?_
  refine zn_ld rfl rfl rfl ?_
  refine zn_c [.int 2, .int a1, .ref 200, .int a3, .int a2, .ref 197] (xo_push (.int 2)) rfl rfl ?_
  replace h := h _ (i_add (x := a1) (y := 2) rfl (show (2 : Int32).toInt = 2 by decide))
  refine zn_c [.int (a1 + 2), .ref 200, .int a3, .int a2, .ref 197] xo_iadd rfl rfl ?_
  refine zn_row (a1 + 2) [.int a3, .int a2, .ref 197] (a := 200) hd rfl rfl rfl rfl ?_
  change Zn _ _ _ _ _ _ _ _ _ _ _ [.int (zg s 200 (a1 + 2)), .int a3, .int a2, .ref 197] _ _
  refine zn_zt [.ref 197, .int a2, .int a3, .int (zg s 200 (a1 + 2))] [] rfl rfl rfl rfl rfl (Zt.imp h (fun v2 s3 h => ?_))
  obtain ⟨rfl, h⟩ := h
  change Zn _ _ _ _ _ _ _ _ _ _ _ [] _ _
  refine zn_c [.int 0] (xo_push (.int 0)) rfl rfl ?_
  refine zn_st [.ref 197, .int a1, .int a2, .int a3, .int 0, .null, .null, .null, .null] rfl rfl rfl ?_
  exact ml_100_12_3 hd  h
theorem zq_100_3 {d : Nat} {a1 : Int32} {a2 : Int32} {a3 : Int32} {s : zS} {Q : Option Value → zS → Prop} (h : v_100_0 (fun j => Zt (d + 8) (wd2 3 j) j) 3 a1 a2 a3 s Q) : Zt (d + 9) ([(197, 5, 3), (197, 6, 21), (75, 0, 3), (75, 1, 21), (75, 2, 25)] : zW) 100 [.ref 197, .int a1, .int a2, .int a3] s Q := zt_of (E := xE_100) (L := xL_8) (ml := 5) (ret := none) rfl rfl rfl (m_100_0_3 rfl h)
set_option maxRecDepth 20000 in
theorem m_100_53_39 {d d0 : Nat} (hd : d = d0 + 8)  {a1 : Int32} {a2 : Int32} {a3 : Int32} {a4 : Int32} {s : zS} {Q : Option Value → zS → Prop}  (h : v_100_53 (fun j => Zt d (wd2 39 j) j) 39  a1 a2 a3 a4 s Q) : Zn d [] [(0, 198)] ([(197, 5, 39), (197, 6, 57), (75, 0, 39), (75, 1, 57), (75, 2, 61)] : zW) ([(197, 5, 39), (197, 6, 57), (75, 0, 39), (75, 1, 57), (75, 2, 61)] : zW) xL_8 5 (none) xE_100 (xE_100.drop 53) [.ref 197, .int a1, .int a2, .int a3, .int a4, .null, .null, .null, .null] [] s Q := by
  unfold v_100_53 at h
  exact zn_ret0 rfl h
set_option maxRecDepth 20000 in
theorem m_100_39_39 {d d0 : Nat} (hd : d = d0 + 8) {R39 : Int32 → Int32 → Int32 → Int32 → zS → Prop} {a1 : Int32} {a2 : Int32} {a3 : Int32} {a4 : Int32} {s : zS} {Q : Option Value → zS → Prop} (r39 : ∀ a1 a2 a3 a4 s, R39 a1 a2 a3 a4 s → Zn d [] [(0, 198)] ([(197, 5, 39), (197, 6, 57), (75, 0, 39), (75, 1, 57), (75, 2, 61)] : zW) ([(197, 5, 39), (197, 6, 57), (75, 0, 39), (75, 1, 57), (75, 2, 61)] : zW) xL_8 5 (none) xE_100 (xE_100.drop 39) [.ref 197, .int a1, .int a2, .int a3, .int a4, .null, .null, .null, .null] [] s Q) (h : v_100_39 (fun j => Zt d (wd2 39 j) j) 39 R39 a1 a2 a3 a4 s Q) : Zn d [] [(0, 198)] ([(197, 5, 39), (197, 6, 57), (75, 0, 39), (75, 1, 57), (75, 2, 61)] : zW) ([(197, 5, 39), (197, 6, 57), (75, 0, 39), (75, 1, 57), (75, 2, 61)] : zW) xL_8 5 (none) xE_100 (xE_100.drop 39) [.ref 197, .int a1, .int a2, .int a3, .int a4, .null, .null, .null, .null] [] s Q := by
  unfold v_100_39 at h
  refine zn_ld rfl rfl rfl ?_
  refine zn_c [.int 9, .int a4] (xo_push (.int 9)) rfl rfl ?_
  refine zn_brP rfl rfl ⟨fun hcn => ?_, fun hcn => ?_⟩
  · replace h := h.1 ((i_le (x := 9) (y := a4) (show (9 : Int32).toInt = 9 by decide) rfl).mp hcn)
    refine zn_ld rfl rfl rfl ?_
    refine zn_zt [.ref 197] [] rfl rfl rfl rfl rfl (Zt.imp h (fun v1 s2 h => ?_))
    obtain ⟨rfl, h⟩ := h
    change Zn _ _ _ _ _ _ _ _ _ _ _ [] _ _
    exact m_100_53_39 hd  h
  · replace h := h.2 (fun q => hcn ((i_le (x := 9) (y := a4) (show (9 : Int32).toInt = 9 by decide) rfl).mpr q))
    refine zn_ld rfl rfl rfl ?_
    refine zn_get (v := .ref 202) rfl (zv_R (a := 197) rfl rfl) ?_
    refine zn_ld rfl rfl rfl ?_
    refine zn_get (v := .ref 204) rfl (zv_R (a := 197) rfl rfl) ?_
    refine zn_ld rfl rfl rfl ?_
    refine zn_row a4 [.ref 202] (a := 204) hd rfl rfl rfl rfl ?_
    change Zn _ _ _ _ _ _ _ _ _ _ _ [.int (zg s 204 a4), .ref 202] _ _
    obtain ⟨hyS, h⟩ := h
    refine zn_add (zg s 204 a4) [] (a := 202) hd rfl rfl rfl rfl ⟨Int32.le_toInt _, Int.le_of_lt_add_one (Int32.toInt_lt _)⟩ (fun q => absurd q (by decide)) rfl ?_ (hy := fun _ => hyS)
    replace h := h _ rfl
    replace h := h _ (i_add (x := a4) (y := 1) rfl (show (1 : Int32).toInt = 1 by decide))
    refine zn_inc [.ref 197, .int a1, .int a2, .int a3, .int (a4 + 1), .null, .null, .null, .null] rfl rfl rfl rfl ?_
    refine zn_go rfl ?_
    exact r39 a1 a2 a3 (a4 + 1) (za s 202 (zg s 204 a4)) h
theorem ml_100_39_39 {d d0 : Nat} (hd : d = d0 + 8)  {a1 : Int32} {a2 : Int32} {a3 : Int32} {a4 : Int32} {s : zS} {Q : Option Value → zS → Prop}  (h : vl_100_39 (fun j => Zt d (wd2 39 j) j) 39  a1 a2 a3 a4 s Q) : Zn d [] [(0, 198)] ([(197, 5, 39), (197, 6, 57), (75, 0, 39), (75, 1, 57), (75, 2, 61)] : zW) ([(197, 5, 39), (197, 6, 57), (75, 0, 39), (75, 1, 57), (75, 2, 61)] : zW) xL_8 5 (none) xE_100 (xE_100.drop 39) [.ref 197, .int a1, .int a2, .int a3, .int a4, .null, .null, .null, .null] [] s Q := by
  obtain ⟨I, μ, h0, h1⟩ := h
  have key : ∀ (n : Nat) (a1 : Int32) (a2 : Int32) (a3 : Int32) (a4 : Int32) (s : zS), μ a1 a2 a3 a4 s = n → I a1 a2 a3 a4 s → Zn d [] [(0, 198)] ([(197, 5, 39), (197, 6, 57), (75, 0, 39), (75, 1, 57), (75, 2, 61)] : zW) ([(197, 5, 39), (197, 6, 57), (75, 0, 39), (75, 1, 57), (75, 2, 61)] : zW) xL_8 5 (none) xE_100 (xE_100.drop 39) [.ref 197, .int a1, .int a2, .int a3, .int a4, .null, .null, .null, .null] [] s Q := by
    intro n
    induction n using Nat.strongRecOn with
    | ind n ih =>
      intro a1 a2 a3 a4 s e hI
      exact m_100_39_39 hd (fun a1' a2' a3' a4' s' q => ih _ (by rw [← e]; exact q.2) a1' a2' a3' a4' s' rfl q.1) (h1 a1 a2 a3 a4 s hI)
  exact key _ a1 a2 a3 a4 s rfl h0
set_option maxRecDepth 20000 in
theorem m_100_12_39 {d d0 : Nat} (hd : d = d0 + 8) {R12 : Int32 → Int32 → Int32 → Int32 → zS → Prop} {a1 : Int32} {a2 : Int32} {a3 : Int32} {a4 : Int32} {s : zS} {Q : Option Value → zS → Prop} (r12 : ∀ a1 a2 a3 a4 s, R12 a1 a2 a3 a4 s → Zn d [] [(0, 198)] ([(197, 5, 39), (197, 6, 57), (75, 0, 39), (75, 1, 57), (75, 2, 61)] : zW) ([(197, 5, 39), (197, 6, 57), (75, 0, 39), (75, 1, 57), (75, 2, 61)] : zW) xL_8 5 (none) xE_100 (xE_100.drop 12) [.ref 197, .int a1, .int a2, .int a3, .int a4, .null, .null, .null, .null] [] s Q) (h : v_100_12 (fun j => Zt d (wd2 39 j) j) 39 R12 a1 a2 a3 a4 s Q) : Zn d [] [(0, 198)] ([(197, 5, 39), (197, 6, 57), (75, 0, 39), (75, 1, 57), (75, 2, 61)] : zW) ([(197, 5, 39), (197, 6, 57), (75, 0, 39), (75, 1, 57), (75, 2, 61)] : zW) xL_8 5 (none) xE_100 (xE_100.drop 12) [.ref 197, .int a1, .int a2, .int a3, .int a4, .null, .null, .null, .null] [] s Q := by
  unfold v_100_12 at h
  refine zn_ld rfl rfl rfl ?_
  refine zn_c [.int 6, .int a4] (xo_push (.int 6)) rfl rfl ?_
  refine zn_brP rfl rfl ⟨fun hcn => ?_, fun hcn => ?_⟩
  · replace h := h.1 ((i_le (x := 6) (y := a4) (show (6 : Int32).toInt = 6 by decide) rfl).mp hcn)
    refine zn_ld rfl rfl rfl ?_
    refine zn_ld rfl rfl rfl ?_
    refine zn_get (v := .ref 202) rfl (zv_R (a := 197) rfl rfl) ?_
    refine zn_c [.int 9, .ref 202, .ref 197] (xo_push (.int 9)) rfl rfl ?_
    refine zn_zt [.ref 197, .ref 202, .int 9] [] rfl rfl rfl rfl rfl (Zt.imp h (fun v1 s2 h => ?_))
    obtain ⟨x3, rfl, h⟩ := h
    change Zn _ _ _ _ _ _ _ _ _ _ _ [.int x3] _ _
    refine zn_brN rfl rfl ⟨fun hcn => ?_, fun hcn => ?_⟩
    · replace h := h.1 (fun q => hcn ((i_eq (x := x3) (y := 0) rfl (show (0 : Int32).toInt = 0 by decide)).mpr q))
      exact m_100_53_39 hd  h
    · replace h := h.2 ((i_eq (x := x3) (y := 0) rfl (show (0 : Int32).toInt = 0 by decide)).mp hcn)
      refine zn_c [.int 0] (xo_push (.int 0)) rfl rfl ?_
      refine zn_st [.ref 197, .int a1, .int a2, .int a3, .int 0, .null, .null, .null, .null] rfl rfl rfl ?_
      exact ml_100_39_39 hd  h
  · replace h := h.2 (fun q => hcn ((i_le (x := 6) (y := a4) (show (6 : Int32).toInt = 6 by decide) rfl).mpr q))
    refine zn_ld rfl rfl rfl ?_
    refine zn_get (v := .ref 204) rfl (zv_R (a := 197) rfl rfl) ?_
    refine zn_c [.int 3, .ref 204] (xo_push (.int 3)) rfl rfl ?_
    refine zn_ld rfl rfl rfl ?_
    replace h := h _ (i_add (x := 3) (y := a4) (show (3 : Int32).toInt = 3 by decide) rfl)
    refine zn_c [.int (3 + a4), .ref 204] xo_iadd rfl rfl ?_
    refine zn_ld rfl rfl rfl ?_
    refine zn_get (v := .ref 200) rfl (zv_R (a := 197) rfl rfl) ?_
    refine zn_ld rfl rfl rfl ?_
    refine zn_c [.int 3, .int a1, .ref 200, .int (3 + a4), .ref 204] (xo_push (.int 3)) rfl rfl ?_
    replace h := h _ (i_add (x := a1) (y := 3) rfl (show (3 : Int32).toInt = 3 by decide))
    refine zn_c [.int (a1 + 3), .ref 200, .int (3 + a4), .ref 204] xo_iadd rfl rfl ?_
    refine zn_ld rfl rfl rfl ?_
    replace h := h _ (i_add (x := (a1 + 3)) (y := a4) rfl rfl)
    refine zn_c [.int ((a1 + 3) + a4), .ref 200, .int (3 + a4), .ref 204] xo_iadd rfl rfl ?_
    refine zn_row ((a1 + 3) + a4) [.int (3 + a4), .ref 204] (a := 200) hd rfl rfl rfl rfl ?_
    change Zn _ _ _ _ _ _ _ _ _ _ _ [.int (zg s 200 ((a1 + 3) + a4)), .int (3 + a4), .ref 204] _ _
    obtain ⟨hyS, h⟩ := h
    refine zn_set (3 + a4) (zg s 200 ((a1 + 3) + a4)) [] (a := 204) hd rfl rfl rfl rfl ⟨Int32.le_toInt _, Int.le_of_lt_add_one (Int32.toInt_lt _)⟩ rfl rfl ?_ (hy := fun _ => hyS)
    replace h := h _ rfl
    replace h := h _ (i_add (x := a4) (y := 1) rfl (show (1 : Int32).toInt = 1 by decide))
    refine zn_inc [.ref 197, .int a1, .int a2, .int a3, .int (a4 + 1), .null, .null, .null, .null] rfl rfl rfl rfl ?_
    refine zn_go rfl ?_
    exact r12 a1 a2 a3 (a4 + 1) (zt s 204 (3 + a4) (zg s 200 ((a1 + 3) + a4))) h
theorem ml_100_12_39 {d d0 : Nat} (hd : d = d0 + 8)  {a1 : Int32} {a2 : Int32} {a3 : Int32} {a4 : Int32} {s : zS} {Q : Option Value → zS → Prop}  (h : vl_100_12 (fun j => Zt d (wd2 39 j) j) 39  a1 a2 a3 a4 s Q) : Zn d [] [(0, 198)] ([(197, 5, 39), (197, 6, 57), (75, 0, 39), (75, 1, 57), (75, 2, 61)] : zW) ([(197, 5, 39), (197, 6, 57), (75, 0, 39), (75, 1, 57), (75, 2, 61)] : zW) xL_8 5 (none) xE_100 (xE_100.drop 12) [.ref 197, .int a1, .int a2, .int a3, .int a4, .null, .null, .null, .null] [] s Q := by
  obtain ⟨I, μ, h0, h1⟩ := h
  have key : ∀ (n : Nat) (a1 : Int32) (a2 : Int32) (a3 : Int32) (a4 : Int32) (s : zS), μ a1 a2 a3 a4 s = n → I a1 a2 a3 a4 s → Zn d [] [(0, 198)] ([(197, 5, 39), (197, 6, 57), (75, 0, 39), (75, 1, 57), (75, 2, 61)] : zW) ([(197, 5, 39), (197, 6, 57), (75, 0, 39), (75, 1, 57), (75, 2, 61)] : zW) xL_8 5 (none) xE_100 (xE_100.drop 12) [.ref 197, .int a1, .int a2, .int a3, .int a4, .null, .null, .null, .null] [] s Q := by
    intro n
    induction n using Nat.strongRecOn with
    | ind n ih =>
      intro a1 a2 a3 a4 s e hI
      exact m_100_12_39 hd (fun a1' a2' a3' a4' s' q => ih _ (by rw [← e]; exact q.2) a1' a2' a3' a4' s' rfl q.1) (h1 a1 a2 a3 a4 s hI)
  exact key _ a1 a2 a3 a4 s rfl h0
set_option maxRecDepth 20000 in
theorem m_100_0_39 {d d0 : Nat} (hd : d = d0 + 8)  {a1 : Int32} {a2 : Int32} {a3 : Int32} {s : zS} {Q : Option Value → zS → Prop}  (h : v_100_0 (fun j => Zt d (wd2 39 j) j) 39  a1 a2 a3 s Q) : Zn d [] [(0, 198)] ([(197, 5, 39), (197, 6, 57), (75, 0, 39), (75, 1, 57), (75, 2, 61)] : zW) ([(197, 5, 39), (197, 6, 57), (75, 0, 39), (75, 1, 57), (75, 2, 61)] : zW) xL_8 5 (none) xE_100 (xE_100.drop 0) [.ref 197, .int a1, .int a2, .int a3, .null, .null, .null, .null, .null] [] s Q := by
  unfold v_100_0 at h
  refine zn_ld rfl rfl rfl ?_
  refine zn_ld rfl rfl rfl ?_
  refine zn_ld rfl rfl rfl ?_
  refine zn_ld rfl rfl rfl ?_
  refine zn_get (v := .ref 200) rfl (zv_R (a := 197) rfl rfl) ?_
  refine zn_ld rfl rfl rfl ?_
  refine zn_c [.int 2, .int a1, .ref 200, .int a3, .int a2, .ref 197] (xo_push (.int 2)) rfl rfl ?_
  replace h := h _ (i_add (x := a1) (y := 2) rfl (show (2 : Int32).toInt = 2 by decide))
  refine zn_c [.int (a1 + 2), .ref 200, .int a3, .int a2, .ref 197] xo_iadd rfl rfl ?_
  refine zn_row (a1 + 2) [.int a3, .int a2, .ref 197] (a := 200) hd rfl rfl rfl rfl ?_
  change Zn _ _ _ _ _ _ _ _ _ _ _ [.int (zg s 200 (a1 + 2)), .int a3, .int a2, .ref 197] _ _
  refine zn_zt [.ref 197, .int a2, .int a3, .int (zg s 200 (a1 + 2))] [] rfl rfl rfl rfl rfl (Zt.imp h (fun v2 s3 h => ?_))
  obtain ⟨rfl, h⟩ := h
  change Zn _ _ _ _ _ _ _ _ _ _ _ [] _ _
  refine zn_c [.int 0] (xo_push (.int 0)) rfl rfl ?_
  refine zn_st [.ref 197, .int a1, .int a2, .int a3, .int 0, .null, .null, .null, .null] rfl rfl rfl ?_
  exact ml_100_12_39 hd  h
theorem zq_100_39 {d : Nat} {a1 : Int32} {a2 : Int32} {a3 : Int32} {s : zS} {Q : Option Value → zS → Prop} (h : v_100_0 (fun j => Zt (d + 8) (wd2 39 j) j) 39 a1 a2 a3 s Q) : Zt (d + 9) ([(197, 5, 39), (197, 6, 57), (75, 0, 39), (75, 1, 57), (75, 2, 61)] : zW) 100 [.ref 197, .int a1, .int a2, .int a3] s Q := zt_of (E := xE_100) (L := xL_8) (ml := 5) (ret := none) rfl rfl rfl (m_100_0_39 rfl h)
theorem zc_100 {d P : Nat} (hP : P = 3 ∨ P = 39) {a1 : Int32} {a2 : Int32} {a3 : Int32} {s : zS} {Q : Option Value → zS → Prop} (h : v_100_0 (fun j => Zt (d + 8) (wd2 P j) j) P a1 a2 a3 s Q) : Zt (d + 9) (wd2 P 100) 100 [.ref 197, .int a1, .int a2, .int a3] s Q := by
  rcases hP with rfl | rfl
  · exact zq_100_3 h
  · exact zq_100_39 h
/-! FeatherBench$Stock.openMethod -/
def v_101_14 (T : Nat → List Value → zS → (Option Value → zS → Prop) → Prop) (P : Nat) (R14 : Int32 → Int32 → zS → Prop) (a1 : Int32) (a2 : Int32) (s : zS) (Q : Option Value → zS → Prop) : Prop :=
  ∀ x1 : Int32, (-2147483648 ≤ a1.toInt + 2 ∧ a1.toInt + 2 ≤ 2147483647 → x1.toInt = a1.toInt + 2) → ((zg s 202 x1).toInt ≤ a2.toInt → ∀ x2 : Int32, (-2147483648 ≤ a1.toInt + 1 ∧ a1.toInt + 1 ≤ 2147483647 → x2.toInt = a1.toInt + 1) → Q (some (.int (zg s (P + 26) ((zg s 202 x2) * 10 + 8)))) s) ∧ (¬ ((zg s 202 x1).toInt ≤ a2.toInt) → ∀ x4 : Int32, (-2147483648 ≤ 6 + a2.toInt ∧ 6 + a2.toInt ≤ 2147483647 → x4.toInt = 6 + a2.toInt) → ∀ x5 : Int32, (-2147483648 ≤ a1.toInt + 3 ∧ a1.toInt + 3 ≤ 2147483647 → x5.toInt = a1.toInt + 3) → ∀ x6 : Int32, (-2147483648 ≤ x5.toInt + a2.toInt ∧ x5.toInt + a2.toInt ≤ 2147483647 → x6.toInt = x5.toInt + a2.toInt) → T 85 [.ref 75, .ref 76, .int x4, .int (zg s 202 x6)] s (fun v7 s8 => v7 = none ∧ (∀ x9 : Int32, (-2147483648 ≤ a2.toInt + 1 ∧ a2.toInt + 1 ≤ 2147483647 → x9.toInt = a2.toInt + 1) → R14 a1 x9 s8)))
def vl_101_14 (T : Nat → List Value → zS → (Option Value → zS → Prop) → Prop) (P : Nat)  (a1 : Int32) (a2 : Int32) (s : zS) (Q : Option Value → zS → Prop) : Prop :=
  ∃ (I : Int32 → Int32 → zS → Prop) (μ : Int32 → Int32 → zS → Nat), I a1 a2 s ∧ ∀ (a1 : Int32) (a2 : Int32) (s : zS), I a1 a2 s → v_101_14 T P (fun a1' a2' s' => I a1' a2' s' ∧ μ a1' a2' s' < μ a1 a2 s) a1 a2 s Q
def v_101_0 (T : Nat → List Value → zS → (Option Value → zS → Prop) → Prop) (P : Nat)  (a1 : Int32) (s : zS) (Q : Option Value → zS → Prop) : Prop :=
  T 86 [.ref 75, .ref 76, .int (zg s 202 a1), .int 0, .int 0] s (fun v1 s2 => v1 = none ∧ (vl_101_14 T P  a1 0 s2 Q))
set_option maxRecDepth 20000 in
theorem m_101_14_3 {d d0 : Nat} (hd : d = d0 + 8) {R14 : Int32 → Int32 → zS → Prop} {a1 : Int32} {a2 : Int32} {s : zS} {Q : Option Value → zS → Prop} (r14 : ∀ a1 a2 s, R14 a1 a2 s → Zn d [] [(0, 198)] ([(197, 5, 3), (197, 6, 21), (75, 0, 3), (75, 1, 21), (75, 2, 25)] : zW) ([(197, 5, 3), (197, 6, 21), (75, 0, 3), (75, 1, 21), (75, 2, 25)] : zW) xL_8 3 (some .int) xE_101 (xE_101.drop 14) [.ref 197, .int a1, .int a2, .null, .null] [] s Q) (h : v_101_14 (fun j => Zt d (wd2 3 j) j) 3 R14 a1 a2 s Q) : Zn d [] [(0, 198)] ([(197, 5, 3), (197, 6, 21), (75, 0, 3), (75, 1, 21), (75, 2, 25)] : zW) ([(197, 5, 3), (197, 6, 21), (75, 0, 3), (75, 1, 21), (75, 2, 25)] : zW) xL_8 3 (some .int) xE_101 (xE_101.drop 14) [.ref 197, .int a1, .int a2, .null, .null] [] s Q := by
  unfold v_101_14 at h
  refine zn_ld rfl rfl rfl ?_
  refine zn_ld rfl rfl rfl ?_
  refine zn_get (v := .ref 202) rfl (zv_R (a := 197) rfl rfl) ?_
  refine zn_ld rfl rfl rfl ?_
  refine zn_c [.int 2, .int a1, .ref 202, .int a2] (xo_push (.int 2)) rfl rfl ?_
  replace h := h _ (i_add (x := a1) (y := 2) rfl (show (2 : Int32).toInt = 2 by decide))
  refine zn_c [.int (a1 + 2), .ref 202, .int a2] xo_iadd rfl rfl ?_
  refine zn_row (a1 + 2) [.int a2] (a := 202) hd rfl rfl rfl rfl ?_
  change Zn _ _ _ _ _ _ _ _ _ _ _ [.int (zg s 202 (a1 + 2)), .int a2] _ _
  refine zn_brP rfl rfl ⟨fun hcn => ?_, fun hcn => ?_⟩
  · replace h := h.1 ((i_le (x := zg s 202 (a1 + 2)) (y := a2) rfl rfl).mp hcn)
    refine zn_ld rfl rfl rfl ?_
    refine zn_get (v := .ref 3) rfl (zv_C (a := 197) (n := 0) rfl rfl rfl) ?_
    refine zn_ld rfl rfl rfl ?_
    refine zn_get (v := .ref 202) rfl (zv_R (a := 197) rfl rfl) ?_
    refine zn_ld rfl rfl rfl ?_
    refine zn_c [.int 1, .int a1, .ref 202, .ref 3] (xo_push (.int 1)) rfl rfl ?_
    replace h := h _ (i_add (x := a1) (y := 1) rfl (show (1 : Int32).toInt = 1 by decide))
    refine zn_c [.int (a1 + 1), .ref 202, .ref 3] xo_iadd rfl rfl ?_
    refine zn_row (a1 + 1) [.ref 3] (a := 202) hd rfl rfl rfl rfl ?_
    change Zn _ _ _ _ _ _ _ _ _ _ _ [.int (zg s 202 (a1 + 1)), .ref 3] _ _
    refine zn_c [.int 8, .int (zg s 202 (a1 + 1)), .ref 3] (xo_push (.int 8)) rfl rfl ?_
    refine zn_zt [.ref 3, .int (zg s 202 (a1 + 1)), .int 8] [] (c := []) rfl rfl rfl rfl rfl (Zt.imp (zp_40 hd (Or.inl rfl)) (fun vq sq hq => ?_))
    obtain ⟨rfl, hq⟩ := hq
    rw [hq]
    change Zn _ _ _ _ _ _ _ _ _ _ _ [.int (zg s 29 ((zg s 202 (a1 + 1)) * 10 + 8))] _ _
    exact zn_retI rfl h
  · replace h := h.2 (fun q => hcn ((i_le (x := zg s 202 (a1 + 2)) (y := a2) rfl rfl).mpr q))
    refine zn_ld rfl rfl rfl ?_
    refine zn_get (v := .ref 75) rfl (zv_R (a := 197) rfl rfl) ?_
    refine zn_ld rfl rfl rfl ?_
    refine zn_get (v := .ref 75) rfl (zv_R (a := 197) rfl rfl) ?_
    refine zn_get (v := .ref 76) rfl (zv_R (a := 75) rfl rfl) ?_
    refine zn_c [.int 6, .ref 76, .ref 75] (xo_push (.int 6)) rfl rfl ?_
    refine zn_ld rfl rfl rfl ?_
    replace h := h _ (i_add (x := 6) (y := a2) (show (6 : Int32).toInt = 6 by decide) rfl)
    refine zn_c [.int (6 + a2), .ref 76, .ref 75] xo_iadd rfl rfl ?_
    refine zn_ld rfl rfl rfl ?_
    refine zn_get (v := .ref 202) rfl (zv_R (a := 197) rfl rfl) ?_
    refine zn_ld rfl rfl rfl ?_
    refine zn_c [.int 3, .int a1, .ref 202, .int (6 + a2), .ref 76, .ref 75] (xo_push (.int 3)) rfl rfl ?_
    replace h := h _ (i_add (x := a1) (y := 3) rfl (show (3 : Int32).toInt = 3 by decide))
    refine zn_c [.int (a1 + 3), .ref 202, .int (6 + a2), .ref 76, .ref 75] xo_iadd rfl rfl ?_
    refine zn_ld rfl rfl rfl ?_
    replace h := h _ (i_add (x := (a1 + 3)) (y := a2) rfl rfl)
    refine zn_c [.int ((a1 + 3) + a2), .ref 202, .int (6 + a2), .ref 76, .ref 75] xo_iadd rfl rfl ?_
    refine zn_row ((a1 + 3) + a2) [.int (6 + a2), .ref 76, .ref 75] (a := 202) hd rfl rfl rfl rfl ?_
    change Zn _ _ _ _ _ _ _ _ _ _ _ [.int (zg s 202 ((a1 + 3) + a2)), .int (6 + a2), .ref 76, .ref 75] _ _
    refine zn_zt [.ref 75, .ref 76, .int (6 + a2), .int (zg s 202 ((a1 + 3) + a2))] [] rfl rfl rfl rfl rfl (Zt.imp h (fun v7 s8 h => ?_))
    obtain ⟨rfl, h⟩ := h
    change Zn _ _ _ _ _ _ _ _ _ _ _ [] _ _
    replace h := h _ (i_add (x := a2) (y := 1) rfl (show (1 : Int32).toInt = 1 by decide))
    refine zn_inc [.ref 197, .int a1, .int (a2 + 1), .null, .null] rfl rfl rfl rfl ?_
    refine zn_go rfl ?_
    exact r14 a1 (a2 + 1) s8 h
theorem ml_101_14_3 {d d0 : Nat} (hd : d = d0 + 8)  {a1 : Int32} {a2 : Int32} {s : zS} {Q : Option Value → zS → Prop}  (h : vl_101_14 (fun j => Zt d (wd2 3 j) j) 3  a1 a2 s Q) : Zn d [] [(0, 198)] ([(197, 5, 3), (197, 6, 21), (75, 0, 3), (75, 1, 21), (75, 2, 25)] : zW) ([(197, 5, 3), (197, 6, 21), (75, 0, 3), (75, 1, 21), (75, 2, 25)] : zW) xL_8 3 (some .int) xE_101 (xE_101.drop 14) [.ref 197, .int a1, .int a2, .null, .null] [] s Q := by
  obtain ⟨I, μ, h0, h1⟩ := h
  have key : ∀ (n : Nat) (a1 : Int32) (a2 : Int32) (s : zS), μ a1 a2 s = n → I a1 a2 s → Zn d [] [(0, 198)] ([(197, 5, 3), (197, 6, 21), (75, 0, 3), (75, 1, 21), (75, 2, 25)] : zW) ([(197, 5, 3), (197, 6, 21), (75, 0, 3), (75, 1, 21), (75, 2, 25)] : zW) xL_8 3 (some .int) xE_101 (xE_101.drop 14) [.ref 197, .int a1, .int a2, .null, .null] [] s Q := by
    intro n
    induction n using Nat.strongRecOn with
    | ind n ih =>
      intro a1 a2 s e hI
      exact m_101_14_3 hd (fun a1' a2' s' q => ih _ (by rw [← e]; exact q.2) a1' a2' s' rfl q.1) (h1 a1 a2 s hI)
  exact key _ a1 a2 s rfl h0
set_option maxRecDepth 20000 in
theorem m_101_0_3 {d d0 : Nat} (hd : d = d0 + 8)  {a1 : Int32} {s : zS} {Q : Option Value → zS → Prop}  (h : v_101_0 (fun j => Zt d (wd2 3 j) j) 3  a1 s Q) : Zn d [] [(0, 198)] ([(197, 5, 3), (197, 6, 21), (75, 0, 3), (75, 1, 21), (75, 2, 25)] : zW) ([(197, 5, 3), (197, 6, 21), (75, 0, 3), (75, 1, 21), (75, 2, 25)] : zW) xL_8 3 (some .int) xE_101 (xE_101.drop 0) [.ref 197, .int a1, .null, .null, .null] [] s Q := by
  unfold v_101_0 at h
  refine zn_ld rfl rfl rfl ?_
  refine zn_get (v := .ref 75) rfl (zv_R (a := 197) rfl rfl) ?_
  refine zn_ld rfl rfl rfl ?_
  refine zn_get (v := .ref 75) rfl (zv_R (a := 197) rfl rfl) ?_
  refine zn_get (v := .ref 76) rfl (zv_R (a := 75) rfl rfl) ?_
  refine zn_ld rfl rfl rfl ?_
  refine zn_get (v := .ref 202) rfl (zv_R (a := 197) rfl rfl) ?_
  refine zn_ld rfl rfl rfl ?_
  refine zn_row a1 [.ref 76, .ref 75] (a := 202) hd rfl rfl rfl rfl ?_
  change Zn _ _ _ _ _ _ _ _ _ _ _ [.int (zg s 202 a1), .ref 76, .ref 75] _ _
  refine zn_c [.int 0, .int (zg s 202 a1), .ref 76, .ref 75] (xo_push (.int 0)) rfl rfl ?_
  refine zn_c [.int 0, .int 0, .int (zg s 202 a1), .ref 76, .ref 75] (xo_push (.int 0)) rfl rfl ?_
  refine zn_zt [.ref 75, .ref 76, .int (zg s 202 a1), .int 0, .int 0] [] rfl rfl rfl rfl rfl (Zt.imp h (fun v1 s2 h => ?_))
  obtain ⟨rfl, h⟩ := h
  change Zn _ _ _ _ _ _ _ _ _ _ _ [] _ _
  refine zn_c [.int 0] (xo_push (.int 0)) rfl rfl ?_
  refine zn_st [.ref 197, .int a1, .int 0, .null, .null] rfl rfl rfl ?_
  exact ml_101_14_3 hd  h
theorem zq_101_3 {d : Nat} {a1 : Int32} {s : zS} {Q : Option Value → zS → Prop} (h : v_101_0 (fun j => Zt (d + 8) (wd2 3 j) j) 3 a1 s Q) : Zt (d + 9) ([(197, 5, 3), (197, 6, 21), (75, 0, 3), (75, 1, 21), (75, 2, 25)] : zW) 101 [.ref 197, .int a1] s Q := zt_of (E := xE_101) (L := xL_8) (ml := 3) (ret := some .int) rfl rfl rfl (m_101_0_3 rfl h)
set_option maxRecDepth 20000 in
theorem m_101_14_39 {d d0 : Nat} (hd : d = d0 + 8) {R14 : Int32 → Int32 → zS → Prop} {a1 : Int32} {a2 : Int32} {s : zS} {Q : Option Value → zS → Prop} (r14 : ∀ a1 a2 s, R14 a1 a2 s → Zn d [] [(0, 198)] ([(197, 5, 39), (197, 6, 57), (75, 0, 39), (75, 1, 57), (75, 2, 61)] : zW) ([(197, 5, 39), (197, 6, 57), (75, 0, 39), (75, 1, 57), (75, 2, 61)] : zW) xL_8 3 (some .int) xE_101 (xE_101.drop 14) [.ref 197, .int a1, .int a2, .null, .null] [] s Q) (h : v_101_14 (fun j => Zt d (wd2 39 j) j) 39 R14 a1 a2 s Q) : Zn d [] [(0, 198)] ([(197, 5, 39), (197, 6, 57), (75, 0, 39), (75, 1, 57), (75, 2, 61)] : zW) ([(197, 5, 39), (197, 6, 57), (75, 0, 39), (75, 1, 57), (75, 2, 61)] : zW) xL_8 3 (some .int) xE_101 (xE_101.drop 14) [.ref 197, .int a1, .int a2, .null, .null] [] s Q := by
  unfold v_101_14 at h
  refine zn_ld rfl rfl rfl ?_
  refine zn_ld rfl rfl rfl ?_
  refine zn_get (v := .ref 202) rfl (zv_R (a := 197) rfl rfl) ?_
  refine zn_ld rfl rfl rfl ?_
  refine zn_c [.int 2, .int a1, .ref 202, .int a2] (xo_push (.int 2)) rfl rfl ?_
  replace h := h _ (i_add (x := a1) (y := 2) rfl (show (2 : Int32).toInt = 2 by decide))
  refine zn_c [.int (a1 + 2), .ref 202, .int a2] xo_iadd rfl rfl ?_
  refine zn_row (a1 + 2) [.int a2] (a := 202) hd rfl rfl rfl rfl ?_
  change Zn _ _ _ _ _ _ _ _ _ _ _ [.int (zg s 202 (a1 + 2)), .int a2] _ _
  refine zn_brP rfl rfl ⟨fun hcn => ?_, fun hcn => ?_⟩
  · replace h := h.1 ((i_le (x := zg s 202 (a1 + 2)) (y := a2) rfl rfl).mp hcn)
    refine zn_ld rfl rfl rfl ?_
    refine zn_get (v := .ref 39) rfl (zv_C (a := 197) (n := 0) rfl rfl rfl) ?_
    refine zn_ld rfl rfl rfl ?_
    refine zn_get (v := .ref 202) rfl (zv_R (a := 197) rfl rfl) ?_
    refine zn_ld rfl rfl rfl ?_
    refine zn_c [.int 1, .int a1, .ref 202, .ref 39] (xo_push (.int 1)) rfl rfl ?_
    replace h := h _ (i_add (x := a1) (y := 1) rfl (show (1 : Int32).toInt = 1 by decide))
    refine zn_c [.int (a1 + 1), .ref 202, .ref 39] xo_iadd rfl rfl ?_
    refine zn_row (a1 + 1) [.ref 39] (a := 202) hd rfl rfl rfl rfl ?_
    change Zn _ _ _ _ _ _ _ _ _ _ _ [.int (zg s 202 (a1 + 1)), .ref 39] _ _
    refine zn_c [.int 8, .int (zg s 202 (a1 + 1)), .ref 39] (xo_push (.int 8)) rfl rfl ?_
    refine zn_zt [.ref 39, .int (zg s 202 (a1 + 1)), .int 8] [] (c := []) rfl rfl rfl rfl rfl (Zt.imp (zp_40 hd (Or.inr rfl)) (fun vq sq hq => ?_))
    obtain ⟨rfl, hq⟩ := hq
    rw [hq]
    change Zn _ _ _ _ _ _ _ _ _ _ _ [.int (zg s 65 ((zg s 202 (a1 + 1)) * 10 + 8))] _ _
    exact zn_retI rfl h
  · replace h := h.2 (fun q => hcn ((i_le (x := zg s 202 (a1 + 2)) (y := a2) rfl rfl).mpr q))
    refine zn_ld rfl rfl rfl ?_
    refine zn_get (v := .ref 75) rfl (zv_R (a := 197) rfl rfl) ?_
    refine zn_ld rfl rfl rfl ?_
    refine zn_get (v := .ref 75) rfl (zv_R (a := 197) rfl rfl) ?_
    refine zn_get (v := .ref 76) rfl (zv_R (a := 75) rfl rfl) ?_
    refine zn_c [.int 6, .ref 76, .ref 75] (xo_push (.int 6)) rfl rfl ?_
    refine zn_ld rfl rfl rfl ?_
    replace h := h _ (i_add (x := 6) (y := a2) (show (6 : Int32).toInt = 6 by decide) rfl)
    refine zn_c [.int (6 + a2), .ref 76, .ref 75] xo_iadd rfl rfl ?_
    refine zn_ld rfl rfl rfl ?_
    refine zn_get (v := .ref 202) rfl (zv_R (a := 197) rfl rfl) ?_
    refine zn_ld rfl rfl rfl ?_
    refine zn_c [.int 3, .int a1, .ref 202, .int (6 + a2), .ref 76, .ref 75] (xo_push (.int 3)) rfl rfl ?_
    replace h := h _ (i_add (x := a1) (y := 3) rfl (show (3 : Int32).toInt = 3 by decide))
    refine zn_c [.int (a1 + 3), .ref 202, .int (6 + a2), .ref 76, .ref 75] xo_iadd rfl rfl ?_
    refine zn_ld rfl rfl rfl ?_
    replace h := h _ (i_add (x := (a1 + 3)) (y := a2) rfl rfl)
    refine zn_c [.int ((a1 + 3) + a2), .ref 202, .int (6 + a2), .ref 76, .ref 75] xo_iadd rfl rfl ?_
    refine zn_row ((a1 + 3) + a2) [.int (6 + a2), .ref 76, .ref 75] (a := 202) hd rfl rfl rfl rfl ?_
    change Zn _ _ _ _ _ _ _ _ _ _ _ [.int (zg s 202 ((a1 + 3) + a2)), .int (6 + a2), .ref 76, .ref 75] _ _
    refine zn_zt [.ref 75, .ref 76, .int (6 + a2), .int (zg s 202 ((a1 + 3) + a2))] [] rfl rfl rfl rfl rfl (Zt.imp h (fun v7 s8 h => ?_))
    obtain ⟨rfl, h⟩ := h
    change Zn _ _ _ _ _ _ _ _ _ _ _ [] _ _
    replace h := h _ (i_add (x := a2) (y := 1) rfl (show (1 : Int32).toInt = 1 by decide))
    refine zn_inc [.ref 197, .int a1, .int (a2 + 1), .null, .null] rfl rfl rfl rfl ?_
    refine zn_go rfl ?_
    exact r14 a1 (a2 + 1) s8 h
theorem ml_101_14_39 {d d0 : Nat} (hd : d = d0 + 8)  {a1 : Int32} {a2 : Int32} {s : zS} {Q : Option Value → zS → Prop}  (h : vl_101_14 (fun j => Zt d (wd2 39 j) j) 39  a1 a2 s Q) : Zn d [] [(0, 198)] ([(197, 5, 39), (197, 6, 57), (75, 0, 39), (75, 1, 57), (75, 2, 61)] : zW) ([(197, 5, 39), (197, 6, 57), (75, 0, 39), (75, 1, 57), (75, 2, 61)] : zW) xL_8 3 (some .int) xE_101 (xE_101.drop 14) [.ref 197, .int a1, .int a2, .null, .null] [] s Q := by
  obtain ⟨I, μ, h0, h1⟩ := h
  have key : ∀ (n : Nat) (a1 : Int32) (a2 : Int32) (s : zS), μ a1 a2 s = n → I a1 a2 s → Zn d [] [(0, 198)] ([(197, 5, 39), (197, 6, 57), (75, 0, 39), (75, 1, 57), (75, 2, 61)] : zW) ([(197, 5, 39), (197, 6, 57), (75, 0, 39), (75, 1, 57), (75, 2, 61)] : zW) xL_8 3 (some .int) xE_101 (xE_101.drop 14) [.ref 197, .int a1, .int a2, .null, .null] [] s Q := by
    intro n
    induction n using Nat.strongRecOn with
    | ind n ih =>
      intro a1 a2 s e hI
      exact m_101_14_39 hd (fun a1' a2' s' q => ih _ (by rw [← e]; exact q.2) a1' a2' s' rfl q.1) (h1 a1 a2 s hI)
  exact key _ a1 a2 s rfl h0
set_option maxRecDepth 20000 in
theorem m_101_0_39 {d d0 : Nat} (hd : d = d0 + 8)  {a1 : Int32} {s : zS} {Q : Option Value → zS → Prop}  (h : v_101_0 (fun j => Zt d (wd2 39 j) j) 39  a1 s Q) : Zn d [] [(0, 198)] ([(197, 5, 39), (197, 6, 57), (75, 0, 39), (75, 1, 57), (75, 2, 61)] : zW) ([(197, 5, 39), (197, 6, 57), (75, 0, 39), (75, 1, 57), (75, 2, 61)] : zW) xL_8 3 (some .int) xE_101 (xE_101.drop 0) [.ref 197, .int a1, .null, .null, .null] [] s Q := by
  unfold v_101_0 at h
  refine zn_ld rfl rfl rfl ?_
  refine zn_get (v := .ref 75) rfl (zv_R (a := 197) rfl rfl) ?_
  refine zn_ld rfl rfl rfl ?_
  refine zn_get (v := .ref 75) rfl (zv_R (a := 197) rfl rfl) ?_
  refine zn_get (v := .ref 76) rfl (zv_R (a := 75) rfl rfl) ?_
  refine zn_ld rfl rfl rfl ?_
  refine zn_get (v := .ref 202) rfl (zv_R (a := 197) rfl rfl) ?_
  refine zn_ld rfl rfl rfl ?_
  refine zn_row a1 [.ref 76, .ref 75] (a := 202) hd rfl rfl rfl rfl ?_
  change Zn _ _ _ _ _ _ _ _ _ _ _ [.int (zg s 202 a1), .ref 76, .ref 75] _ _
  refine zn_c [.int 0, .int (zg s 202 a1), .ref 76, .ref 75] (xo_push (.int 0)) rfl rfl ?_
  refine zn_c [.int 0, .int 0, .int (zg s 202 a1), .ref 76, .ref 75] (xo_push (.int 0)) rfl rfl ?_
  refine zn_zt [.ref 75, .ref 76, .int (zg s 202 a1), .int 0, .int 0] [] rfl rfl rfl rfl rfl (Zt.imp h (fun v1 s2 h => ?_))
  obtain ⟨rfl, h⟩ := h
  change Zn _ _ _ _ _ _ _ _ _ _ _ [] _ _
  refine zn_c [.int 0] (xo_push (.int 0)) rfl rfl ?_
  refine zn_st [.ref 197, .int a1, .int 0, .null, .null] rfl rfl rfl ?_
  exact ml_101_14_39 hd  h
theorem zq_101_39 {d : Nat} {a1 : Int32} {s : zS} {Q : Option Value → zS → Prop} (h : v_101_0 (fun j => Zt (d + 8) (wd2 39 j) j) 39 a1 s Q) : Zt (d + 9) ([(197, 5, 39), (197, 6, 57), (75, 0, 39), (75, 1, 57), (75, 2, 61)] : zW) 101 [.ref 197, .int a1] s Q := zt_of (E := xE_101) (L := xL_8) (ml := 3) (ret := some .int) rfl rfl rfl (m_101_0_39 rfl h)
theorem zc_101 {d P : Nat} (hP : P = 3 ∨ P = 39) {a1 : Int32} {s : zS} {Q : Option Value → zS → Prop} (h : v_101_0 (fun j => Zt (d + 8) (wd2 P j) j) P a1 s Q) : Zt (d + 9) (wd2 P 101) 101 [.ref 197, .int a1] s Q := by
  rcases hP with rfl | rfl
  · exact zq_101_3 h
  · exact zq_101_39 h
/-! FeatherBench$Stock.goThrough -/
def v_105_41 (T : Nat → List Value → zS → (Option Value → zS → Prop) → Prop) (P : Nat)  (a1 : Int32) (a2 : Int32) (a3 : Int32) (s : zS) (Q : Option Value → zS → Prop) : Prop :=
  Q none s
def v_105_39 (T : Nat → List Value → zS → (Option Value → zS → Prop) → Prop) (P : Nat) (R9 : Int32 → Int32 → Int32 → zS → Prop) (a1 : Int32) (a2 : Int32) (a3 : Int32) (s : zS) (Q : Option Value → zS → Prop) : Prop :=
  ∀ x1 : Int32, (-2147483648 ≤ a3.toInt + 6 ∧ a3.toInt + 6 ≤ 2147483647 → x1.toInt = a3.toInt + 6) → R9 a1 a2 x1 s
def v_105_9 (T : Nat → List Value → zS → (Option Value → zS → Prop) → Prop) (P : Nat) (R9 : Int32 → Int32 → Int32 → zS → Prop) (a1 : Int32) (a2 : Int32) (a3 : Int32) (s : zS) (Q : Option Value → zS → Prop) : Prop :=
  (a2.toInt ≤ a3.toInt → v_105_41 T P  a1 a2 a3 s Q) ∧ (¬ (a2.toInt ≤ a3.toInt) → (¬ ((s.1 197 10).toInt = 0) → v_105_41 T P  a1 a2 a3 s Q) ∧ ((s.1 197 10).toInt = 0 → ∀ x1 : Int32, (-2147483648 ≤ a3.toInt + 0 ∧ a3.toInt + 0 ≤ 2147483647 → x1.toInt = a3.toInt + 0) → (¬ Int32.toInt (zg s (P + 34) x1) = 0 ∧ ¬ Int32.toInt (zg s (P + 34) x1) = 2 ∧ ¬ Int32.toInt (zg s (P + 34) x1) = 5 ∧ ¬ Int32.toInt (zg s (P + 34) x1) = 6 → v_105_39 T P R9 a1 a2 a3 s Q) ∧ (Int32.toInt (zg s (P + 34) x1) = 0 → Q none s) ∧ (Int32.toInt (zg s (P + 34) x1) = 2 → ∀ x2 : Int32, (-2147483648 ≤ a3.toInt + 1 ∧ a3.toInt + 1 ≤ 2147483647 → x2.toInt = a3.toInt + 1) → T 106 [.ref 197, .int (zg s (P + 34) x2)] s (fun v3 s4 => ∃ x5, v3 = some (.int x5) ∧ (v_105_39 T P R9 a1 a2 a3 s4 Q))) ∧ (Int32.toInt (zg s (P + 34) x1) = 5 → T 108 [.ref 197, .int a3] s (fun v6 s7 => v6 = none ∧ (v_105_39 T P R9 a1 a2 a3 s7 Q))) ∧ (Int32.toInt (zg s (P + 34) x1) = 6 → ∀ x8 : Int32, (-2147483648 ≤ a3.toInt + 1 ∧ a3.toInt + 1 ≤ 2147483647 → x8.toInt = a3.toInt + 1) → T 106 [.ref 197, .int (zg s (P + 34) x8)] s (fun v9 s10 => ∃ x11, v9 = some (.int x11) ∧ (v_105_39 T P R9 a1 a2 a3 s10 Q)))))
def vl_105_9 (T : Nat → List Value → zS → (Option Value → zS → Prop) → Prop) (P : Nat)  (a1 : Int32) (a2 : Int32) (a3 : Int32) (s : zS) (Q : Option Value → zS → Prop) : Prop :=
  ∃ (I : Int32 → Int32 → Int32 → zS → Prop) (μ : Int32 → Int32 → Int32 → zS → Nat), I a1 a2 a3 s ∧ ∀ (a1 : Int32) (a2 : Int32) (a3 : Int32) (s : zS), I a1 a2 a3 s → v_105_9 T P (fun a1' a2' a3' s' => I a1' a2' a3' s' ∧ μ a1' a2' a3' s' < μ a1 a2 a3 s) a1 a2 a3 s Q
def v_105_0 (T : Nat → List Value → zS → (Option Value → zS → Prop) → Prop) (P : Nat)  (a1 : Int32) (s : zS) (Q : Option Value → zS → Prop) : Prop :=
  ∀ x1 : Int32, (-2147483648 ≤ a1.toInt * 6 ∧ a1.toInt * 6 ≤ 2147483647 → x1.toInt = a1.toInt * 6) → vl_105_9 T P  a1 (s.1 (P + 34) 2) x1 s Q
set_option maxRecDepth 20000 in
theorem m_105_41_3 {d d0 : Nat} (hd : d = d0 + 8)  {a1 : Int32} {a2 : Int32} {a3 : Int32} {s : zS} {Q : Option Value → zS → Prop}  (h : v_105_41 (fun j => Zt d (wd2 3 j) j) 3  a1 a2 a3 s Q) : Zn d [] [(3, 98), (0, 198)] ([(197, 5, 3), (197, 6, 21), (75, 0, 3), (75, 1, 21), (75, 2, 25)] : zW) ([(197, 5, 3), (197, 6, 21), (75, 0, 3), (75, 1, 21), (75, 2, 25)] : zW) xL_8 4 (none) xE_105 (xE_105.drop 41) [.ref 197, .int a1, .int a2, .int a3, .null, .null] [] s Q := by
  unfold v_105_41 at h
  exact zn_ret0 rfl h
set_option maxRecDepth 20000 in
theorem m_105_39_3 {d d0 : Nat} (hd : d = d0 + 8) {R9 : Int32 → Int32 → Int32 → zS → Prop} {a1 : Int32} {a2 : Int32} {a3 : Int32} {s : zS} {Q : Option Value → zS → Prop} (r9 : ∀ a1 a2 a3 s, R9 a1 a2 a3 s → Zn d [] [(3, 98), (0, 198)] ([(197, 5, 3), (197, 6, 21), (75, 0, 3), (75, 1, 21), (75, 2, 25)] : zW) ([(197, 5, 3), (197, 6, 21), (75, 0, 3), (75, 1, 21), (75, 2, 25)] : zW) xL_8 4 (none) xE_105 (xE_105.drop 9) [.ref 197, .int a1, .int a2, .int a3, .null, .null] [] s Q) (h : v_105_39 (fun j => Zt d (wd2 3 j) j) 3 R9 a1 a2 a3 s Q) : Zn d [] [(3, 98), (0, 198)] ([(197, 5, 3), (197, 6, 21), (75, 0, 3), (75, 1, 21), (75, 2, 25)] : zW) ([(197, 5, 3), (197, 6, 21), (75, 0, 3), (75, 1, 21), (75, 2, 25)] : zW) xL_8 4 (none) xE_105 (xE_105.drop 39) [.ref 197, .int a1, .int a2, .int a3, .null, .null] [] s Q := by
  unfold v_105_39 at h
  replace h := h _ (i_add (x := a3) (y := 6) rfl (show (6 : Int32).toInt = 6 by decide))
  refine zn_inc [.ref 197, .int a1, .int a2, .int (a3 + 6), .null, .null] rfl rfl rfl rfl ?_
  refine zn_go rfl ?_
  exact r9 a1 a2 (a3 + 6) s h
set_option maxRecDepth 20000 in
theorem m_105_9_3 {d d0 : Nat} (hd : d = d0 + 8) {R9 : Int32 → Int32 → Int32 → zS → Prop} {a1 : Int32} {a2 : Int32} {a3 : Int32} {s : zS} {Q : Option Value → zS → Prop} (r9 : ∀ a1 a2 a3 s, R9 a1 a2 a3 s → Zn d [] [(3, 98), (0, 198)] ([(197, 5, 3), (197, 6, 21), (75, 0, 3), (75, 1, 21), (75, 2, 25)] : zW) ([(197, 5, 3), (197, 6, 21), (75, 0, 3), (75, 1, 21), (75, 2, 25)] : zW) xL_8 4 (none) xE_105 (xE_105.drop 9) [.ref 197, .int a1, .int a2, .int a3, .null, .null] [] s Q) (h : v_105_9 (fun j => Zt d (wd2 3 j) j) 3 R9 a1 a2 a3 s Q) : Zn d [] [(3, 98), (0, 198)] ([(197, 5, 3), (197, 6, 21), (75, 0, 3), (75, 1, 21), (75, 2, 25)] : zW) ([(197, 5, 3), (197, 6, 21), (75, 0, 3), (75, 1, 21), (75, 2, 25)] : zW) xL_8 4 (none) xE_105 (xE_105.drop 9) [.ref 197, .int a1, .int a2, .int a3, .null, .null] [] s Q := by
  unfold v_105_9 at h
  refine zn_ld rfl rfl rfl ?_
  refine zn_ld rfl rfl rfl ?_
  refine zn_brP rfl rfl ⟨fun hcn => ?_, fun hcn => ?_⟩
  · replace h := h.1 ((i_le (x := a2) (y := a3) rfl rfl).mp hcn)
    exact m_105_41_3 hd  h
  · replace h := h.2 (fun q => hcn ((i_le (x := a2) (y := a3) rfl rfl).mpr q))
    refine zn_ld rfl rfl rfl ?_
    refine zn_get (v := .int (s.1 197 10)) rfl (zv_I (a := 197) rfl rfl) ?_
    refine zn_brN rfl rfl ⟨fun hcn => ?_, fun hcn => ?_⟩
    · replace h := h.1 (fun q => hcn ((i_eq (x := s.1 197 10) (y := 0) rfl (show (0 : Int32).toInt = 0 by decide)).mpr q))
      exact m_105_41_3 hd  h
    · replace h := h.2 ((i_eq (x := s.1 197 10) (y := 0) rfl (show (0 : Int32).toInt = 0 by decide)).mp hcn)
      refine zn_ld rfl rfl rfl ?_
      refine zn_get (v := .ref 3) rfl (zv_C (a := 197) (n := 0) rfl rfl rfl) ?_
      refine zn_get (v := .ref 37) rfl (zv_R (a := 3) rfl rfl) ?_
      refine zn_ld rfl rfl rfl ?_
      refine zn_c [.int 0, .int a3, .ref 37] (xo_push (.int 0)) rfl rfl ?_
      replace h := h _ (i_add (x := a3) (y := 0) rfl (show (0 : Int32).toInt = 0 by decide))
      refine zn_c [.int (a3 + 0), .ref 37] xo_iadd rfl rfl ?_
      refine zn_row (a3 + 0) [] (a := 37) hd rfl rfl rfl rfl ?_
      change Zn _ _ _ _ _ _ _ _ _ _ _ [.int (zg s 37 (a3 + 0))] _ _
      by_cases hx : Int32.toInt (zg s 37 (a3 + 0)) = 0 ∨ Int32.toInt (zg s 37 (a3 + 0)) = 2 ∨ Int32.toInt (zg s 37 (a3 + 0)) = 5 ∨ Int32.toInt (zg s 37 (a3 + 0)) = 6
      · rcases hx with hy | hy | hy | hy
        · refine zn_sw ?_
          refine ⟨38, by rw [if_neg (by omega), hy]; rfl, ?_⟩
          replace h := h.2.1 hy
          exact zn_ret0 rfl h
        · refine zn_sw ?_
          refine ⟨23, by rw [if_neg (by omega), hy]; rfl, ?_⟩
          replace h := h.2.2.1 hy
          refine zn_ld rfl rfl rfl ?_
          refine zn_ld rfl rfl rfl ?_
          refine zn_get (v := .ref 3) rfl (zv_C (a := 197) (n := 0) rfl rfl rfl) ?_
          refine zn_get (v := .ref 37) rfl (zv_R (a := 3) rfl rfl) ?_
          refine zn_ld rfl rfl rfl ?_
          refine zn_c [.int 1, .int a3, .ref 37, .ref 197] (xo_push (.int 1)) rfl rfl ?_
          replace h := h _ (i_add (x := a3) (y := 1) rfl (show (1 : Int32).toInt = 1 by decide))
          refine zn_c [.int (a3 + 1), .ref 37, .ref 197] xo_iadd rfl rfl ?_
          refine zn_row (a3 + 1) [.ref 197] (a := 37) hd rfl rfl rfl rfl ?_
          change Zn _ _ _ _ _ _ _ _ _ _ _ [.int (zg s 37 (a3 + 1)), .ref 197] _ _
          refine zn_zt [.ref 197, .int (zg s 37 (a3 + 1))] [] rfl rfl rfl rfl rfl (Zt.imp h (fun v3 s4 h => ?_))
          obtain ⟨x5, rfl, h⟩ := h
          change Zn _ _ _ _ _ _ _ _ _ _ _ [.int x5] _ _
          refine zn_c [] xo_pop rfl rfl ?_
          refine zn_go rfl ?_
          exact m_105_39_3 hd r9 h
        · refine zn_sw ?_
          refine ⟨34, by rw [if_neg (by omega), hy]; rfl, ?_⟩
          replace h := h.2.2.2.1 hy
          refine zn_ld rfl rfl rfl ?_
          refine zn_ld rfl rfl rfl ?_
          refine zn_zt [.ref 197, .int a3] [] rfl rfl rfl rfl rfl (Zt.imp h (fun v6 s7 h => ?_))
          obtain ⟨rfl, h⟩ := h
          change Zn _ _ _ _ _ _ _ _ _ _ _ [] _ _
          refine zn_go rfl ?_
          exact m_105_39_3 hd r9 h
        · refine zn_sw ?_
          refine ⟨23, by rw [if_neg (by omega), hy]; rfl, ?_⟩
          replace h := h.2.2.2.2 hy
          refine zn_ld rfl rfl rfl ?_
          refine zn_ld rfl rfl rfl ?_
          refine zn_get (v := .ref 3) rfl (zv_C (a := 197) (n := 0) rfl rfl rfl) ?_
          refine zn_get (v := .ref 37) rfl (zv_R (a := 3) rfl rfl) ?_
          refine zn_ld rfl rfl rfl ?_
          refine zn_c [.int 1, .int a3, .ref 37, .ref 197] (xo_push (.int 1)) rfl rfl ?_
          replace h := h _ (i_add (x := a3) (y := 1) rfl (show (1 : Int32).toInt = 1 by decide))
          refine zn_c [.int (a3 + 1), .ref 37, .ref 197] xo_iadd rfl rfl ?_
          refine zn_row (a3 + 1) [.ref 197] (a := 37) hd rfl rfl rfl rfl ?_
          change Zn _ _ _ _ _ _ _ _ _ _ _ [.int (zg s 37 (a3 + 1)), .ref 197] _ _
          refine zn_zt [.ref 197, .int (zg s 37 (a3 + 1))] [] rfl rfl rfl rfl rfl (Zt.imp h (fun v9 s10 h => ?_))
          obtain ⟨x11, rfl, h⟩ := h
          change Zn _ _ _ _ _ _ _ _ _ _ _ [.int x11] _ _
          refine zn_c [] xo_pop rfl rfl ?_
          refine zn_go rfl ?_
          exact m_105_39_3 hd r9 h
      · have hy : ¬ Int32.toInt (zg s 37 (a3 + 0)) = 0 ∧ ¬ Int32.toInt (zg s 37 (a3 + 0)) = 2 ∧ ¬ Int32.toInt (zg s 37 (a3 + 0)) = 5 ∧ ¬ Int32.toInt (zg s 37 (a3 + 0)) = 6 := by omega
        replace h := h.1 hy
        by_cases hz : Int32.toInt (zg s 37 (a3 + 0)) < 0 ∨ 6 < Int32.toInt (zg s 37 (a3 + 0))
        · refine zn_sw ?_
          refine ⟨39, by rw [if_pos hz]; rfl, ?_⟩
          exact m_105_39_3 hd r9 h
        · have hw : Int32.toInt (zg s 37 (a3 + 0)) = 1 ∨ Int32.toInt (zg s 37 (a3 + 0)) = 3 ∨ Int32.toInt (zg s 37 (a3 + 0)) = 4 := by omega
          rcases hw with hw | hw | hw
          · refine zn_sw ?_
            refine ⟨39, by rw [if_neg hz, hw]; rfl, ?_⟩
            exact m_105_39_3 hd r9 h
          · refine zn_sw ?_
            refine ⟨39, by rw [if_neg hz, hw]; rfl, ?_⟩
            exact m_105_39_3 hd r9 h
          · refine zn_sw ?_
            refine ⟨39, by rw [if_neg hz, hw]; rfl, ?_⟩
            exact m_105_39_3 hd r9 h
theorem ml_105_9_3 {d d0 : Nat} (hd : d = d0 + 8)  {a1 : Int32} {a2 : Int32} {a3 : Int32} {s : zS} {Q : Option Value → zS → Prop}  (h : vl_105_9 (fun j => Zt d (wd2 3 j) j) 3  a1 a2 a3 s Q) : Zn d [] [(3, 98), (0, 198)] ([(197, 5, 3), (197, 6, 21), (75, 0, 3), (75, 1, 21), (75, 2, 25)] : zW) ([(197, 5, 3), (197, 6, 21), (75, 0, 3), (75, 1, 21), (75, 2, 25)] : zW) xL_8 4 (none) xE_105 (xE_105.drop 9) [.ref 197, .int a1, .int a2, .int a3, .null, .null] [] s Q := by
  obtain ⟨I, μ, h0, h1⟩ := h
  have key : ∀ (n : Nat) (a1 : Int32) (a2 : Int32) (a3 : Int32) (s : zS), μ a1 a2 a3 s = n → I a1 a2 a3 s → Zn d [] [(3, 98), (0, 198)] ([(197, 5, 3), (197, 6, 21), (75, 0, 3), (75, 1, 21), (75, 2, 25)] : zW) ([(197, 5, 3), (197, 6, 21), (75, 0, 3), (75, 1, 21), (75, 2, 25)] : zW) xL_8 4 (none) xE_105 (xE_105.drop 9) [.ref 197, .int a1, .int a2, .int a3, .null, .null] [] s Q := by
    intro n
    induction n using Nat.strongRecOn with
    | ind n ih =>
      intro a1 a2 a3 s e hI
      exact m_105_9_3 hd (fun a1' a2' a3' s' q => ih _ (by rw [← e]; exact q.2) a1' a2' a3' s' rfl q.1) (h1 a1 a2 a3 s hI)
  exact key _ a1 a2 a3 s rfl h0
set_option maxRecDepth 20000 in
theorem m_105_0_3 {d d0 : Nat} (hd : d = d0 + 8)  {a1 : Int32} {s : zS} {Q : Option Value → zS → Prop}  (h : v_105_0 (fun j => Zt d (wd2 3 j) j) 3  a1 s Q) : Zn d [] [(3, 98), (0, 198)] ([(197, 5, 3), (197, 6, 21), (75, 0, 3), (75, 1, 21), (75, 2, 25)] : zW) ([(197, 5, 3), (197, 6, 21), (75, 0, 3), (75, 1, 21), (75, 2, 25)] : zW) xL_8 4 (none) xE_105 (xE_105.drop 0) [.ref 197, .int a1, .null, .null, .null, .null] [] s Q := by
  unfold v_105_0 at h
  refine zn_ld rfl rfl rfl ?_
  refine zn_get (v := .ref 3) rfl (zv_C (a := 197) (n := 0) rfl rfl rfl) ?_
  refine zn_get (v := .ref 37) rfl (zv_R (a := 3) rfl rfl) ?_
  refine zn_get (v := .int (s.1 37 2)) rfl (zv_I (a := 37) rfl rfl) ?_
  refine zn_st [.ref 197, .int a1, .int (s.1 37 2), .null, .null, .null] rfl rfl rfl ?_
  refine zn_ld rfl rfl rfl ?_
  refine zn_c [.int 6, .int a1] (xo_push (.int 6)) rfl rfl ?_
  replace h := h _ (i_mul (x := a1) (y := 6) rfl (show (6 : Int32).toInt = 6 by decide))
  refine zn_c [.int (a1 * 6)] xo_imul rfl rfl ?_
  refine zn_st [.ref 197, .int a1, .int (s.1 37 2), .int (a1 * 6), .null, .null] rfl rfl rfl ?_
  exact ml_105_9_3 hd  h
theorem zq_105_3 {d : Nat} {a1 : Int32} {s : zS} {Q : Option Value → zS → Prop} (h : v_105_0 (fun j => Zt (d + 8) (wd2 3 j) j) 3 a1 s Q) : Zt (d + 9) ([(197, 5, 3), (197, 6, 21), (75, 0, 3), (75, 1, 21), (75, 2, 25)] : zW) 105 [.ref 197, .int a1] s Q := zt_of (E := xE_105) (L := xL_8) (ml := 4) (ret := none) rfl rfl rfl (m_105_0_3 rfl h)
set_option maxRecDepth 20000 in
theorem m_105_41_39 {d d0 : Nat} (hd : d = d0 + 8)  {a1 : Int32} {a2 : Int32} {a3 : Int32} {s : zS} {Q : Option Value → zS → Prop}  (h : v_105_41 (fun j => Zt d (wd2 39 j) j) 39  a1 a2 a3 s Q) : Zn d [] [(39, 98), (0, 198)] ([(197, 5, 39), (197, 6, 57), (75, 0, 39), (75, 1, 57), (75, 2, 61)] : zW) ([(197, 5, 39), (197, 6, 57), (75, 0, 39), (75, 1, 57), (75, 2, 61)] : zW) xL_8 4 (none) xE_105 (xE_105.drop 41) [.ref 197, .int a1, .int a2, .int a3, .null, .null] [] s Q := by
  unfold v_105_41 at h
  exact zn_ret0 rfl h
set_option maxRecDepth 20000 in
theorem m_105_39_39 {d d0 : Nat} (hd : d = d0 + 8) {R9 : Int32 → Int32 → Int32 → zS → Prop} {a1 : Int32} {a2 : Int32} {a3 : Int32} {s : zS} {Q : Option Value → zS → Prop} (r9 : ∀ a1 a2 a3 s, R9 a1 a2 a3 s → Zn d [] [(39, 98), (0, 198)] ([(197, 5, 39), (197, 6, 57), (75, 0, 39), (75, 1, 57), (75, 2, 61)] : zW) ([(197, 5, 39), (197, 6, 57), (75, 0, 39), (75, 1, 57), (75, 2, 61)] : zW) xL_8 4 (none) xE_105 (xE_105.drop 9) [.ref 197, .int a1, .int a2, .int a3, .null, .null] [] s Q) (h : v_105_39 (fun j => Zt d (wd2 39 j) j) 39 R9 a1 a2 a3 s Q) : Zn d [] [(39, 98), (0, 198)] ([(197, 5, 39), (197, 6, 57), (75, 0, 39), (75, 1, 57), (75, 2, 61)] : zW) ([(197, 5, 39), (197, 6, 57), (75, 0, 39), (75, 1, 57), (75, 2, 61)] : zW) xL_8 4 (none) xE_105 (xE_105.drop 39) [.ref 197, .int a1, .int a2, .int a3, .null, .null] [] s Q := by
  unfold v_105_39 at h
  replace h := h _ (i_add (x := a3) (y := 6) rfl (show (6 : Int32).toInt = 6 by decide))
  refine zn_inc [.ref 197, .int a1, .int a2, .int (a3 + 6), .null, .null] rfl rfl rfl rfl ?_
  refine zn_go rfl ?_
  exact r9 a1 a2 (a3 + 6) s h
set_option maxRecDepth 20000 in
theorem m_105_9_39 {d d0 : Nat} (hd : d = d0 + 8) {R9 : Int32 → Int32 → Int32 → zS → Prop} {a1 : Int32} {a2 : Int32} {a3 : Int32} {s : zS} {Q : Option Value → zS → Prop} (r9 : ∀ a1 a2 a3 s, R9 a1 a2 a3 s → Zn d [] [(39, 98), (0, 198)] ([(197, 5, 39), (197, 6, 57), (75, 0, 39), (75, 1, 57), (75, 2, 61)] : zW) ([(197, 5, 39), (197, 6, 57), (75, 0, 39), (75, 1, 57), (75, 2, 61)] : zW) xL_8 4 (none) xE_105 (xE_105.drop 9) [.ref 197, .int a1, .int a2, .int a3, .null, .null] [] s Q) (h : v_105_9 (fun j => Zt d (wd2 39 j) j) 39 R9 a1 a2 a3 s Q) : Zn d [] [(39, 98), (0, 198)] ([(197, 5, 39), (197, 6, 57), (75, 0, 39), (75, 1, 57), (75, 2, 61)] : zW) ([(197, 5, 39), (197, 6, 57), (75, 0, 39), (75, 1, 57), (75, 2, 61)] : zW) xL_8 4 (none) xE_105 (xE_105.drop 9) [.ref 197, .int a1, .int a2, .int a3, .null, .null] [] s Q := by
  unfold v_105_9 at h
  refine zn_ld rfl rfl rfl ?_
  refine zn_ld rfl rfl rfl ?_
  refine zn_brP rfl rfl ⟨fun hcn => ?_, fun hcn => ?_⟩
  · replace h := h.1 ((i_le (x := a2) (y := a3) rfl rfl).mp hcn)
    exact m_105_41_39 hd  h
  · replace h := h.2 (fun q => hcn ((i_le (x := a2) (y := a3) rfl rfl).mpr q))
    refine zn_ld rfl rfl rfl ?_
    refine zn_get (v := .int (s.1 197 10)) rfl (zv_I (a := 197) rfl rfl) ?_
    refine zn_brN rfl rfl ⟨fun hcn => ?_, fun hcn => ?_⟩
    · replace h := h.1 (fun q => hcn ((i_eq (x := s.1 197 10) (y := 0) rfl (show (0 : Int32).toInt = 0 by decide)).mpr q))
      exact m_105_41_39 hd  h
    · replace h := h.2 ((i_eq (x := s.1 197 10) (y := 0) rfl (show (0 : Int32).toInt = 0 by decide)).mp hcn)
      refine zn_ld rfl rfl rfl ?_
      refine zn_get (v := .ref 39) rfl (zv_C (a := 197) (n := 0) rfl rfl rfl) ?_
      refine zn_get (v := .ref 73) rfl (zv_R (a := 39) rfl rfl) ?_
      refine zn_ld rfl rfl rfl ?_
      refine zn_c [.int 0, .int a3, .ref 73] (xo_push (.int 0)) rfl rfl ?_
      replace h := h _ (i_add (x := a3) (y := 0) rfl (show (0 : Int32).toInt = 0 by decide))
      refine zn_c [.int (a3 + 0), .ref 73] xo_iadd rfl rfl ?_
      refine zn_row (a3 + 0) [] (a := 73) hd rfl rfl rfl rfl ?_
      change Zn _ _ _ _ _ _ _ _ _ _ _ [.int (zg s 73 (a3 + 0))] _ _
      by_cases hx : Int32.toInt (zg s 73 (a3 + 0)) = 0 ∨ Int32.toInt (zg s 73 (a3 + 0)) = 2 ∨ Int32.toInt (zg s 73 (a3 + 0)) = 5 ∨ Int32.toInt (zg s 73 (a3 + 0)) = 6
      · rcases hx with hy | hy | hy | hy
        · refine zn_sw ?_
          refine ⟨38, by rw [if_neg (by omega), hy]; rfl, ?_⟩
          replace h := h.2.1 hy
          exact zn_ret0 rfl h
        · refine zn_sw ?_
          refine ⟨23, by rw [if_neg (by omega), hy]; rfl, ?_⟩
          replace h := h.2.2.1 hy
          refine zn_ld rfl rfl rfl ?_
          refine zn_ld rfl rfl rfl ?_
          refine zn_get (v := .ref 39) rfl (zv_C (a := 197) (n := 0) rfl rfl rfl) ?_
          refine zn_get (v := .ref 73) rfl (zv_R (a := 39) rfl rfl) ?_
          refine zn_ld rfl rfl rfl ?_
          refine zn_c [.int 1, .int a3, .ref 73, .ref 197] (xo_push (.int 1)) rfl rfl ?_
          replace h := h _ (i_add (x := a3) (y := 1) rfl (show (1 : Int32).toInt = 1 by decide))
          refine zn_c [.int (a3 + 1), .ref 73, .ref 197] xo_iadd rfl rfl ?_
          refine zn_row (a3 + 1) [.ref 197] (a := 73) hd rfl rfl rfl rfl ?_
          change Zn _ _ _ _ _ _ _ _ _ _ _ [.int (zg s 73 (a3 + 1)), .ref 197] _ _
          refine zn_zt [.ref 197, .int (zg s 73 (a3 + 1))] [] rfl rfl rfl rfl rfl (Zt.imp h (fun v3 s4 h => ?_))
          obtain ⟨x5, rfl, h⟩ := h
          change Zn _ _ _ _ _ _ _ _ _ _ _ [.int x5] _ _
          refine zn_c [] xo_pop rfl rfl ?_
          refine zn_go rfl ?_
          exact m_105_39_39 hd r9 h
        · refine zn_sw ?_
          refine ⟨34, by rw [if_neg (by omega), hy]; rfl, ?_⟩
          replace h := h.2.2.2.1 hy
          refine zn_ld rfl rfl rfl ?_
          refine zn_ld rfl rfl rfl ?_
          refine zn_zt [.ref 197, .int a3] [] rfl rfl rfl rfl rfl (Zt.imp h (fun v6 s7 h => ?_))
          obtain ⟨rfl, h⟩ := h
          change Zn _ _ _ _ _ _ _ _ _ _ _ [] _ _
          refine zn_go rfl ?_
          exact m_105_39_39 hd r9 h
        · refine zn_sw ?_
          refine ⟨23, by rw [if_neg (by omega), hy]; rfl, ?_⟩
          replace h := h.2.2.2.2 hy
          refine zn_ld rfl rfl rfl ?_
          refine zn_ld rfl rfl rfl ?_
          refine zn_get (v := .ref 39) rfl (zv_C (a := 197) (n := 0) rfl rfl rfl) ?_
          refine zn_get (v := .ref 73) rfl (zv_R (a := 39) rfl rfl) ?_
          refine zn_ld rfl rfl rfl ?_
          refine zn_c [.int 1, .int a3, .ref 73, .ref 197] (xo_push (.int 1)) rfl rfl ?_
          replace h := h _ (i_add (x := a3) (y := 1) rfl (show (1 : Int32).toInt = 1 by decide))
          refine zn_c [.int (a3 + 1), .ref 73, .ref 197] xo_iadd rfl rfl ?_
          refine zn_row (a3 + 1) [.ref 197] (a := 73) hd rfl rfl rfl rfl ?_
          change Zn _ _ _ _ _ _ _ _ _ _ _ [.int (zg s 73 (a3 + 1)), .ref 197] _ _
          refine zn_zt [.ref 197, .int (zg s 73 (a3 + 1))] [] rfl rfl rfl rfl rfl (Zt.imp h (fun v9 s10 h => ?_))
          obtain ⟨x11, rfl, h⟩ := h
          change Zn _ _ _ _ _ _ _ _ _ _ _ [.int x11] _ _
          refine zn_c [] xo_pop rfl rfl ?_
          refine zn_go rfl ?_
          exact m_105_39_39 hd r9 h
      · have hy : ¬ Int32.toInt (zg s 73 (a3 + 0)) = 0 ∧ ¬ Int32.toInt (zg s 73 (a3 + 0)) = 2 ∧ ¬ Int32.toInt (zg s 73 (a3 + 0)) = 5 ∧ ¬ Int32.toInt (zg s 73 (a3 + 0)) = 6 := by omega
        replace h := h.1 hy
        by_cases hz : Int32.toInt (zg s 73 (a3 + 0)) < 0 ∨ 6 < Int32.toInt (zg s 73 (a3 + 0))
        · refine zn_sw ?_
          refine ⟨39, by rw [if_pos hz]; rfl, ?_⟩
          exact m_105_39_39 hd r9 h
        · have hw : Int32.toInt (zg s 73 (a3 + 0)) = 1 ∨ Int32.toInt (zg s 73 (a3 + 0)) = 3 ∨ Int32.toInt (zg s 73 (a3 + 0)) = 4 := by omega
          rcases hw with hw | hw | hw
          · refine zn_sw ?_
            refine ⟨39, by rw [if_neg hz, hw]; rfl, ?_⟩
            exact m_105_39_39 hd r9 h
          · refine zn_sw ?_
            refine ⟨39, by rw [if_neg hz, hw]; rfl, ?_⟩
            exact m_105_39_39 hd r9 h
          · refine zn_sw ?_
            refine ⟨39, by rw [if_neg hz, hw]; rfl, ?_⟩
            exact m_105_39_39 hd r9 h
theorem ml_105_9_39 {d d0 : Nat} (hd : d = d0 + 8)  {a1 : Int32} {a2 : Int32} {a3 : Int32} {s : zS} {Q : Option Value → zS → Prop}  (h : vl_105_9 (fun j => Zt d (wd2 39 j) j) 39  a1 a2 a3 s Q) : Zn d [] [(39, 98), (0, 198)] ([(197, 5, 39), (197, 6, 57), (75, 0, 39), (75, 1, 57), (75, 2, 61)] : zW) ([(197, 5, 39), (197, 6, 57), (75, 0, 39), (75, 1, 57), (75, 2, 61)] : zW) xL_8 4 (none) xE_105 (xE_105.drop 9) [.ref 197, .int a1, .int a2, .int a3, .null, .null] [] s Q := by
  obtain ⟨I, μ, h0, h1⟩ := h
  have key : ∀ (n : Nat) (a1 : Int32) (a2 : Int32) (a3 : Int32) (s : zS), μ a1 a2 a3 s = n → I a1 a2 a3 s → Zn d [] [(39, 98), (0, 198)] ([(197, 5, 39), (197, 6, 57), (75, 0, 39), (75, 1, 57), (75, 2, 61)] : zW) ([(197, 5, 39), (197, 6, 57), (75, 0, 39), (75, 1, 57), (75, 2, 61)] : zW) xL_8 4 (none) xE_105 (xE_105.drop 9) [.ref 197, .int a1, .int a2, .int a3, .null, .null] [] s Q := by
    intro n
    induction n using Nat.strongRecOn with
    | ind n ih =>
      intro a1 a2 a3 s e hI
      exact m_105_9_39 hd (fun a1' a2' a3' s' q => ih _ (by rw [← e]; exact q.2) a1' a2' a3' s' rfl q.1) (h1 a1 a2 a3 s hI)
  exact key _ a1 a2 a3 s rfl h0
set_option maxRecDepth 20000 in
theorem m_105_0_39 {d d0 : Nat} (hd : d = d0 + 8)  {a1 : Int32} {s : zS} {Q : Option Value → zS → Prop}  (h : v_105_0 (fun j => Zt d (wd2 39 j) j) 39  a1 s Q) : Zn d [] [(39, 98), (0, 198)] ([(197, 5, 39), (197, 6, 57), (75, 0, 39), (75, 1, 57), (75, 2, 61)] : zW) ([(197, 5, 39), (197, 6, 57), (75, 0, 39), (75, 1, 57), (75, 2, 61)] : zW) xL_8 4 (none) xE_105 (xE_105.drop 0) [.ref 197, .int a1, .null, .null, .null, .null] [] s Q := by
  unfold v_105_0 at h
  refine zn_ld rfl rfl rfl ?_
  refine zn_get (v := .ref 39) rfl (zv_C (a := 197) (n := 0) rfl rfl rfl) ?_
  refine zn_get (v := .ref 73) rfl (zv_R (a := 39) rfl rfl) ?_
  refine zn_get (v := .int (s.1 73 2)) rfl (zv_I (a := 73) rfl rfl) ?_
  refine zn_st [.ref 197, .int a1, .int (s.1 73 2), .null, .null, .null] rfl rfl rfl ?_
  refine zn_ld rfl rfl rfl ?_
  refine zn_c [.int 6, .int a1] (xo_push (.int 6)) rfl rfl ?_
  replace h := h _ (i_mul (x := a1) (y := 6) rfl (show (6 : Int32).toInt = 6 by decide))
  refine zn_c [.int (a1 * 6)] xo_imul rfl rfl ?_
  refine zn_st [.ref 197, .int a1, .int (s.1 73 2), .int (a1 * 6), .null, .null] rfl rfl rfl ?_
  exact ml_105_9_39 hd  h
theorem zq_105_39 {d : Nat} {a1 : Int32} {s : zS} {Q : Option Value → zS → Prop} (h : v_105_0 (fun j => Zt (d + 8) (wd2 39 j) j) 39 a1 s Q) : Zt (d + 9) ([(197, 5, 39), (197, 6, 57), (75, 0, 39), (75, 1, 57), (75, 2, 61)] : zW) 105 [.ref 197, .int a1] s Q := zt_of (E := xE_105) (L := xL_8) (ml := 4) (ret := none) rfl rfl rfl (m_105_0_39 rfl h)
theorem zc_105 {d P : Nat} (hP : P = 3 ∨ P = 39) {a1 : Int32} {s : zS} {Q : Option Value → zS → Prop} (h : v_105_0 (fun j => Zt (d + 8) (wd2 P j) j) P a1 s Q) : Zt (d + 9) (wd2 P 105) 105 [.ref 197, .int a1] s Q := by
  rcases hP with rfl | rfl
  · exact zq_105_3 h
  · exact zq_105_39 h
/-! FeatherBench$Stock.addCall -/
def v_108_126 (T : Nat → List Value → zS → (Option Value → zS → Prop) → Prop) (P : Nat)  (a1 : Int32) (a2 : Int32) (a3 : Int32) (a4 : Int32) (a5 : Int32) (s : zS) (Q : Option Value → zS → Prop) : Prop :=
  Q none s
def v_108_108 (T : Nat → List Value → zS → (Option Value → zS → Prop) → Prop) (P : Nat) (R108 : Int32 → Int32 → Int32 → Int32 → Int32 → Int32 → zS → Prop) (a1 : Int32) (a2 : Int32) (a3 : Int32) (a4 : Int32) (a5 : Int32) (a6 : Int32) (s : zS) (Q : Option Value → zS → Prop) : Prop :=
  (9 ≤ a6.toInt → ∀ s1, s1 = za s 200 0 → T 104 [.ref 197] s1 (fun v2 s3 => v2 = none ∧ (v_108_126 T P  a1 a2 a3 a4 a5 s3 Q))) ∧ (¬ (9 ≤ a6.toInt) → (-1000 ≤ (zg s 204 a6).toInt ∧ (zg s 204 a6).toInt ≤ 1000000000) ∧ (∀ s4, s4 = za s 200 (zg s 204 a6) → ∀ x5 : Int32, (-2147483648 ≤ a6.toInt + 1 ∧ a6.toInt + 1 ≤ 2147483647 → x5.toInt = a6.toInt + 1) → R108 a1 a2 a3 a4 a5 x5 s4))
def vl_108_108 (T : Nat → List Value → zS → (Option Value → zS → Prop) → Prop) (P : Nat)  (a1 : Int32) (a2 : Int32) (a3 : Int32) (a4 : Int32) (a5 : Int32) (a6 : Int32) (s : zS) (Q : Option Value → zS → Prop) : Prop :=
  ∃ (I : Int32 → Int32 → Int32 → Int32 → Int32 → Int32 → zS → Prop) (μ : Int32 → Int32 → Int32 → Int32 → Int32 → Int32 → zS → Nat), I a1 a2 a3 a4 a5 a6 s ∧ ∀ (a1 : Int32) (a2 : Int32) (a3 : Int32) (a4 : Int32) (a5 : Int32) (a6 : Int32) (s : zS), I a1 a2 a3 a4 a5 a6 s → v_108_108 T P (fun a1' a2' a3' a4' a5' a6' s' => I a1' a2' a3' a4' a5' a6' s' ∧ μ a1' a2' a3' a4' a5' a6' s' < μ a1 a2 a3 a4 a5 a6 s) a1 a2 a3 a4 a5 a6 s Q
def v_108_78 (T : Nat → List Value → zS → (Option Value → zS → Prop) → Prop) (P : Nat)  (a1 : Int32) (a2 : Int32) (a3 : Int32) (a4 : Int32) (a5 : Int32) (s : zS) (Q : Option Value → zS → Prop) : Prop :=
  ∀ s1, s1 = zf s 197 10 1 → Q none s1
def v_108_51 (T : Nat → List Value → zS → (Option Value → zS → Prop) → Prop) (P : Nat)  (a1 : Int32) (a2 : Int32) (a3 : Int32) (a4 : Int32) (s : zS) (Q : Option Value → zS → Prop) : Prop :=
  ∀ x1 : Int32, (-2147483648 ≤ a1.toInt + 5 ∧ a1.toInt + 5 ≤ 2147483647 → x1.toInt = a1.toInt + 5) → T 87 [.ref 75, .int (zg s (P + 34) x1), .ref 76] s (fun v2 s3 => ∃ x4, v2 = some (.int x4) ∧ (∀ s5, s5 = zf s3 75 3 (s.1 75 3) → (x4.toInt < 0 → v_108_78 T P  a1 a2 a3 (s.1 75 3) x4 s5 Q) ∧ (¬ (x4.toInt < 0) → ((s5.1 197 10).toInt = 0 → (-1000 ≤ x4.toInt ∧ x4.toInt ≤ 1000000000) ∧ (∀ s6, s6 = zt s5 204 0 x4 → T 103 [.ref 197, .ref 200, .int 10] s6 (fun v7 s8 => ∃ x9, v7 = some (.int x9) ∧ ((¬ (x9.toInt = 0) → v_108_126 T P  a1 a2 a3 (s.1 75 3) x4 s8 Q) ∧ (x9.toInt = 0 → T 83 [.ref 75, .int x4] s8 (fun v10 s11 => ∃ x12, v10 = some (.int x12) ∧ (∀ x13 : Int32, (-2147483648 ≤ x12.toInt - x4.toInt ∧ x12.toInt - x4.toInt ≤ 2147483647 → x13.toInt = x12.toInt - x4.toInt) → T 107 [.ref 197, .int x4, .int x13] s11 (fun v14 s15 => ∃ x16, v14 = some (.int x16) ∧ ((-1000 ≤ x16.toInt ∧ x16.toInt ≤ 1000000000) ∧ (∀ s17, s17 = zt s15 204 0 x16 → vl_108_108 T P  a1 a2 a3 (s.1 75 3) x4 0 s17 Q)))))))))) ∧ (¬ ((s5.1 197 10).toInt = 0) → v_108_78 T P  a1 a2 a3 (s.1 75 3) x4 s5 Q))))
def v_108_29 (T : Nat → List Value → zS → (Option Value → zS → Prop) → Prop) (P : Nat) (R29 : Int32 → Int32 → Int32 → Int32 → zS → Prop) (a1 : Int32) (a2 : Int32) (a3 : Int32) (a4 : Int32) (s : zS) (Q : Option Value → zS → Prop) : Prop :=
  (a2.toInt ≤ a4.toInt → v_108_51 T P  a1 a2 a3 a4 s Q) ∧ (¬ (a2.toInt ≤ a4.toInt) → (¬ ((s.1 197 10).toInt = 0) → v_108_51 T P  a1 a2 a3 a4 s Q) ∧ ((s.1 197 10).toInt = 0 → ∀ x1 : Int32, (-2147483648 ≤ 3 + a4.toInt ∧ 3 + a4.toInt ≤ 2147483647 → x1.toInt = 3 + a4.toInt) → T 106 [.ref 197, .int a3] s (fun v2 s3 => ∃ x4, v2 = some (.int x4) ∧ ((-1000 ≤ x4.toInt ∧ x4.toInt ≤ 1000000000) ∧ (∀ s5, s5 = zt s3 204 x1 x4 → T 83 [.ref 75, .int a3] s5 (fun v6 s7 => ∃ x8, v6 = some (.int x8) ∧ (∀ x9 : Int32, (-2147483648 ≤ a4.toInt + 1 ∧ a4.toInt + 1 ≤ 2147483647 → x9.toInt = a4.toInt + 1) → R29 a1 a2 x8 x9 s7)))))))
def vl_108_29 (T : Nat → List Value → zS → (Option Value → zS → Prop) → Prop) (P : Nat)  (a1 : Int32) (a2 : Int32) (a3 : Int32) (a4 : Int32) (s : zS) (Q : Option Value → zS → Prop) : Prop :=
  ∃ (I : Int32 → Int32 → Int32 → Int32 → zS → Prop) (μ : Int32 → Int32 → Int32 → Int32 → zS → Nat), I a1 a2 a3 a4 s ∧ ∀ (a1 : Int32) (a2 : Int32) (a3 : Int32) (a4 : Int32) (s : zS), I a1 a2 a3 a4 s → v_108_29 T P (fun a1' a2' a3' a4' s' => I a1' a2' a3' a4' s' ∧ μ a1' a2' a3' a4' s' < μ a1 a2 a3 a4 s) a1 a2 a3 a4 s Q
def v_108_0 (T : Nat → List Value → zS → (Option Value → zS → Prop) → Prop) (P : Nat)  (a1 : Int32) (s : zS) (Q : Option Value → zS → Prop) : Prop :=
  ∀ x1 : Int32, (-2147483648 ≤ a1.toInt + 4 ∧ a1.toInt + 4 ≤ 2147483647 → x1.toInt = a1.toInt + 4) → ∀ x2 : Int32, (-2147483648 ≤ a1.toInt + 3 ∧ a1.toInt + 3 ≤ 2147483647 → x2.toInt = a1.toInt + 3) → ∀ x3 : Int32, (-2147483648 ≤ a1.toInt + 1 ∧ a1.toInt + 1 ≤ 2147483647 → x3.toInt = a1.toInt + 1) → T 102 [.ref 197, .int 0, .int (zg s (P + 34) x3), .int (zg s (P + 34) x1)] s (fun v4 s5 => v4 = none ∧ (vl_108_29 T P  a1 (zg s (P + 34) x1) (zg s (P + 34) x2) 0 s5 Q))
set_option maxRecDepth 20000 in
theorem m_108_126_3 {d d0 : Nat} (hd : d = d0 + 8)  {a1 : Int32} {a2 : Int32} {a3 : Int32} {a4 : Int32} {a5 : Int32} {s : zS} {Q : Option Value → zS → Prop}  (h : v_108_126 (fun j => Zt d (wd2 3 j) j) 3  a1 a2 a3 a4 a5 s Q) : Zn d [] [(3, 98), (0, 198)] ([(197, 5, 3), (197, 6, 21), (75, 0, 3), (75, 1, 21), (75, 2, 25)] : zW) ([(197, 5, 3), (197, 6, 21), (75, 0, 3), (75, 1, 21), (75, 2, 25)] : zW) xL_8 7 (none) xE_108 (xE_108.drop 126) [.ref 197, .int a1, .int a2, .int a3, .int a4, .int a5, .null, .null, .null] [] s Q := by
  unfold v_108_126 at h
  exact zn_ret0 rfl h
set_option maxRecDepth 20000 in
theorem m_108_108_3 {d d0 : Nat} (hd : d = d0 + 8) {R108 : Int32 → Int32 → Int32 → Int32 → Int32 → Int32 → zS → Prop} {a1 : Int32} {a2 : Int32} {a3 : Int32} {a4 : Int32} {a5 : Int32} {a6 : Int32} {s : zS} {Q : Option Value → zS → Prop} (r108 : ∀ a1 a2 a3 a4 a5 a6 s, R108 a1 a2 a3 a4 a5 a6 s → Zn d [] [(3, 98), (0, 198)] ([(197, 5, 3), (197, 6, 21), (75, 0, 3), (75, 1, 21), (75, 2, 25)] : zW) ([(197, 5, 3), (197, 6, 21), (75, 0, 3), (75, 1, 21), (75, 2, 25)] : zW) xL_8 7 (none) xE_108 (xE_108.drop 108) [.ref 197, .int a1, .int a2, .int a3, .int a4, .int a5, .int a6, .null, .null] [] s Q) (h : v_108_108 (fun j => Zt d (wd2 3 j) j) 3 R108 a1 a2 a3 a4 a5 a6 s Q) : Zn d [] [(3, 98), (0, 198)] ([(197, 5, 3), (197, 6, 21), (75, 0, 3), (75, 1, 21), (75, 2, 25)] : zW) ([(197, 5, 3), (197, 6, 21), (75, 0, 3), (75, 1, 21), (75, 2, 25)] : zW) xL_8 7 (none) xE_108 (xE_108.drop 108) [.ref 197, .int a1, .int a2, .int a3, .int a4, .int a5, .int a6, .null, .null] [] s Q := by
  unfold v_108_108 at h
  refine zn_ld rfl rfl rfl ?_
  refine zn_c [.int 9, .int a6] (xo_push (.int 9)) rfl rfl ?_
  refine zn_brP rfl rfl ⟨fun hcn => ?_, fun hcn => ?_⟩
  · replace h := h.1 ((i_le (x := 9) (y := a6) (show (9 : Int32).toInt = 9 by decide) rfl).mp hcn)
    refine zn_ld rfl rfl rfl ?_
    refine zn_get (v := .ref 200) rfl (zv_R (a := 197) rfl rfl) ?_
    refine zn_c [.int 0, .ref 200] (xo_push (.int 0)) rfl rfl ?_
    refine zn_add 0 [] (a := 200) hd rfl rfl rfl rfl ⟨Int32.le_toInt _, Int.le_of_lt_add_one (Int32.toInt_lt _)⟩ (fun q => absurd q (by decide)) rfl ?_ (hy := fun _ => (by decide))
    replace h := h _ rfl
    refine zn_ld rfl rfl rfl ?_
    refine zn_zt [.ref 197] [] rfl rfl rfl rfl rfl (Zt.imp h (fun v2 s3 h => ?_))
    obtain ⟨rfl, h⟩ := h
    change Zn _ _ _ _ _ _ _ _ _ _ _ [] _ _
    refine zn_fg 6 ?_
    exact m_108_126_3 hd  h
  · replace h := h.2 (fun q => hcn ((i_le (x := 9) (y := a6) (show (9 : Int32).toInt = 9 by decide) rfl).mpr q))
    refine zn_ld rfl rfl rfl ?_
    refine zn_get (v := .ref 200) rfl (zv_R (a := 197) rfl rfl) ?_
    refine zn_ld rfl rfl rfl ?_
    refine zn_get (v := .ref 204) rfl (zv_R (a := 197) rfl rfl) ?_
    refine zn_ld rfl rfl rfl ?_
    refine zn_row a6 [.ref 200] (a := 204) hd rfl rfl rfl rfl ?_
    change Zn _ _ _ _ _ _ _ _ _ _ _ [.int (zg s 204 a6), .ref 200] _ _
    obtain ⟨hyS, h⟩ := h
    refine zn_add (zg s 204 a6) [] (a := 200) hd rfl rfl rfl rfl ⟨Int32.le_toInt _, Int.le_of_lt_add_one (Int32.toInt_lt _)⟩ (fun q => absurd q (by decide)) rfl ?_ (hy := fun _ => hyS)
    replace h := h _ rfl
    replace h := h _ (i_add (x := a6) (y := 1) rfl (show (1 : Int32).toInt = 1 by decide))
    refine zn_inc [.ref 197, .int a1, .int a2, .int a3, .int a4, .int a5, .int (a6 + 1), .null, .null] rfl rfl rfl rfl ?_
    refine zn_go rfl ?_
    exact r108 a1 a2 a3 a4 a5 (a6 + 1) (za s 200 (zg s 204 a6)) h
theorem ml_108_108_3 {d d0 : Nat} (hd : d = d0 + 8)  {a1 : Int32} {a2 : Int32} {a3 : Int32} {a4 : Int32} {a5 : Int32} {a6 : Int32} {s : zS} {Q : Option Value → zS → Prop}  (h : vl_108_108 (fun j => Zt d (wd2 3 j) j) 3  a1 a2 a3 a4 a5 a6 s Q) : Zn d [] [(3, 98), (0, 198)] ([(197, 5, 3), (197, 6, 21), (75, 0, 3), (75, 1, 21), (75, 2, 25)] : zW) ([(197, 5, 3), (197, 6, 21), (75, 0, 3), (75, 1, 21), (75, 2, 25)] : zW) xL_8 7 (none) xE_108 (xE_108.drop 108) [.ref 197, .int a1, .int a2, .int a3, .int a4, .int a5, .int a6, .null, .null] [] s Q := by
  obtain ⟨I, μ, h0, h1⟩ := h
  have key : ∀ (n : Nat) (a1 : Int32) (a2 : Int32) (a3 : Int32) (a4 : Int32) (a5 : Int32) (a6 : Int32) (s : zS), μ a1 a2 a3 a4 a5 a6 s = n → I a1 a2 a3 a4 a5 a6 s → Zn d [] [(3, 98), (0, 198)] ([(197, 5, 3), (197, 6, 21), (75, 0, 3), (75, 1, 21), (75, 2, 25)] : zW) ([(197, 5, 3), (197, 6, 21), (75, 0, 3), (75, 1, 21), (75, 2, 25)] : zW) xL_8 7 (none) xE_108 (xE_108.drop 108) [.ref 197, .int a1, .int a2, .int a3, .int a4, .int a5, .int a6, .null, .null] [] s Q := by
    intro n
    induction n using Nat.strongRecOn with
    | ind n ih =>
      intro a1 a2 a3 a4 a5 a6 s e hI
      exact m_108_108_3 hd (fun a1' a2' a3' a4' a5' a6' s' q => ih _ (by rw [← e]; exact q.2) a1' a2' a3' a4' a5' a6' s' rfl q.1) (h1 a1 a2 a3 a4 a5 a6 s hI)
  exact key _ a1 a2 a3 a4 a5 a6 s rfl h0
set_option maxRecDepth 20000 in
theorem m_108_78_3 {d d0 : Nat} (hd : d = d0 + 8)  {a1 : Int32} {a2 : Int32} {a3 : Int32} {a4 : Int32} {a5 : Int32} {s : zS} {Q : Option Value → zS → Prop}  (h : v_108_78 (fun j => Zt d (wd2 3 j) j) 3  a1 a2 a3 a4 a5 s Q) : Zn d [] [(3, 98), (0, 198)] ([(197, 5, 3), (197, 6, 21), (75, 0, 3), (75, 1, 21), (75, 2, 25)] : zW) ([(197, 5, 3), (197, 6, 21), (75, 0, 3), (75, 1, 21), (75, 2, 25)] : zW) xL_8 7 (none) xE_108 (xE_108.drop 78) [.ref 197, .int a1, .int a2, .int a3, .int a4, .int a5, .null, .null, .null] [] s Q := by
  unfold v_108_78 at h
  refine zn_ld rfl rfl rfl ?_
  refine zn_c [.int 1, .ref 197] (xo_push (.int 1)) rfl rfl ?_
  refine zn_putI (a := 197) rfl rfl rfl rfl (by decide) rfl rfl rfl ?_
  replace h := h _ rfl
  exact zn_ret0 rfl h
set_option maxRecDepth 20000 in
theorem m_108_51_3 {d d0 : Nat} (hd : d = d0 + 8)  {a1 : Int32} {a2 : Int32} {a3 : Int32} {a4 : Int32} {s : zS} {Q : Option Value → zS → Prop}  (h : v_108_51 (fun j => Zt d (wd2 3 j) j) 3  a1 a2 a3 a4 s Q) : Zn d [] [(3, 98), (0, 198)] ([(197, 5, 3), (197, 6, 21), (75, 0, 3), (75, 1, 21), (75, 2, 25)] : zW) ([(197, 5, 3), (197, 6, 21), (75, 0, 3), (75, 1, 21), (75, 2, 25)] : zW) xL_8 7 (none) xE_108 (xE_108.drop 51) [.ref 197, .int a1, .int a2, .int a3, .int a4, .null, .null, .null, .null] [] s Q := by
  unfold v_108_51 at h
  refine zn_ld rfl rfl rfl ?_
  refine zn_get (v := .ref 75) rfl (zv_R (a := 197) rfl rfl) ?_
  refine zn_get (v := .int (s.1 75 3)) rfl (zv_I (a := 75) rfl rfl) ?_
  refine zn_st [.ref 197, .int a1, .int a2, .int a3, .int (s.1 75 3), .null, .null, .null, .null] rfl rfl rfl ?_
  refine zn_ld rfl rfl rfl ?_
  refine zn_get (v := .ref 75) rfl (zv_R (a := 197) rfl rfl) ?_
  refine zn_ld rfl rfl rfl ?_
  refine zn_get (v := .ref 3) rfl (zv_C (a := 197) (n := 0) rfl rfl rfl) ?_
  refine zn_get (v := .ref 37) rfl (zv_R (a := 3) rfl rfl) ?_
  refine zn_ld rfl rfl rfl ?_
  refine zn_c [.int 5, .int a1, .ref 37, .ref 75] (xo_push (.int 5)) rfl rfl ?_
  replace h := h _ (i_add (x := a1) (y := 5) rfl (show (5 : Int32).toInt = 5 by decide))
  refine zn_c [.int (a1 + 5), .ref 37, .ref 75] xo_iadd rfl rfl ?_
  refine zn_row (a1 + 5) [.ref 75] (a := 37) hd rfl rfl rfl rfl ?_
  change Zn _ _ _ _ _ _ _ _ _ _ _ [.int (zg s 37 (a1 + 5)), .ref 75] _ _
  refine zn_ld rfl rfl rfl ?_
  refine zn_get (v := .ref 75) rfl (zv_R (a := 197) rfl rfl) ?_
  refine zn_get (v := .ref 76) rfl (zv_R (a := 75) rfl rfl) ?_
  refine zn_zt [.ref 75, .int (zg s 37 (a1 + 5)), .ref 76] [] rfl rfl rfl rfl rfl (Zt.imp h (fun v2 s3 h => ?_))
  obtain ⟨x4, rfl, h⟩ := h
  change Zn _ _ _ _ _ _ _ _ _ _ _ [.int x4] _ _
  refine zn_st [.ref 197, .int a1, .int a2, .int a3, .int (s.1 75 3), .int x4, .null, .null, .null] rfl rfl rfl ?_
  refine zn_ld rfl rfl rfl ?_
  refine zn_get (v := .ref 75) rfl (zv_R (a := 197) rfl rfl) ?_
  refine zn_ld rfl rfl rfl ?_
  refine zn_putI (a := 75) rfl rfl rfl rfl ⟨Int32.le_toInt _, Int.le_of_lt_add_one (Int32.toInt_lt _)⟩ rfl rfl rfl ?_
  replace h := h _ rfl
  refine zn_ld rfl rfl rfl ?_
  refine zn_brP rfl rfl ⟨fun hcn => ?_, fun hcn => ?_⟩
  · replace h := h.1 ((i_lt (x := x4) (y := 0) rfl (show (0 : Int32).toInt = 0 by decide)).mp hcn)
    exact m_108_78_3 hd  h
  · replace h := h.2 (fun q => hcn ((i_lt (x := x4) (y := 0) rfl (show (0 : Int32).toInt = 0 by decide)).mpr q))
    refine zn_ld rfl rfl rfl ?_
    refine zn_get (v := .int ((zf s3 75 3 (s.1 75 3)).1 197 10)) rfl (zv_I (a := 197) rfl rfl) ?_
    refine zn_brP rfl rfl ⟨fun hcn => ?_, fun hcn => ?_⟩
    · replace h := h.1 ((i_eq (x := (zf s3 75 3 (s.1 75 3)).1 197 10) (y := 0) rfl (show (0 : Int32).toInt = 0 by decide)).mp hcn)
      refine zn_ld rfl rfl rfl ?_
      refine zn_get (v := .ref 204) rfl (zv_R (a := 197) rfl rfl) ?_
      refine zn_c [.int 0, .ref 204] (xo_push (.int 0)) rfl rfl ?_
      refine zn_ld rfl rfl rfl ?_
      obtain ⟨hyS, h⟩ := h
      refine zn_set 0 x4 [] (a := 204) hd rfl rfl rfl rfl ⟨Int32.le_toInt _, Int.le_of_lt_add_one (Int32.toInt_lt _)⟩ rfl rfl ?_ (hy := fun _ => hyS)
      replace h := h _ rfl
      refine zn_ld rfl rfl rfl ?_
      refine zn_ld rfl rfl rfl ?_
      refine zn_get (v := .ref 200) rfl (zv_R (a := 197) rfl rfl) ?_
      refine zn_c [.int 10, .ref 200, .ref 197] (xo_push (.int 10)) rfl rfl ?_
      refine zn_zt [.ref 197, .ref 200, .int 10] [] rfl rfl rfl rfl rfl (Zt.imp h (fun v7 s8 h => ?_))
      obtain ⟨x9, rfl, h⟩ := h
      change Zn _ _ _ _ _ _ _ _ _ _ _ [.int x9] _ _
      refine zn_brN rfl rfl ⟨fun hcn => ?_, fun hcn => ?_⟩
      · replace h := h.1 (fun q => hcn ((i_eq (x := x9) (y := 0) rfl (show (0 : Int32).toInt = 0 by decide)).mpr q))
        exact m_108_126_3 hd  h
      · replace h := h.2 ((i_eq (x := x9) (y := 0) rfl (show (0 : Int32).toInt = 0 by decide)).mp hcn)
        refine zn_ld rfl rfl rfl ?_
        refine zn_get (v := .ref 204) rfl (zv_R (a := 197) rfl rfl) ?_
        refine zn_c [.int 0, .ref 204] (xo_push (.int 0)) rfl rfl ?_
        refine zn_ld rfl rfl rfl ?_
        refine zn_ld rfl rfl rfl ?_
        refine zn_ld rfl rfl rfl ?_
        refine zn_get (v := .ref 75) rfl (zv_R (a := 197) rfl rfl) ?_
        refine zn_ld rfl rfl rfl ?_
        refine zn_zt [.ref 75, .int x4] [.int x4, .ref 197, .int 0, .ref 204] rfl rfl rfl rfl rfl (Zt.imp h (fun v10 s11 h => ?_))
        obtain ⟨x12, rfl, h⟩ := h
        change Zn _ _ _ _ _ _ _ _ _ _ _ [.int x12, .int x4, .ref 197, .int 0, .ref 204] _ _
        refine zn_ld rfl rfl rfl ?_
        replace h := h _ (i_sub (x := x12) (y := x4) rfl rfl)
        refine zn_c [.int (x12 - x4), .int x4, .ref 197, .int 0, .ref 204] xo_isub rfl rfl ?_
        refine zn_zt [.ref 197, .int x4, .int (x12 - x4)] [.int 0, .ref 204] rfl rfl rfl rfl rfl (Zt.imp h (fun v14 s15 h => ?_))
        obtain ⟨x16, rfl, h⟩ := h
        change Zn _ _ _ _ _ _ _ _ _ _ _ [.int x16, .int 0, .ref 204] _ _
        obtain ⟨hyS, h⟩ := h
        refine zn_set 0 x16 [] (a := 204) hd rfl rfl rfl rfl ⟨Int32.le_toInt _, Int.le_of_lt_add_one (Int32.toInt_lt _)⟩ rfl rfl ?_ (hy := fun _ => hyS)
        replace h := h _ rfl
        refine zn_c [.int 0] (xo_push (.int 0)) rfl rfl ?_
        refine zn_st [.ref 197, .int a1, .int a2, .int a3, .int (s.1 75 3), .int x4, .int 0, .null, .null] rfl rfl rfl ?_
        exact ml_108_108_3 hd  h
    · replace h := h.2 (fun q => hcn ((i_eq (x := (zf s3 75 3 (s.1 75 3)).1 197 10) (y := 0) rfl (show (0 : Int32).toInt = 0 by decide)).mpr q))
      exact m_108_78_3 hd  h
set_option maxRecDepth 20000 in
theorem m_108_29_3 {d d0 : Nat} (hd : d = d0 + 8) {R29 : Int32 → Int32 → Int32 → Int32 → zS → Prop} {a1 : Int32} {a2 : Int32} {a3 : Int32} {a4 : Int32} {s : zS} {Q : Option Value → zS → Prop} (r29 : ∀ a1 a2 a3 a4 s, R29 a1 a2 a3 a4 s → Zn d [] [(3, 98), (0, 198)] ([(197, 5, 3), (197, 6, 21), (75, 0, 3), (75, 1, 21), (75, 2, 25)] : zW) ([(197, 5, 3), (197, 6, 21), (75, 0, 3), (75, 1, 21), (75, 2, 25)] : zW) xL_8 7 (none) xE_108 (xE_108.drop 29) [.ref 197, .int a1, .int a2, .int a3, .int a4, .null, .null, .null, .null] [] s Q) (h : v_108_29 (fun j => Zt d (wd2 3 j) j) 3 R29 a1 a2 a3 a4 s Q) : Zn d [] [(3, 98), (0, 198)] ([(197, 5, 3), (197, 6, 21), (75, 0, 3), (75, 1, 21), (75, 2, 25)] : zW) ([(197, 5, 3), (197, 6, 21), (75, 0, 3), (75, 1, 21), (75, 2, 25)] : zW) xL_8 7 (none) xE_108 (xE_108.drop 29) [.ref 197, .int a1, .int a2, .int a3, .int a4, .null, .null, .null, .null] [] s Q := by
  unfold v_108_29 at h
  refine zn_ld rfl rfl rfl ?_
  refine zn_ld rfl rfl rfl ?_
  refine zn_brP rfl rfl ⟨fun hcn => ?_, fun hcn => ?_⟩
  · replace h := h.1 ((i_le (x := a2) (y := a4) rfl rfl).mp hcn)
    exact m_108_51_3 hd  h
  · replace h := h.2 (fun q => hcn ((i_le (x := a2) (y := a4) rfl rfl).mpr q))
    refine zn_ld rfl rfl rfl ?_
    refine zn_get (v := .int (s.1 197 10)) rfl (zv_I (a := 197) rfl rfl) ?_
    refine zn_brN rfl rfl ⟨fun hcn => ?_, fun hcn => ?_⟩
    · replace h := h.1 (fun q => hcn ((i_eq (x := s.1 197 10) (y := 0) rfl (show (0 : Int32).toInt = 0 by decide)).mpr q))
      exact m_108_51_3 hd  h
    · replace h := h.2 ((i_eq (x := s.1 197 10) (y := 0) rfl (show (0 : Int32).toInt = 0 by decide)).mp hcn)
      refine zn_ld rfl rfl rfl ?_
      refine zn_get (v := .ref 204) rfl (zv_R (a := 197) rfl rfl) ?_
      refine zn_c [.int 3, .ref 204] (xo_push (.int 3)) rfl rfl ?_
      refine zn_ld rfl rfl rfl ?_
      replace h := h _ (i_add (x := 3) (y := a4) (show (3 : Int32).toInt = 3 by decide) rfl)
      refine zn_c [.int (3 + a4), .ref 204] xo_iadd rfl rfl ?_
      refine zn_ld rfl rfl rfl ?_
      refine zn_ld rfl rfl rfl ?_
      refine zn_zt [.ref 197, .int a3] [.int (3 + a4), .ref 204] rfl rfl rfl rfl rfl (Zt.imp h (fun v2 s3 h => ?_))
      obtain ⟨x4, rfl, h⟩ := h
      change Zn _ _ _ _ _ _ _ _ _ _ _ [.int x4, .int (3 + a4), .ref 204] _ _
      obtain ⟨hyS, h⟩ := h
      refine zn_set (3 + a4) x4 [] (a := 204) hd rfl rfl rfl rfl ⟨Int32.le_toInt _, Int.le_of_lt_add_one (Int32.toInt_lt _)⟩ rfl rfl ?_ (hy := fun _ => hyS)
      replace h := h _ rfl
      refine zn_ld rfl rfl rfl ?_
      refine zn_get (v := .ref 75) rfl (zv_R (a := 197) rfl rfl) ?_
      refine zn_ld rfl rfl rfl ?_
      refine zn_zt [.ref 75, .int a3] [] rfl rfl rfl rfl rfl (Zt.imp h (fun v6 s7 h => ?_))
      obtain ⟨x8, rfl, h⟩ := h
      change Zn _ _ _ _ _ _ _ _ _ _ _ [.int x8] _ _
      refine zn_st [.ref 197, .int a1, .int a2, .int x8, .int a4, .null, .null, .null, .null] rfl rfl rfl ?_
      replace h := h _ (i_add (x := a4) (y := 1) rfl (show (1 : Int32).toInt = 1 by decide))
      refine zn_inc [.ref 197, .int a1, .int a2, .int x8, .int (a4 + 1), .null, .null, .null, .null] rfl rfl rfl rfl ?_
      refine zn_go rfl ?_
      exact r29 a1 a2 x8 (a4 + 1) s7 h
theorem ml_108_29_3 {d d0 : Nat} (hd : d = d0 + 8)  {a1 : Int32} {a2 : Int32} {a3 : Int32} {a4 : Int32} {s : zS} {Q : Option Value → zS → Prop}  (h : vl_108_29 (fun j => Zt d (wd2 3 j) j) 3  a1 a2 a3 a4 s Q) : Zn d [] [(3, 98), (0, 198)] ([(197, 5, 3), (197, 6, 21), (75, 0, 3), (75, 1, 21), (75, 2, 25)] : zW) ([(197, 5, 3), (197, 6, 21), (75, 0, 3), (75, 1, 21), (75, 2, 25)] : zW) xL_8 7 (none) xE_108 (xE_108.drop 29) [.ref 197, .int a1, .int a2, .int a3, .int a4, .null, .null, .null, .null] [] s Q := by
  obtain ⟨I, μ, h0, h1⟩ := h
  have key : ∀ (n : Nat) (a1 : Int32) (a2 : Int32) (a3 : Int32) (a4 : Int32) (s : zS), μ a1 a2 a3 a4 s = n → I a1 a2 a3 a4 s → Zn d [] [(3, 98), (0, 198)] ([(197, 5, 3), (197, 6, 21), (75, 0, 3), (75, 1, 21), (75, 2, 25)] : zW) ([(197, 5, 3), (197, 6, 21), (75, 0, 3), (75, 1, 21), (75, 2, 25)] : zW) xL_8 7 (none) xE_108 (xE_108.drop 29) [.ref 197, .int a1, .int a2, .int a3, .int a4, .null, .null, .null, .null] [] s Q := by
    intro n
    induction n using Nat.strongRecOn with
    | ind n ih =>
      intro a1 a2 a3 a4 s e hI
      exact m_108_29_3 hd (fun a1' a2' a3' a4' s' q => ih _ (by rw [← e]; exact q.2) a1' a2' a3' a4' s' rfl q.1) (h1 a1 a2 a3 a4 s hI)
  exact key _ a1 a2 a3 a4 s rfl h0
set_option maxRecDepth 20000 in
theorem m_108_0_3 {d d0 : Nat} (hd : d = d0 + 8)  {a1 : Int32} {s : zS} {Q : Option Value → zS → Prop}  (h : v_108_0 (fun j => Zt d (wd2 3 j) j) 3  a1 s Q) : Zn d [] [(3, 98), (0, 198)] ([(197, 5, 3), (197, 6, 21), (75, 0, 3), (75, 1, 21), (75, 2, 25)] : zW) ([(197, 5, 3), (197, 6, 21), (75, 0, 3), (75, 1, 21), (75, 2, 25)] : zW) xL_8 7 (none) xE_108 (xE_108.drop 0) [.ref 197, .int a1, .null, .null, .null, .null, .null, .null, .null] [] s Q := by
  unfold v_108_0 at h
  refine zn_ld rfl rfl rfl ?_
  refine zn_get (v := .ref 3) rfl (zv_C (a := 197) (n := 0) rfl rfl rfl) ?_
  refine zn_get (v := .ref 37) rfl (zv_R (a := 3) rfl rfl) ?_
  refine zn_ld rfl rfl rfl ?_
  refine zn_c [.int 4, .int a1, .ref 37] (xo_push (.int 4)) rfl rfl ?_
  replace h := h _ (i_add (x := a1) (y := 4) rfl (show (4 : Int32).toInt = 4 by decide))
  refine zn_c [.int (a1 + 4), .ref 37] xo_iadd rfl rfl ?_
  refine zn_row (a1 + 4) [] (a := 37) hd rfl rfl rfl rfl ?_
  change Zn _ _ _ _ _ _ _ _ _ _ _ [.int (zg s 37 (a1 + 4))] _ _
  refine zn_st [.ref 197, .int a1, .int (zg s 37 (a1 + 4)), .null, .null, .null, .null, .null, .null] rfl rfl rfl ?_
  refine zn_ld rfl rfl rfl ?_
  refine zn_get (v := .ref 3) rfl (zv_C (a := 197) (n := 0) rfl rfl rfl) ?_
  refine zn_get (v := .ref 37) rfl (zv_R (a := 3) rfl rfl) ?_
  refine zn_ld rfl rfl rfl ?_
  refine zn_c [.int 3, .int a1, .ref 37] (xo_push (.int 3)) rfl rfl ?_
  replace h := h _ (i_add (x := a1) (y := 3) rfl (show (3 : Int32).toInt = 3 by decide))
  refine zn_c [.int (a1 + 3), .ref 37] xo_iadd rfl rfl ?_
  refine zn_row (a1 + 3) [] (a := 37) hd rfl rfl rfl rfl ?_
  change Zn _ _ _ _ _ _ _ _ _ _ _ [.int (zg s 37 (a1 + 3))] _ _
  refine zn_st [.ref 197, .int a1, .int (zg s 37 (a1 + 4)), .int (zg s 37 (a1 + 3)), .null, .null, .null, .null, .null] rfl rfl rfl ?_
  refine zn_ld rfl rfl rfl ?_
  refine zn_c [.int 0, .ref 197] (xo_push (.int 0)) rfl rfl ?_
  refine zn_ld rfl rfl rfl ?_
  refine zn_get (v := .ref 3) rfl (zv_C (a := 197) (n := 0) rfl rfl rfl) ?_
  refine zn_get (v := .ref 37) rfl (zv_R (a := 3) rfl rfl) ?_
  refine zn_ld rfl rfl rfl ?_
  refine zn_c [.int 1, .int a1, .ref 37, .int 0, .ref 197] (xo_push (.int 1)) rfl rfl ?_
  replace h := h _ (i_add (x := a1) (y := 1) rfl (show (1 : Int32).toInt = 1 by decide))
  refine zn_c [.int (a1 + 1), .ref 37, .int 0, .ref 197] xo_iadd rfl rfl ?_
  refine zn_row (a1 + 1) [.int 0, .ref 197] (a := 37) hd rfl rfl rfl rfl ?_
  change Zn _ _ _ _ _ _ _ _ _ _ _ [.int (zg s 37 (a1 + 1)), .int 0, .ref 197] _ _
  refine zn_ld rfl rfl rfl ?_
  refine zn_zt [.ref 197, .int 0, .int (zg s 37 (a1 + 1)), .int (zg s 37 (a1 + 4))] [] rfl rfl rfl rfl rfl (Zt.imp h (fun v4 s5 h => ?_))
  obtain ⟨rfl, h⟩ := h
  change Zn _ _ _ _ _ _ _ _ _ _ _ [] _ _
  refine zn_c [.int 0] (xo_push (.int 0)) rfl rfl ?_
  refine zn_st [.ref 197, .int a1, .int (zg s 37 (a1 + 4)), .int (zg s 37 (a1 + 3)), .int 0, .null, .null, .null, .null] rfl rfl rfl ?_
  exact ml_108_29_3 hd  h
theorem zq_108_3 {d : Nat} {a1 : Int32} {s : zS} {Q : Option Value → zS → Prop} (h : v_108_0 (fun j => Zt (d + 8) (wd2 3 j) j) 3 a1 s Q) : Zt (d + 9) ([(197, 5, 3), (197, 6, 21), (75, 0, 3), (75, 1, 21), (75, 2, 25)] : zW) 108 [.ref 197, .int a1] s Q := zt_of (E := xE_108) (L := xL_8) (ml := 7) (ret := none) rfl rfl rfl (m_108_0_3 rfl h)
set_option maxRecDepth 20000 in
theorem m_108_126_39 {d d0 : Nat} (hd : d = d0 + 8)  {a1 : Int32} {a2 : Int32} {a3 : Int32} {a4 : Int32} {a5 : Int32} {s : zS} {Q : Option Value → zS → Prop}  (h : v_108_126 (fun j => Zt d (wd2 39 j) j) 39  a1 a2 a3 a4 a5 s Q) : Zn d [] [(39, 98), (0, 198)] ([(197, 5, 39), (197, 6, 57), (75, 0, 39), (75, 1, 57), (75, 2, 61)] : zW) ([(197, 5, 39), (197, 6, 57), (75, 0, 39), (75, 1, 57), (75, 2, 61)] : zW) xL_8 7 (none) xE_108 (xE_108.drop 126) [.ref 197, .int a1, .int a2, .int a3, .int a4, .int a5, .null, .null, .null] [] s Q := by
  unfold v_108_126 at h
  exact zn_ret0 rfl h
set_option maxRecDepth 20000 in
theorem m_108_108_39 {d d0 : Nat} (hd : d = d0 + 8) {R108 : Int32 → Int32 → Int32 → Int32 → Int32 → Int32 → zS → Prop} {a1 : Int32} {a2 : Int32} {a3 : Int32} {a4 : Int32} {a5 : Int32} {a6 : Int32} {s : zS} {Q : Option Value → zS → Prop} (r108 : ∀ a1 a2 a3 a4 a5 a6 s, R108 a1 a2 a3 a4 a5 a6 s → Zn d [] [(39, 98), (0, 198)] ([(197, 5, 39), (197, 6, 57), (75, 0, 39), (75, 1, 57), (75, 2, 61)] : zW) ([(197, 5, 39), (197, 6, 57), (75, 0, 39), (75, 1, 57), (75, 2, 61)] : zW) xL_8 7 (none) xE_108 (xE_108.drop 108) [.ref 197, .int a1, .int a2, .int a3, .int a4, .int a5, .int a6, .null, .null] [] s Q) (h : v_108_108 (fun j => Zt d (wd2 39 j) j) 39 R108 a1 a2 a3 a4 a5 a6 s Q) : Zn d [] [(39, 98), (0, 198)] ([(197, 5, 39), (197, 6, 57), (75, 0, 39), (75, 1, 57), (75, 2, 61)] : zW) ([(197, 5, 39), (197, 6, 57), (75, 0, 39), (75, 1, 57), (75, 2, 61)] : zW) xL_8 7 (none) xE_108 (xE_108.drop 108) [.ref 197, .int a1, .int a2, .int a3, .int a4, .int a5, .int a6, .null, .null] [] s Q := by
  unfold v_108_108 at h
  refine zn_ld rfl rfl rfl ?_
  refine zn_c [.int 9, .int a6] (xo_push (.int 9)) rfl rfl ?_
  refine zn_brP rfl rfl ⟨fun hcn => ?_, fun hcn => ?_⟩
  · replace h := h.1 ((i_le (x := 9) (y := a6) (show (9 : Int32).toInt = 9 by decide) rfl).mp hcn)
    refine zn_ld rfl rfl rfl ?_
    refine zn_get (v := .ref 200) rfl (zv_R (a := 197) rfl rfl) ?_
    refine zn_c [.int 0, .ref 200] (xo_push (.int 0)) rfl rfl ?_
    refine zn_add 0 [] (a := 200) hd rfl rfl rfl rfl ⟨Int32.le_toInt _, Int.le_of_lt_add_one (Int32.toInt_lt _)⟩ (fun q => absurd q (by decide)) rfl ?_ (hy := fun _ => (by decide))
    replace h := h _ rfl
    refine zn_ld rfl rfl rfl ?_
    refine zn_zt [.ref 197] [] rfl rfl rfl rfl rfl (Zt.imp h (fun v2 s3 h => ?_))
    obtain ⟨rfl, h⟩ := h
    change Zn _ _ _ _ _ _ _ _ _ _ _ [] _ _
    refine zn_fg 6 ?_
    exact m_108_126_39 hd  h
  · replace h := h.2 (fun q => hcn ((i_le (x := 9) (y := a6) (show (9 : Int32).toInt = 9 by decide) rfl).mpr q))
    refine zn_ld rfl rfl rfl ?_
    refine zn_get (v := .ref 200) rfl (zv_R (a := 197) rfl rfl) ?_
    refine zn_ld rfl rfl rfl ?_
    refine zn_get (v := .ref 204) rfl (zv_R (a := 197) rfl rfl) ?_
    refine zn_ld rfl rfl rfl ?_
    refine zn_row a6 [.ref 200] (a := 204) hd rfl rfl rfl rfl ?_
    change Zn _ _ _ _ _ _ _ _ _ _ _ [.int (zg s 204 a6), .ref 200] _ _
    obtain ⟨hyS, h⟩ := h
    refine zn_add (zg s 204 a6) [] (a := 200) hd rfl rfl rfl rfl ⟨Int32.le_toInt _, Int.le_of_lt_add_one (Int32.toInt_lt _)⟩ (fun q => absurd q (by decide)) rfl ?_ (hy := fun _ => hyS)
    replace h := h _ rfl
    replace h := h _ (i_add (x := a6) (y := 1) rfl (show (1 : Int32).toInt = 1 by decide))
    refine zn_inc [.ref 197, .int a1, .int a2, .int a3, .int a4, .int a5, .int (a6 + 1), .null, .null] rfl rfl rfl rfl ?_
    refine zn_go rfl ?_
    exact r108 a1 a2 a3 a4 a5 (a6 + 1) (za s 200 (zg s 204 a6)) h
theorem ml_108_108_39 {d d0 : Nat} (hd : d = d0 + 8)  {a1 : Int32} {a2 : Int32} {a3 : Int32} {a4 : Int32} {a5 : Int32} {a6 : Int32} {s : zS} {Q : Option Value → zS → Prop}  (h : vl_108_108 (fun j => Zt d (wd2 39 j) j) 39  a1 a2 a3 a4 a5 a6 s Q) : Zn d [] [(39, 98), (0, 198)] ([(197, 5, 39), (197, 6, 57), (75, 0, 39), (75, 1, 57), (75, 2, 61)] : zW) ([(197, 5, 39), (197, 6, 57), (75, 0, 39), (75, 1, 57), (75, 2, 61)] : zW) xL_8 7 (none) xE_108 (xE_108.drop 108) [.ref 197, .int a1, .int a2, .int a3, .int a4, .int a5, .int a6, .null, .null] [] s Q := by
  obtain ⟨I, μ, h0, h1⟩ := h
  have key : ∀ (n : Nat) (a1 : Int32) (a2 : Int32) (a3 : Int32) (a4 : Int32) (a5 : Int32) (a6 : Int32) (s : zS), μ a1 a2 a3 a4 a5 a6 s = n → I a1 a2 a3 a4 a5 a6 s → Zn d [] [(39, 98), (0, 198)] ([(197, 5, 39), (197, 6, 57), (75, 0, 39), (75, 1, 57), (75, 2, 61)] : zW) ([(197, 5, 39), (197, 6, 57), (75, 0, 39), (75, 1, 57), (75, 2, 61)] : zW) xL_8 7 (none) xE_108 (xE_108.drop 108) [.ref 197, .int a1, .int a2, .int a3, .int a4, .int a5, .int a6, .null, .null] [] s Q := by
    intro n
    induction n using Nat.strongRecOn with
    | ind n ih =>
      intro a1 a2 a3 a4 a5 a6 s e hI
      exact m_108_108_39 hd (fun a1' a2' a3' a4' a5' a6' s' q => ih _ (by rw [← e]; exact q.2) a1' a2' a3' a4' a5' a6' s' rfl q.1) (h1 a1 a2 a3 a4 a5 a6 s hI)
  exact key _ a1 a2 a3 a4 a5 a6 s rfl h0
set_option maxRecDepth 20000 in
theorem m_108_78_39 {d d0 : Nat} (hd : d = d0 + 8)  {a1 : Int32} {a2 : Int32} {a3 : Int32} {a4 : Int32} {a5 : Int32} {s : zS} {Q : Option Value → zS → Prop}  (h : v_108_78 (fun j => Zt d (wd2 39 j) j) 39  a1 a2 a3 a4 a5 s Q) : Zn d [] [(39, 98), (0, 198)] ([(197, 5, 39), (197, 6, 57), (75, 0, 39), (75, 1, 57), (75, 2, 61)] : zW) ([(197, 5, 39), (197, 6, 57), (75, 0, 39), (75, 1, 57), (75, 2, 61)] : zW) xL_8 7 (none) xE_108 (xE_108.drop 78) [.ref 197, .int a1, .int a2, .int a3, .int a4, .int a5, .null, .null, .null] [] s Q := by
  unfold v_108_78 at h
  refine zn_ld rfl rfl rfl ?_
  refine zn_c [.int 1, .ref 197] (xo_push (.int 1)) rfl rfl ?_
  refine zn_putI (a := 197) rfl rfl rfl rfl (by decide) rfl rfl rfl ?_
  replace h := h _ rfl
  exact zn_ret0 rfl h
set_option maxRecDepth 20000 in
theorem m_108_51_39 {d d0 : Nat} (hd : d = d0 + 8)  {a1 : Int32} {a2 : Int32} {a3 : Int32} {a4 : Int32} {s : zS} {Q : Option Value → zS → Prop}  (h : v_108_51 (fun j => Zt d (wd2 39 j) j) 39  a1 a2 a3 a4 s Q) : Zn d [] [(39, 98), (0, 198)] ([(197, 5, 39), (197, 6, 57), (75, 0, 39), (75, 1, 57), (75, 2, 61)] : zW) ([(197, 5, 39), (197, 6, 57), (75, 0, 39), (75, 1, 57), (75, 2, 61)] : zW) xL_8 7 (none) xE_108 (xE_108.drop 51) [.ref 197, .int a1, .int a2, .int a3, .int a4, .null, .null, .null, .null] [] s Q := by
  unfold v_108_51 at h
  refine zn_ld rfl rfl rfl ?_
  refine zn_get (v := .ref 75) rfl (zv_R (a := 197) rfl rfl) ?_
  refine zn_get (v := .int (s.1 75 3)) rfl (zv_I (a := 75) rfl rfl) ?_
  refine zn_st [.ref 197, .int a1, .int a2, .int a3, .int (s.1 75 3), .null, .null, .null, .null] rfl rfl rfl ?_
  refine zn_ld rfl rfl rfl ?_
  refine zn_get (v := .ref 75) rfl (zv_R (a := 197) rfl rfl) ?_
  refine zn_ld rfl rfl rfl ?_
  refine zn_get (v := .ref 39) rfl (zv_C (a := 197) (n := 0) rfl rfl rfl) ?_
  refine zn_get (v := .ref 73) rfl (zv_R (a := 39) rfl rfl) ?_
  refine zn_ld rfl rfl rfl ?_
  refine zn_c [.int 5, .int a1, .ref 73, .ref 75] (xo_push (.int 5)) rfl rfl ?_
  replace h := h _ (i_add (x := a1) (y := 5) rfl (show (5 : Int32).toInt = 5 by decide))
  refine zn_c [.int (a1 + 5), .ref 73, .ref 75] xo_iadd rfl rfl ?_
  refine zn_row (a1 + 5) [.ref 75] (a := 73) hd rfl rfl rfl rfl ?_
  change Zn _ _ _ _ _ _ _ _ _ _ _ [.int (zg s 73 (a1 + 5)), .ref 75] _ _
  refine zn_ld rfl rfl rfl ?_
  refine zn_get (v := .ref 75) rfl (zv_R (a := 197) rfl rfl) ?_
  refine zn_get (v := .ref 76) rfl (zv_R (a := 75) rfl rfl) ?_
  refine zn_zt [.ref 75, .int (zg s 73 (a1 + 5)), .ref 76] [] rfl rfl rfl rfl rfl (Zt.imp h (fun v2 s3 h => ?_))
  obtain ⟨x4, rfl, h⟩ := h
  change Zn _ _ _ _ _ _ _ _ _ _ _ [.int x4] _ _
  refine zn_st [.ref 197, .int a1, .int a2, .int a3, .int (s.1 75 3), .int x4, .null, .null, .null] rfl rfl rfl ?_
  refine zn_ld rfl rfl rfl ?_
  refine zn_get (v := .ref 75) rfl (zv_R (a := 197) rfl rfl) ?_
  refine zn_ld rfl rfl rfl ?_
  refine zn_putI (a := 75) rfl rfl rfl rfl ⟨Int32.le_toInt _, Int.le_of_lt_add_one (Int32.toInt_lt _)⟩ rfl rfl rfl ?_
  replace h := h _ rfl
  refine zn_ld rfl rfl rfl ?_
  refine zn_brP rfl rfl ⟨fun hcn => ?_, fun hcn => ?_⟩
  · replace h := h.1 ((i_lt (x := x4) (y := 0) rfl (show (0 : Int32).toInt = 0 by decide)).mp hcn)
    exact m_108_78_39 hd  h
  · replace h := h.2 (fun q => hcn ((i_lt (x := x4) (y := 0) rfl (show (0 : Int32).toInt = 0 by decide)).mpr q))
    refine zn_ld rfl rfl rfl ?_
    refine zn_get (v := .int ((zf s3 75 3 (s.1 75 3)).1 197 10)) rfl (zv_I (a := 197) rfl rfl) ?_
    refine zn_brP rfl rfl ⟨fun hcn => ?_, fun hcn => ?_⟩
    · replace h := h.1 ((i_eq (x := (zf s3 75 3 (s.1 75 3)).1 197 10) (y := 0) rfl (show (0 : Int32).toInt = 0 by decide)).mp hcn)
      refine zn_ld rfl rfl rfl ?_
      refine zn_get (v := .ref 204) rfl (zv_R (a := 197) rfl rfl) ?_
      refine zn_c [.int 0, .ref 204] (xo_push (.int 0)) rfl rfl ?_
      refine zn_ld rfl rfl rfl ?_
      obtain ⟨hyS, h⟩ := h
      refine zn_set 0 x4 [] (a := 204) hd rfl rfl rfl rfl ⟨Int32.le_toInt _, Int.le_of_lt_add_one (Int32.toInt_lt _)⟩ rfl rfl ?_ (hy := fun _ => hyS)
      replace h := h _ rfl
      refine zn_ld rfl rfl rfl ?_
      refine zn_ld rfl rfl rfl ?_
      refine zn_get (v := .ref 200) rfl (zv_R (a := 197) rfl rfl) ?_
      refine zn_c [.int 10, .ref 200, .ref 197] (xo_push (.int 10)) rfl rfl ?_
      refine zn_zt [.ref 197, .ref 200, .int 10] [] rfl rfl rfl rfl rfl (Zt.imp h (fun v7 s8 h => ?_))
      obtain ⟨x9, rfl, h⟩ := h
      change Zn _ _ _ _ _ _ _ _ _ _ _ [.int x9] _ _
      refine zn_brN rfl rfl ⟨fun hcn => ?_, fun hcn => ?_⟩
      · replace h := h.1 (fun q => hcn ((i_eq (x := x9) (y := 0) rfl (show (0 : Int32).toInt = 0 by decide)).mpr q))
        exact m_108_126_39 hd  h
      · replace h := h.2 ((i_eq (x := x9) (y := 0) rfl (show (0 : Int32).toInt = 0 by decide)).mp hcn)
        refine zn_ld rfl rfl rfl ?_
        refine zn_get (v := .ref 204) rfl (zv_R (a := 197) rfl rfl) ?_
        refine zn_c [.int 0, .ref 204] (xo_push (.int 0)) rfl rfl ?_
        refine zn_ld rfl rfl rfl ?_
        refine zn_ld rfl rfl rfl ?_
        refine zn_ld rfl rfl rfl ?_
        refine zn_get (v := .ref 75) rfl (zv_R (a := 197) rfl rfl) ?_
        refine zn_ld rfl rfl rfl ?_
        refine zn_zt [.ref 75, .int x4] [.int x4, .ref 197, .int 0, .ref 204] rfl rfl rfl rfl rfl (Zt.imp h (fun v10 s11 h => ?_))
        obtain ⟨x12, rfl, h⟩ := h
        change Zn _ _ _ _ _ _ _ _ _ _ _ [.int x12, .int x4, .ref 197, .int 0, .ref 204] _ _
        refine zn_ld rfl rfl rfl ?_
        replace h := h _ (i_sub (x := x12) (y := x4) rfl rfl)
        refine zn_c [.int (x12 - x4), .int x4, .ref 197, .int 0, .ref 204] xo_isub rfl rfl ?_
        refine zn_zt [.ref 197, .int x4, .int (x12 - x4)] [.int 0, .ref 204] rfl rfl rfl rfl rfl (Zt.imp h (fun v14 s15 h => ?_))
        obtain ⟨x16, rfl, h⟩ := h
        change Zn _ _ _ _ _ _ _ _ _ _ _ [.int x16, .int 0, .ref 204] _ _
        obtain ⟨hyS, h⟩ := h
        refine zn_set 0 x16 [] (a := 204) hd rfl rfl rfl rfl ⟨Int32.le_toInt _, Int.le_of_lt_add_one (Int32.toInt_lt _)⟩ rfl rfl ?_ (hy := fun _ => hyS)
        replace h := h _ rfl
        refine zn_c [.int 0] (xo_push (.int 0)) rfl rfl ?_
        refine zn_st [.ref 197, .int a1, .int a2, .int a3, .int (s.1 75 3), .int x4, .int 0, .null, .null] rfl rfl rfl ?_
        exact ml_108_108_39 hd  h
    · replace h := h.2 (fun q => hcn ((i_eq (x := (zf s3 75 3 (s.1 75 3)).1 197 10) (y := 0) rfl (show (0 : Int32).toInt = 0 by decide)).mpr q))
      exact m_108_78_39 hd  h
set_option maxRecDepth 20000 in
theorem m_108_29_39 {d d0 : Nat} (hd : d = d0 + 8) {R29 : Int32 → Int32 → Int32 → Int32 → zS → Prop} {a1 : Int32} {a2 : Int32} {a3 : Int32} {a4 : Int32} {s : zS} {Q : Option Value → zS → Prop} (r29 : ∀ a1 a2 a3 a4 s, R29 a1 a2 a3 a4 s → Zn d [] [(39, 98), (0, 198)] ([(197, 5, 39), (197, 6, 57), (75, 0, 39), (75, 1, 57), (75, 2, 61)] : zW) ([(197, 5, 39), (197, 6, 57), (75, 0, 39), (75, 1, 57), (75, 2, 61)] : zW) xL_8 7 (none) xE_108 (xE_108.drop 29) [.ref 197, .int a1, .int a2, .int a3, .int a4, .null, .null, .null, .null] [] s Q) (h : v_108_29 (fun j => Zt d (wd2 39 j) j) 39 R29 a1 a2 a3 a4 s Q) : Zn d [] [(39, 98), (0, 198)] ([(197, 5, 39), (197, 6, 57), (75, 0, 39), (75, 1, 57), (75, 2, 61)] : zW) ([(197, 5, 39), (197, 6, 57), (75, 0, 39), (75, 1, 57), (75, 2, 61)] : zW) xL_8 7 (none) xE_108 (xE_108.drop 29) [.ref 197, .int a1, .int a2, .int a3, .int a4, .null, .null, .null, .null] [] s Q := by
  unfold v_108_29 at h
  refine zn_ld rfl rfl rfl ?_
  refine zn_ld rfl rfl rfl ?_
  refine zn_brP rfl rfl ⟨fun hcn => ?_, fun hcn => ?_⟩
  · replace h := h.1 ((i_le (x := a2) (y := a4) rfl rfl).mp hcn)
    exact m_108_51_39 hd  h
  · replace h := h.2 (fun q => hcn ((i_le (x := a2) (y := a4) rfl rfl).mpr q))
    refine zn_ld rfl rfl rfl ?_
    refine zn_get (v := .int (s.1 197 10)) rfl (zv_I (a := 197) rfl rfl) ?_
    refine zn_brN rfl rfl ⟨fun hcn => ?_, fun hcn => ?_⟩
    · replace h := h.1 (fun q => hcn ((i_eq (x := s.1 197 10) (y := 0) rfl (show (0 : Int32).toInt = 0 by decide)).mpr q))
      exact m_108_51_39 hd  h
    · replace h := h.2 ((i_eq (x := s.1 197 10) (y := 0) rfl (show (0 : Int32).toInt = 0 by decide)).mp hcn)
      refine zn_ld rfl rfl rfl ?_
      refine zn_get (v := .ref 204) rfl (zv_R (a := 197) rfl rfl) ?_
      refine zn_c [.int 3, .ref 204] (xo_push (.int 3)) rfl rfl ?_
      refine zn_ld rfl rfl rfl ?_
      replace h := h _ (i_add (x := 3) (y := a4) (show (3 : Int32).toInt = 3 by decide) rfl)
      refine zn_c [.int (3 + a4), .ref 204] xo_iadd rfl rfl ?_
      refine zn_ld rfl rfl rfl ?_
      refine zn_ld rfl rfl rfl ?_
      refine zn_zt [.ref 197, .int a3] [.int (3 + a4), .ref 204] rfl rfl rfl rfl rfl (Zt.imp h (fun v2 s3 h => ?_))
      obtain ⟨x4, rfl, h⟩ := h
      change Zn _ _ _ _ _ _ _ _ _ _ _ [.int x4, .int (3 + a4), .ref 204] _ _
      obtain ⟨hyS, h⟩ := h
      refine zn_set (3 + a4) x4 [] (a := 204) hd rfl rfl rfl rfl ⟨Int32.le_toInt _, Int.le_of_lt_add_one (Int32.toInt_lt _)⟩ rfl rfl ?_ (hy := fun _ => hyS)
      replace h := h _ rfl
      refine zn_ld rfl rfl rfl ?_
      refine zn_get (v := .ref 75) rfl (zv_R (a := 197) rfl rfl) ?_
      refine zn_ld rfl rfl rfl ?_
      refine zn_zt [.ref 75, .int a3] [] rfl rfl rfl rfl rfl (Zt.imp h (fun v6 s7 h => ?_))
      obtain ⟨x8, rfl, h⟩ := h
      change Zn _ _ _ _ _ _ _ _ _ _ _ [.int x8] _ _
      refine zn_st [.ref 197, .int a1, .int a2, .int x8, .int a4, .null, .null, .null, .null] rfl rfl rfl ?_
      replace h := h _ (i_add (x := a4) (y := 1) rfl (show (1 : Int32).toInt = 1 by decide))
      refine zn_inc [.ref 197, .int a1, .int a2, .int x8, .int (a4 + 1), .null, .null, .null, .null] rfl rfl rfl rfl ?_
      refine zn_go rfl ?_
      exact r29 a1 a2 x8 (a4 + 1) s7 h
theorem ml_108_29_39 {d d0 : Nat} (hd : d = d0 + 8)  {a1 : Int32} {a2 : Int32} {a3 : Int32} {a4 : Int32} {s : zS} {Q : Option Value → zS → Prop}  (h : vl_108_29 (fun j => Zt d (wd2 39 j) j) 39  a1 a2 a3 a4 s Q) : Zn d [] [(39, 98), (0, 198)] ([(197, 5, 39), (197, 6, 57), (75, 0, 39), (75, 1, 57), (75, 2, 61)] : zW) ([(197, 5, 39), (197, 6, 57), (75, 0, 39), (75, 1, 57), (75, 2, 61)] : zW) xL_8 7 (none) xE_108 (xE_108.drop 29) [.ref 197, .int a1, .int a2, .int a3, .int a4, .null, .null, .null, .null] [] s Q := by
  obtain ⟨I, μ, h0, h1⟩ := h
  have key : ∀ (n : Nat) (a1 : Int32) (a2 : Int32) (a3 : Int32) (a4 : Int32) (s : zS), μ a1 a2 a3 a4 s = n → I a1 a2 a3 a4 s → Zn d [] [(39, 98), (0, 198)] ([(197, 5, 39), (197, 6, 57), (75, 0, 39), (75, 1, 57), (75, 2, 61)] : zW) ([(197, 5, 39), (197, 6, 57), (75, 0, 39), (75, 1, 57), (75, 2, 61)] : zW) xL_8 7 (none) xE_108 (xE_108.drop 29) [.ref 197, .int a1, .int a2, .int a3, .int a4, .null, .null, .null, .null] [] s Q := by
    intro n
    induction n using Nat.strongRecOn with
    | ind n ih =>
      intro a1 a2 a3 a4 s e hI
      exact m_108_29_39 hd (fun a1' a2' a3' a4' s' q => ih _ (by rw [← e]; exact q.2) a1' a2' a3' a4' s' rfl q.1) (h1 a1 a2 a3 a4 s hI)
  exact key _ a1 a2 a3 a4 s rfl h0
set_option maxRecDepth 20000 in
theorem m_108_0_39 {d d0 : Nat} (hd : d = d0 + 8)  {a1 : Int32} {s : zS} {Q : Option Value → zS → Prop}  (h : v_108_0 (fun j => Zt d (wd2 39 j) j) 39  a1 s Q) : Zn d [] [(39, 98), (0, 198)] ([(197, 5, 39), (197, 6, 57), (75, 0, 39), (75, 1, 57), (75, 2, 61)] : zW) ([(197, 5, 39), (197, 6, 57), (75, 0, 39), (75, 1, 57), (75, 2, 61)] : zW) xL_8 7 (none) xE_108 (xE_108.drop 0) [.ref 197, .int a1, .null, .null, .null, .null, .null, .null, .null] [] s Q := by
  unfold v_108_0 at h
  refine zn_ld rfl rfl rfl ?_
  refine zn_get (v := .ref 39) rfl (zv_C (a := 197) (n := 0) rfl rfl rfl) ?_
  refine zn_get (v := .ref 73) rfl (zv_R (a := 39) rfl rfl) ?_
  refine zn_ld rfl rfl rfl ?_
  refine zn_c [.int 4, .int a1, .ref 73] (xo_push (.int 4)) rfl rfl ?_
  replace h := h _ (i_add (x := a1) (y := 4) rfl (show (4 : Int32).toInt = 4 by decide))
  refine zn_c [.int (a1 + 4), .ref 73] xo_iadd rfl rfl ?_
  refine zn_row (a1 + 4) [] (a := 73) hd rfl rfl rfl rfl ?_
  change Zn _ _ _ _ _ _ _ _ _ _ _ [.int (zg s 73 (a1 + 4))] _ _
  refine zn_st [.ref 197, .int a1, .int (zg s 73 (a1 + 4)), .null, .null, .null, .null, .null, .null] rfl rfl rfl ?_
  refine zn_ld rfl rfl rfl ?_
  refine zn_get (v := .ref 39) rfl (zv_C (a := 197) (n := 0) rfl rfl rfl) ?_
  refine zn_get (v := .ref 73) rfl (zv_R (a := 39) rfl rfl) ?_
  refine zn_ld rfl rfl rfl ?_
  refine zn_c [.int 3, .int a1, .ref 73] (xo_push (.int 3)) rfl rfl ?_
  replace h := h _ (i_add (x := a1) (y := 3) rfl (show (3 : Int32).toInt = 3 by decide))
  refine zn_c [.int (a1 + 3), .ref 73] xo_iadd rfl rfl ?_
  refine zn_row (a1 + 3) [] (a := 73) hd rfl rfl rfl rfl ?_
  change Zn _ _ _ _ _ _ _ _ _ _ _ [.int (zg s 73 (a1 + 3))] _ _
  refine zn_st [.ref 197, .int a1, .int (zg s 73 (a1 + 4)), .int (zg s 73 (a1 + 3)), .null, .null, .null, .null, .null] rfl rfl rfl ?_
  refine zn_ld rfl rfl rfl ?_
  refine zn_c [.int 0, .ref 197] (xo_push (.int 0)) rfl rfl ?_
  refine zn_ld rfl rfl rfl ?_
  refine zn_get (v := .ref 39) rfl (zv_C (a := 197) (n := 0) rfl rfl rfl) ?_
  refine zn_get (v := .ref 73) rfl (zv_R (a := 39) rfl rfl) ?_
  refine zn_ld rfl rfl rfl ?_
  refine zn_c [.int 1, .int a1, .ref 73, .int 0, .ref 197] (xo_push (.int 1)) rfl rfl ?_
  replace h := h _ (i_add (x := a1) (y := 1) rfl (show (1 : Int32).toInt = 1 by decide))
  refine zn_c [.int (a1 + 1), .ref 73, .int 0, .ref 197] xo_iadd rfl rfl ?_
  refine zn_row (a1 + 1) [.int 0, .ref 197] (a := 73) hd rfl rfl rfl rfl ?_
  change Zn _ _ _ _ _ _ _ _ _ _ _ [.int (zg s 73 (a1 + 1)), .int 0, .ref 197] _ _
  refine zn_ld rfl rfl rfl ?_
  refine zn_zt [.ref 197, .int 0, .int (zg s 73 (a1 + 1)), .int (zg s 73 (a1 + 4))] [] rfl rfl rfl rfl rfl (Zt.imp h (fun v4 s5 h => ?_))
  obtain ⟨rfl, h⟩ := h
  change Zn _ _ _ _ _ _ _ _ _ _ _ [] _ _
  refine zn_c [.int 0] (xo_push (.int 0)) rfl rfl ?_
  refine zn_st [.ref 197, .int a1, .int (zg s 73 (a1 + 4)), .int (zg s 73 (a1 + 3)), .int 0, .null, .null, .null, .null] rfl rfl rfl ?_
  exact ml_108_29_39 hd  h
theorem zq_108_39 {d : Nat} {a1 : Int32} {s : zS} {Q : Option Value → zS → Prop} (h : v_108_0 (fun j => Zt (d + 8) (wd2 39 j) j) 39 a1 s Q) : Zt (d + 9) ([(197, 5, 39), (197, 6, 57), (75, 0, 39), (75, 1, 57), (75, 2, 61)] : zW) 108 [.ref 197, .int a1] s Q := zt_of (E := xE_108) (L := xL_8) (ml := 7) (ret := none) rfl rfl rfl (m_108_0_39 rfl h)
theorem zc_108 {d P : Nat} (hP : P = 3 ∨ P = 39) {a1 : Int32} {s : zS} {Q : Option Value → zS → Prop} (h : v_108_0 (fun j => Zt (d + 8) (wd2 P j) j) P a1 s Q) : Zt (d + 9) (wd2 P 108) 108 [.ref 197, .int a1] s Q := by
  rcases hP with rfl | rfl
  · exact zq_108_3 h
  · exact zq_108_39 h
/-! FeatherBench$Stock.answer -/
def v_99_74 (T : Nat → List Value → zS → (Option Value → zS → Prop) → Prop) (P : Nat)  (a1 : Int32) (a2 : Int32) (a3 : Int32) (s : zS) (Q : Option Value → zS → Prop) : Prop :=
  (-1000 ≤ (s.1 198 2).toInt ∧ (s.1 198 2).toInt ≤ 1000000000) ∧ (∀ s1, s1 = zt s 200 a2 (s.1 198 2) → Q none s1)
def v_99_72 (T : Nat → List Value → zS → (Option Value → zS → Prop) → Prop) (P : Nat) (R11 : Int32 → Int32 → Int32 → zS → Prop) (a1 : Int32) (a2 : Int32) (a3 : Int32) (a4 : Int32) (a5 : Int32) (a6 : Int32) (s : zS) (Q : Option Value → zS → Prop) : Prop :=
  ∀ x1 : Int32, (-2147483648 ≤ a3.toInt + 1 ∧ a3.toInt + 1 ≤ 2147483647 → x1.toInt = a3.toInt + 1) → R11 a1 a2 x1 s
def v_99_55 (T : Nat → List Value → zS → (Option Value → zS → Prop) → Prop) (P : Nat) (R11 : Int32 → Int32 → Int32 → zS → Prop) (a1 : Int32) (a2 : Int32) (a3 : Int32) (a4 : Int32) (a5 : Int32) (a6 : Int32) (t1 : Int32) (s : zS) (Q : Option Value → zS → Prop) : Prop :=
  (0 ≤ t1.toInt ∧ t1.toInt ≤ 1) ∧ (∀ s1, s1 = zf s 197 10 t1 → (¬ (a6.toInt = 0) → v_99_72 T P R11 a1 a2 a3 a4 a5 a6 s1 Q) ∧ (a6.toInt = 0 → ∀ x2 : Int32, (-2147483648 ≤ a1.toInt + 1 ∧ a1.toInt + 1 ≤ 2147483647 → x2.toInt = a1.toInt + 1) → T 53 [.ref P, .int a5, .int (zg s1 200 x2)] s1 (fun v3 s4 => ∃ x5, v3 = some (.int x5) ∧ (T 100 [.ref 197, .int a1, .int a4, .int x5] s4 (fun v6 s7 => v6 = none ∧ (v_99_72 T P R11 a1 a2 a3 a4 a5 a6 s7 Q))))))
def v_99_52 (T : Nat → List Value → zS → (Option Value → zS → Prop) → Prop) (P : Nat) (R11 : Int32 → Int32 → Int32 → zS → Prop) (a1 : Int32) (a2 : Int32) (a3 : Int32) (a4 : Int32) (a5 : Int32) (a6 : Int32) (s : zS) (Q : Option Value → zS → Prop) : Prop :=
  v_99_55 T P R11 a1 a2 a3 a4 a5 a6 1 s Q
def v_99_44 (T : Nat → List Value → zS → (Option Value → zS → Prop) → Prop) (P : Nat) (R11 : Int32 → Int32 → Int32 → zS → Prop) (a1 : Int32) (a2 : Int32) (a3 : Int32) (a4 : Int32) (a5 : Int32) (t0 : Int32) (s : zS) (Q : Option Value → zS → Prop) : Prop :=
  (¬ ((s.1 197 10).toInt = 0) → v_99_52 T P R11 a1 a2 a3 a4 a5 t0 s Q) ∧ ((s.1 197 10).toInt = 0 → (¬ (t0.toInt = 9) → v_99_55 T P R11 a1 a2 a3 a4 a5 t0 0 s Q) ∧ (t0.toInt = 9 → v_99_52 T P R11 a1 a2 a3 a4 a5 t0 s Q))
def v_99_11 (T : Nat → List Value → zS → (Option Value → zS → Prop) → Prop) (P : Nat) (R11 : Int32 → Int32 → Int32 → zS → Prop) (a1 : Int32) (a2 : Int32) (a3 : Int32) (s : zS) (Q : Option Value → zS → Prop) : Prop :=
  ((s.1 198 2).toInt ≤ a3.toInt → v_99_74 T P  a1 a2 a3 s Q) ∧ (¬ ((s.1 198 2).toInt ≤ a3.toInt) → (¬ ((s.1 197 10).toInt = 0) → v_99_74 T P  a1 a2 a3 s Q) ∧ ((s.1 197 10).toInt = 0 → ((zStr s P (zg s (P + 18) (zg s 198 a3))).toInt = 0 → v_99_44 T P R11 a1 a2 a3 (zg s 198 a3) (zg s (P + 18) (zg s 198 a3)) 7 s Q) ∧ (¬ ((zStr s P (zg s (P + 18) (zg s 198 a3))).toInt = 0) → T 88 [.ref 75, .int (zg s 198 a3), .int (zg s 200 a1)] s (fun v1 s2 => ∃ x3, v1 = some (.int x3) ∧ (v_99_44 T P R11 a1 a2 a3 (zg s 198 a3) (zg s (P + 18) (zg s 198 a3)) x3 s2 Q)))))
def vl_99_11 (T : Nat → List Value → zS → (Option Value → zS → Prop) → Prop) (P : Nat)  (a1 : Int32) (a2 : Int32) (a3 : Int32) (s : zS) (Q : Option Value → zS → Prop) : Prop :=
  ∃ (I : Int32 → Int32 → Int32 → zS → Prop) (μ : Int32 → Int32 → Int32 → zS → Nat), I a1 a2 a3 s ∧ ∀ (a1 : Int32) (a2 : Int32) (a3 : Int32) (s : zS), I a1 a2 a3 s → v_99_11 T P (fun a1' a2' a3' s' => I a1' a2' a3' s' ∧ μ a1' a2' a3' s' < μ a1 a2 a3 s) a1 a2 a3 s Q
def v_99_0 (T : Nat → List Value → zS → (Option Value → zS → Prop) → Prop) (P : Nat)  (a1 : Int32) (s : zS) (Q : Option Value → zS → Prop) : Prop :=
  ∀ x1 : Int32, (-2147483648 ≤ a1.toInt + 10 ∧ a1.toInt + 10 ≤ 2147483647 → x1.toInt = a1.toInt + 10) → ∀ x2 : Int32, (-2147483648 ≤ x1.toInt - 1 ∧ x1.toInt - 1 ≤ 2147483647 → x2.toInt = x1.toInt - 1) → vl_99_11 T P  a1 x2 (zg s 200 x2) s Q
set_option maxRecDepth 20000 in
theorem m_99_74_3 {d d0 : Nat} (hd : d = d0 + 8)  {a1 : Int32} {a2 : Int32} {a3 : Int32} {s : zS} {Q : Option Value → zS → Prop}  (h : v_99_74 (fun j => Zt d (wd2 3 j) j) 3  a1 a2 a3 s Q) : Zn d [] [(3, 98), (0, 198)] ([(197, 5, 3), (197, 6, 21), (75, 0, 3), (75, 1, 21), (75, 2, 25)] : zW) ([(197, 5, 3), (197, 6, 21), (75, 0, 3), (75, 1, 21), (75, 2, 25)] : zW) xL_8 7 (none) xE_99 (xE_99.drop 74) [.ref 197, .int a1, .int a2, .int a3, .null, .null, .null, .null, .null] [] s Q := by
  unfold v_99_74 at h
  refine zn_ld rfl rfl rfl ?_
  refine zn_get (v := .ref 200) rfl (zv_R (a := 197) rfl rfl) ?_
  refine zn_ld rfl rfl rfl ?_
  refine zn_ld rfl rfl rfl ?_
  refine zn_get (v := .ref 198) rfl (zv_R (a := 197) rfl rfl) ?_
  refine zn_get (v := .int (s.1 198 2)) rfl (zv_I (a := 198) rfl rfl) ?_
  obtain ⟨hyS, h⟩ := h
  refine zn_set a2 (s.1 198 2) [] (a := 200) hd rfl rfl rfl rfl ⟨Int32.le_toInt _, Int.le_of_lt_add_one (Int32.toInt_lt _)⟩ rfl rfl ?_ (hy := fun _ => hyS)
  replace h := h _ rfl
  exact zn_ret0 rfl h
set_option maxRecDepth 20000 in
theorem m_99_72_3 {d d0 : Nat} (hd : d = d0 + 8) {R11 : Int32 → Int32 → Int32 → zS → Prop} {a1 : Int32} {a2 : Int32} {a3 : Int32} {a4 : Int32} {a5 : Int32} {a6 : Int32} {s : zS} {Q : Option Value → zS → Prop} (r11 : ∀ a1 a2 a3 s, R11 a1 a2 a3 s → Zn d [] [(3, 98), (0, 198)] ([(197, 5, 3), (197, 6, 21), (75, 0, 3), (75, 1, 21), (75, 2, 25)] : zW) ([(197, 5, 3), (197, 6, 21), (75, 0, 3), (75, 1, 21), (75, 2, 25)] : zW) xL_8 7 (none) xE_99 (xE_99.drop 11) [.ref 197, .int a1, .int a2, .int a3, .null, .null, .null, .null, .null] [] s Q) (h : v_99_72 (fun j => Zt d (wd2 3 j) j) 3 R11 a1 a2 a3 a4 a5 a6 s Q) : Zn d [] [(3, 98), (0, 198)] ([(197, 5, 3), (197, 6, 21), (75, 0, 3), (75, 1, 21), (75, 2, 25)] : zW) ([(197, 5, 3), (197, 6, 21), (75, 0, 3), (75, 1, 21), (75, 2, 25)] : zW) xL_8 7 (none) xE_99 (xE_99.drop 72) [.ref 197, .int a1, .int a2, .int a3, .int a4, .int a5, .int a6, .null, .null] [] s Q := by
  unfold v_99_72 at h
  replace h := h _ (i_add (x := a3) (y := 1) rfl (show (1 : Int32).toInt = 1 by decide))
  refine zn_inc [.ref 197, .int a1, .int a2, .int (a3 + 1), .int a4, .int a5, .int a6, .null, .null] rfl rfl rfl rfl ?_
  refine zn_go rfl ?_
  refine zn_fg 4 ?_
  refine zn_fg 5 ?_
  refine zn_fg 6 ?_
  exact r11 a1 a2 (a3 + 1) s h
set_option maxRecDepth 20000 in
theorem m_99_55_3 {d d0 : Nat} (hd : d = d0 + 8) {R11 : Int32 → Int32 → Int32 → zS → Prop} {a1 : Int32} {a2 : Int32} {a3 : Int32} {a4 : Int32} {a5 : Int32} {a6 : Int32} {t1 : Int32} {s : zS} {Q : Option Value → zS → Prop} (r11 : ∀ a1 a2 a3 s, R11 a1 a2 a3 s → Zn d [] [(3, 98), (0, 198)] ([(197, 5, 3), (197, 6, 21), (75, 0, 3), (75, 1, 21), (75, 2, 25)] : zW) ([(197, 5, 3), (197, 6, 21), (75, 0, 3), (75, 1, 21), (75, 2, 25)] : zW) xL_8 7 (none) xE_99 (xE_99.drop 11) [.ref 197, .int a1, .int a2, .int a3, .null, .null, .null, .null, .null] [] s Q) (h : v_99_55 (fun j => Zt d (wd2 3 j) j) 3 R11 a1 a2 a3 a4 a5 a6 t1 s Q) : Zn d [] [(3, 98), (0, 198)] ([(197, 5, 3), (197, 6, 21), (75, 0, 3), (75, 1, 21), (75, 2, 25)] : zW) ([(197, 5, 3), (197, 6, 21), (75, 0, 3), (75, 1, 21), (75, 2, 25)] : zW) xL_8 7 (none) xE_99 (xE_99.drop 55) [.ref 197, .int a1, .int a2, .int a3, .int a4, .int a5, .int a6, .null, .null] [.int t1, .ref 197] s Q := by
  unfold v_99_55 at h
  refine zn_putI (a := 197) rfl rfl rfl rfl h.1 (i_z (x := t1) rfl (by have := h.1; omega)) rfl rfl ?_
  replace h := h.2
  replace h := h _ rfl
  refine zn_ld rfl rfl rfl ?_
  refine zn_brN rfl rfl ⟨fun hcn => ?_, fun hcn => ?_⟩
  · replace h := h.1 (fun q => hcn ((i_eq (x := a6) (y := 0) rfl (show (0 : Int32).toInt = 0 by decide)).mpr q))
    exact m_99_72_3 hd r11 h
  · replace h := h.2 ((i_eq (x := a6) (y := 0) rfl (show (0 : Int32).toInt = 0 by decide)).mp hcn)
    refine zn_ld rfl rfl rfl ?_
    refine zn_ld rfl rfl rfl ?_
    refine zn_ld rfl rfl rfl ?_
    refine zn_ld rfl rfl rfl ?_
    refine zn_get (v := .ref 3) rfl (zv_C (a := 197) (n := 0) rfl rfl rfl) ?_
    refine zn_ld rfl rfl rfl ?_
    refine zn_ld rfl rfl rfl ?_
    refine zn_get (v := .ref 200) rfl (zv_R (a := 197) rfl rfl) ?_
    refine zn_ld rfl rfl rfl ?_
    refine zn_c [.int 1, .int a1, .ref 200, .int a5, .ref 3, .int a4, .int a1, .ref 197] (xo_push (.int 1)) rfl rfl ?_
    replace h := h _ (i_add (x := a1) (y := 1) rfl (show (1 : Int32).toInt = 1 by decide))
    refine zn_c [.int (a1 + 1), .ref 200, .int a5, .ref 3, .int a4, .int a1, .ref 197] xo_iadd rfl rfl ?_
    refine zn_row (a1 + 1) [.int a5, .ref 3, .int a4, .int a1, .ref 197] (a := 200) hd rfl rfl rfl rfl ?_
    change Zn _ _ _ _ _ _ _ _ _ _ _ [.int (zg (zf s 197 10 t1) 200 (a1 + 1)), .int a5, .ref 3, .int a4, .int a1, .ref 197] _ _
    refine zn_zt [.ref 3, .int a5, .int (zg (zf s 197 10 t1) 200 (a1 + 1))] [.int a4, .int a1, .ref 197] rfl rfl rfl rfl rfl (Zt.imp h (fun v3 s4 h => ?_))
    obtain ⟨x5, rfl, h⟩ := h
    change Zn _ _ _ _ _ _ _ _ _ _ _ [.int x5, .int a4, .int a1, .ref 197] _ _
    refine zn_zt [.ref 197, .int a1, .int a4, .int x5] [] rfl rfl rfl rfl rfl (Zt.imp h (fun v6 s7 h => ?_))
    obtain ⟨rfl, h⟩ := h
    change Zn _ _ _ _ _ _ _ _ _ _ _ [] _ _
    exact m_99_72_3 hd r11 h
set_option maxRecDepth 20000 in
theorem m_99_52_3 {d d0 : Nat} (hd : d = d0 + 8) {R11 : Int32 → Int32 → Int32 → zS → Prop} {a1 : Int32} {a2 : Int32} {a3 : Int32} {a4 : Int32} {a5 : Int32} {a6 : Int32} {s : zS} {Q : Option Value → zS → Prop} (r11 : ∀ a1 a2 a3 s, R11 a1 a2 a3 s → Zn d [] [(3, 98), (0, 198)] ([(197, 5, 3), (197, 6, 21), (75, 0, 3), (75, 1, 21), (75, 2, 25)] : zW) ([(197, 5, 3), (197, 6, 21), (75, 0, 3), (75, 1, 21), (75, 2, 25)] : zW) xL_8 7 (none) xE_99 (xE_99.drop 11) [.ref 197, .int a1, .int a2, .int a3, .null, .null, .null, .null, .null] [] s Q) (h : v_99_52 (fun j => Zt d (wd2 3 j) j) 3 R11 a1 a2 a3 a4 a5 a6 s Q) : Zn d [] [(3, 98), (0, 198)] ([(197, 5, 3), (197, 6, 21), (75, 0, 3), (75, 1, 21), (75, 2, 25)] : zW) ([(197, 5, 3), (197, 6, 21), (75, 0, 3), (75, 1, 21), (75, 2, 25)] : zW) xL_8 7 (none) xE_99 (xE_99.drop 52) [.ref 197, .int a1, .int a2, .int a3, .int a4, .int a5, .int a6, .null, .null] [.ref 197] s Q := by
  unfold v_99_52 at h
  refine zn_c [.int 1, .ref 197] (xo_push (.int 1)) rfl rfl ?_
  refine zn_go rfl ?_
  exact m_99_55_3 hd r11 h
set_option maxRecDepth 20000 in
theorem m_99_44_3 {d d0 : Nat} (hd : d = d0 + 8) {R11 : Int32 → Int32 → Int32 → zS → Prop} {a1 : Int32} {a2 : Int32} {a3 : Int32} {a4 : Int32} {a5 : Int32} {t0 : Int32} {s : zS} {Q : Option Value → zS → Prop} (r11 : ∀ a1 a2 a3 s, R11 a1 a2 a3 s → Zn d [] [(3, 98), (0, 198)] ([(197, 5, 3), (197, 6, 21), (75, 0, 3), (75, 1, 21), (75, 2, 25)] : zW) ([(197, 5, 3), (197, 6, 21), (75, 0, 3), (75, 1, 21), (75, 2, 25)] : zW) xL_8 7 (none) xE_99 (xE_99.drop 11) [.ref 197, .int a1, .int a2, .int a3, .null, .null, .null, .null, .null] [] s Q) (h : v_99_44 (fun j => Zt d (wd2 3 j) j) 3 R11 a1 a2 a3 a4 a5 t0 s Q) : Zn d [] [(3, 98), (0, 198)] ([(197, 5, 3), (197, 6, 21), (75, 0, 3), (75, 1, 21), (75, 2, 25)] : zW) ([(197, 5, 3), (197, 6, 21), (75, 0, 3), (75, 1, 21), (75, 2, 25)] : zW) xL_8 7 (none) xE_99 (xE_99.drop 44) [.ref 197, .int a1, .int a2, .int a3, .int a4, .int a5, .null, .null, .null] [.int t0] s Q := by
  unfold v_99_44 at h
  refine zn_st [.ref 197, .int a1, .int a2, .int a3, .int a4, .int a5, .int t0, .null, .null] rfl rfl rfl ?_
  refine zn_ld rfl rfl rfl ?_
  refine zn_ld rfl rfl rfl ?_
  refine zn_get (v := .int (s.1 197 10)) rfl (zv_I (a := 197) rfl rfl) ?_
  refine zn_brN rfl rfl ⟨fun hcn => ?_, fun hcn => ?_⟩
  · replace h := h.1 (fun q => hcn ((i_eq (x := s.1 197 10) (y := 0) rfl (show (0 : Int32).toInt = 0 by decide)).mpr q))
    exact m_99_52_3 hd r11 h
  · replace h := h.2 ((i_eq (x := s.1 197 10) (y := 0) rfl (show (0 : Int32).toInt = 0 by decide)).mp hcn)
    refine zn_ld rfl rfl rfl ?_
    refine zn_c [.int 9, .int t0, .ref 197] (xo_push (.int 9)) rfl rfl ?_
    refine zn_brN rfl rfl ⟨fun hcn => ?_, fun hcn => ?_⟩
    · replace h := h.1 (fun q => hcn ((i_eq (x := t0) (y := 9) rfl (show (9 : Int32).toInt = 9 by decide)).mpr q))
      refine zn_c [.int 0, .ref 197] (xo_push (.int 0)) rfl rfl ?_
      exact m_99_55_3 hd r11 h
    · replace h := h.2 ((i_eq (x := t0) (y := 9) rfl (show (9 : Int32).toInt = 9 by decide)).mp hcn)
      exact m_99_52_3 hd r11 h
set_option maxRecDepth 20000 in
theorem m_99_11_3 {d d0 : Nat} (hd : d = d0 + 8) {R11 : Int32 → Int32 → Int32 → zS → Prop} {a1 : Int32} {a2 : Int32} {a3 : Int32} {s : zS} {Q : Option Value → zS → Prop} (r11 : ∀ a1 a2 a3 s, R11 a1 a2 a3 s → Zn d [] [(3, 98), (0, 198)] ([(197, 5, 3), (197, 6, 21), (75, 0, 3), (75, 1, 21), (75, 2, 25)] : zW) ([(197, 5, 3), (197, 6, 21), (75, 0, 3), (75, 1, 21), (75, 2, 25)] : zW) xL_8 7 (none) xE_99 (xE_99.drop 11) [.ref 197, .int a1, .int a2, .int a3, .null, .null, .null, .null, .null] [] s Q) (h : v_99_11 (fun j => Zt d (wd2 3 j) j) 3 R11 a1 a2 a3 s Q) : Zn d [] [(3, 98), (0, 198)] ([(197, 5, 3), (197, 6, 21), (75, 0, 3), (75, 1, 21), (75, 2, 25)] : zW) ([(197, 5, 3), (197, 6, 21), (75, 0, 3), (75, 1, 21), (75, 2, 25)] : zW) xL_8 7 (none) xE_99 (xE_99.drop 11) [.ref 197, .int a1, .int a2, .int a3, .null, .null, .null, .null, .null] [] s Q := by
  unfold v_99_11 at h
  refine zn_ld rfl rfl rfl ?_
  refine zn_ld rfl rfl rfl ?_
  refine zn_get (v := .ref 198) rfl (zv_R (a := 197) rfl rfl) ?_
  refine zn_get (v := .int (s.1 198 2)) rfl (zv_I (a := 198) rfl rfl) ?_
  refine zn_brP rfl rfl ⟨fun hcn => ?_, fun hcn => ?_⟩
  · replace h := h.1 ((i_le (x := s.1 198 2) (y := a3) rfl rfl).mp hcn)
    exact m_99_74_3 hd  h
  · replace h := h.2 (fun q => hcn ((i_le (x := s.1 198 2) (y := a3) rfl rfl).mpr q))
    refine zn_ld rfl rfl rfl ?_
    refine zn_get (v := .int (s.1 197 10)) rfl (zv_I (a := 197) rfl rfl) ?_
    refine zn_brN rfl rfl ⟨fun hcn => ?_, fun hcn => ?_⟩
    · replace h := h.1 (fun q => hcn ((i_eq (x := s.1 197 10) (y := 0) rfl (show (0 : Int32).toInt = 0 by decide)).mpr q))
      exact m_99_74_3 hd  h
    · replace h := h.2 ((i_eq (x := s.1 197 10) (y := 0) rfl (show (0 : Int32).toInt = 0 by decide)).mp hcn)
      refine zn_ld rfl rfl rfl ?_
      refine zn_get (v := .ref 198) rfl (zv_R (a := 197) rfl rfl) ?_
      refine zn_ld rfl rfl rfl ?_
      refine zn_row a3 [] (a := 198) hd rfl rfl rfl rfl ?_
      change Zn _ _ _ _ _ _ _ _ _ _ _ [.int (zg s 198 a3)] _ _
      refine zn_st [.ref 197, .int a1, .int a2, .int a3, .int (zg s 198 a3), .null, .null, .null, .null] rfl rfl rfl ?_
      refine zn_ld rfl rfl rfl ?_
      refine zn_get (v := .ref 21) rfl (zv_C (a := 197) (n := 1) rfl rfl rfl) ?_
      refine zn_ld rfl rfl rfl ?_
      refine zn_row (zg s 198 a3) [] (a := 21) hd rfl rfl rfl rfl ?_
      change Zn _ _ _ _ _ _ _ _ _ _ _ [.int (zg s 21 (zg s 198 a3))] _ _
      refine zn_st [.ref 197, .int a1, .int a2, .int a3, .int (zg s 198 a3), .int (zg s 21 (zg s 198 a3)), .null, .null, .null] rfl rfl rfl ?_
      refine zn_ld rfl rfl rfl ?_
      refine zn_get (v := .ref 3) rfl (zv_C (a := 197) (n := 0) rfl rfl rfl) ?_
      refine zn_ld rfl rfl rfl ?_
      refine zn_zt [.ref 3, .int (zg s 21 (zg s 198 a3))] [] (c := []) rfl rfl rfl rfl rfl (Zt.imp (zp_49 hd (Or.inl rfl)) (fun vq sq hq => ?_))
      obtain ⟨rfl, hq⟩ := hq
      rw [hq]
      change Zn _ _ _ _ _ _ _ _ _ _ _ [.int (zStr s 3 (zg s 21 (zg s 198 a3)))] _ _
      refine zn_brP rfl rfl ⟨fun hcn => ?_, fun hcn => ?_⟩
      · replace h := h.1 ((i_eq (x := zStr s 3 (zg s 21 (zg s 198 a3))) (y := 0) rfl (show (0 : Int32).toInt = 0 by decide)).mp hcn)
        refine zn_c [.int 7] (xo_push (.int 7)) rfl rfl ?_
        exact m_99_44_3 hd r11 h
      · replace h := h.2 (fun q => hcn ((i_eq (x := zStr s 3 (zg s 21 (zg s 198 a3))) (y := 0) rfl (show (0 : Int32).toInt = 0 by decide)).mpr q))
        refine zn_ld rfl rfl rfl ?_
        refine zn_get (v := .ref 75) rfl (zv_R (a := 197) rfl rfl) ?_
        refine zn_ld rfl rfl rfl ?_
        refine zn_ld rfl rfl rfl ?_
        refine zn_get (v := .ref 200) rfl (zv_R (a := 197) rfl rfl) ?_
        refine zn_ld rfl rfl rfl ?_
        refine zn_row a1 [.int (zg s 198 a3), .ref 75] (a := 200) hd rfl rfl rfl rfl ?_
        change Zn _ _ _ _ _ _ _ _ _ _ _ [.int (zg s 200 a1), .int (zg s 198 a3), .ref 75] _ _
        refine zn_zt [.ref 75, .int (zg s 198 a3), .int (zg s 200 a1)] [] rfl rfl rfl rfl rfl (Zt.imp h (fun v1 s2 h => ?_))
        obtain ⟨x3, rfl, h⟩ := h
        change Zn _ _ _ _ _ _ _ _ _ _ _ [.int x3] _ _
        refine zn_go rfl ?_
        exact m_99_44_3 hd r11 h
theorem ml_99_11_3 {d d0 : Nat} (hd : d = d0 + 8)  {a1 : Int32} {a2 : Int32} {a3 : Int32} {s : zS} {Q : Option Value → zS → Prop}  (h : vl_99_11 (fun j => Zt d (wd2 3 j) j) 3  a1 a2 a3 s Q) : Zn d [] [(3, 98), (0, 198)] ([(197, 5, 3), (197, 6, 21), (75, 0, 3), (75, 1, 21), (75, 2, 25)] : zW) ([(197, 5, 3), (197, 6, 21), (75, 0, 3), (75, 1, 21), (75, 2, 25)] : zW) xL_8 7 (none) xE_99 (xE_99.drop 11) [.ref 197, .int a1, .int a2, .int a3, .null, .null, .null, .null, .null] [] s Q := by
  obtain ⟨I, μ, h0, h1⟩ := h
  have key : ∀ (n : Nat) (a1 : Int32) (a2 : Int32) (a3 : Int32) (s : zS), μ a1 a2 a3 s = n → I a1 a2 a3 s → Zn d [] [(3, 98), (0, 198)] ([(197, 5, 3), (197, 6, 21), (75, 0, 3), (75, 1, 21), (75, 2, 25)] : zW) ([(197, 5, 3), (197, 6, 21), (75, 0, 3), (75, 1, 21), (75, 2, 25)] : zW) xL_8 7 (none) xE_99 (xE_99.drop 11) [.ref 197, .int a1, .int a2, .int a3, .null, .null, .null, .null, .null] [] s Q := by
    intro n
    induction n using Nat.strongRecOn with
    | ind n ih =>
      intro a1 a2 a3 s e hI
      exact m_99_11_3 hd (fun a1' a2' a3' s' q => ih _ (by rw [← e]; exact q.2) a1' a2' a3' s' rfl q.1) (h1 a1 a2 a3 s hI)
  exact key _ a1 a2 a3 s rfl h0
set_option maxRecDepth 20000 in
theorem m_99_0_3 {d d0 : Nat} (hd : d = d0 + 8)  {a1 : Int32} {s : zS} {Q : Option Value → zS → Prop}  (h : v_99_0 (fun j => Zt d (wd2 3 j) j) 3  a1 s Q) : Zn d [] [(3, 98), (0, 198)] ([(197, 5, 3), (197, 6, 21), (75, 0, 3), (75, 1, 21), (75, 2, 25)] : zW) ([(197, 5, 3), (197, 6, 21), (75, 0, 3), (75, 1, 21), (75, 2, 25)] : zW) xL_8 7 (none) xE_99 (xE_99.drop 0) [.ref 197, .int a1, .null, .null, .null, .null, .null, .null, .null] [] s Q := by
  unfold v_99_0 at h
  refine zn_ld rfl rfl rfl ?_
  refine zn_c [.int 10, .int a1] (xo_push (.int 10)) rfl rfl ?_
  replace h := h _ (i_add (x := a1) (y := 10) rfl (show (10 : Int32).toInt = 10 by decide))
  refine zn_c [.int (a1 + 10)] xo_iadd rfl rfl ?_
  refine zn_c [.int 1, .int (a1 + 10)] (xo_push (.int 1)) rfl rfl ?_
  replace h := h _ (i_sub (x := (a1 + 10)) (y := 1) rfl (show (1 : Int32).toInt = 1 by decide))
  refine zn_c [.int ((a1 + 10) - 1)] xo_isub rfl rfl ?_
  refine zn_st [.ref 197, .int a1, .int ((a1 + 10) - 1), .null, .null, .null, .null, .null, .null] rfl rfl rfl ?_
  refine zn_ld rfl rfl rfl ?_
  refine zn_get (v := .ref 200) rfl (zv_R (a := 197) rfl rfl) ?_
  refine zn_ld rfl rfl rfl ?_
  refine zn_row ((a1 + 10) - 1) [] (a := 200) hd rfl rfl rfl rfl ?_
  change Zn _ _ _ _ _ _ _ _ _ _ _ [.int (zg s 200 ((a1 + 10) - 1))] _ _
  refine zn_st [.ref 197, .int a1, .int ((a1 + 10) - 1), .int (zg s 200 ((a1 + 10) - 1)), .null, .null, .null, .null, .null] rfl rfl rfl ?_
  exact ml_99_11_3 hd  h
theorem zq_99_3 {d : Nat} {a1 : Int32} {s : zS} {Q : Option Value → zS → Prop} (h : v_99_0 (fun j => Zt (d + 8) (wd2 3 j) j) 3 a1 s Q) : Zt (d + 9) ([(197, 5, 3), (197, 6, 21), (75, 0, 3), (75, 1, 21), (75, 2, 25)] : zW) 99 [.ref 197, .int a1] s Q := zt_of (E := xE_99) (L := xL_8) (ml := 7) (ret := none) rfl rfl rfl (m_99_0_3 rfl h)
set_option maxRecDepth 20000 in
theorem m_99_74_39 {d d0 : Nat} (hd : d = d0 + 8)  {a1 : Int32} {a2 : Int32} {a3 : Int32} {s : zS} {Q : Option Value → zS → Prop}  (h : v_99_74 (fun j => Zt d (wd2 39 j) j) 39  a1 a2 a3 s Q) : Zn d [] [(39, 98), (0, 198)] ([(197, 5, 39), (197, 6, 57), (75, 0, 39), (75, 1, 57), (75, 2, 61)] : zW) ([(197, 5, 39), (197, 6, 57), (75, 0, 39), (75, 1, 57), (75, 2, 61)] : zW) xL_8 7 (none) xE_99 (xE_99.drop 74) [.ref 197, .int a1, .int a2, .int a3, .null, .null, .null, .null, .null] [] s Q := by
  unfold v_99_74 at h
  refine zn_ld rfl rfl rfl ?_
  refine zn_get (v := .ref 200) rfl (zv_R (a := 197) rfl rfl) ?_
  refine zn_ld rfl rfl rfl ?_
  refine zn_ld rfl rfl rfl ?_
  refine zn_get (v := .ref 198) rfl (zv_R (a := 197) rfl rfl) ?_
  refine zn_get (v := .int (s.1 198 2)) rfl (zv_I (a := 198) rfl rfl) ?_
  obtain ⟨hyS, h⟩ := h
  refine zn_set a2 (s.1 198 2) [] (a := 200) hd rfl rfl rfl rfl ⟨Int32.le_toInt _, Int.le_of_lt_add_one (Int32.toInt_lt _)⟩ rfl rfl ?_ (hy := fun _ => hyS)
  replace h := h _ rfl
  exact zn_ret0 rfl h
set_option maxRecDepth 20000 in
theorem m_99_72_39 {d d0 : Nat} (hd : d = d0 + 8) {R11 : Int32 → Int32 → Int32 → zS → Prop} {a1 : Int32} {a2 : Int32} {a3 : Int32} {a4 : Int32} {a5 : Int32} {a6 : Int32} {s : zS} {Q : Option Value → zS → Prop} (r11 : ∀ a1 a2 a3 s, R11 a1 a2 a3 s → Zn d [] [(39, 98), (0, 198)] ([(197, 5, 39), (197, 6, 57), (75, 0, 39), (75, 1, 57), (75, 2, 61)] : zW) ([(197, 5, 39), (197, 6, 57), (75, 0, 39), (75, 1, 57), (75, 2, 61)] : zW) xL_8 7 (none) xE_99 (xE_99.drop 11) [.ref 197, .int a1, .int a2, .int a3, .null, .null, .null, .null, .null] [] s Q) (h : v_99_72 (fun j => Zt d (wd2 39 j) j) 39 R11 a1 a2 a3 a4 a5 a6 s Q) : Zn d [] [(39, 98), (0, 198)] ([(197, 5, 39), (197, 6, 57), (75, 0, 39), (75, 1, 57), (75, 2, 61)] : zW) ([(197, 5, 39), (197, 6, 57), (75, 0, 39), (75, 1, 57), (75, 2, 61)] : zW) xL_8 7 (none) xE_99 (xE_99.drop 72) [.ref 197, .int a1, .int a2, .int a3, .int a4, .int a5, .int a6, .null, .null] [] s Q := by
  unfold v_99_72 at h
  replace h := h _ (i_add (x := a3) (y := 1) rfl (show (1 : Int32).toInt = 1 by decide))
  refine zn_inc [.ref 197, .int a1, .int a2, .int (a3 + 1), .int a4, .int a5, .int a6, .null, .null] rfl rfl rfl rfl ?_
  refine zn_go rfl ?_
  refine zn_fg 4 ?_
  refine zn_fg 5 ?_
  refine zn_fg 6 ?_
  exact r11 a1 a2 (a3 + 1) s h
set_option maxRecDepth 20000 in
theorem m_99_55_39 {d d0 : Nat} (hd : d = d0 + 8) {R11 : Int32 → Int32 → Int32 → zS → Prop} {a1 : Int32} {a2 : Int32} {a3 : Int32} {a4 : Int32} {a5 : Int32} {a6 : Int32} {t1 : Int32} {s : zS} {Q : Option Value → zS → Prop} (r11 : ∀ a1 a2 a3 s, R11 a1 a2 a3 s → Zn d [] [(39, 98), (0, 198)] ([(197, 5, 39), (197, 6, 57), (75, 0, 39), (75, 1, 57), (75, 2, 61)] : zW) ([(197, 5, 39), (197, 6, 57), (75, 0, 39), (75, 1, 57), (75, 2, 61)] : zW) xL_8 7 (none) xE_99 (xE_99.drop 11) [.ref 197, .int a1, .int a2, .int a3, .null, .null, .null, .null, .null] [] s Q) (h : v_99_55 (fun j => Zt d (wd2 39 j) j) 39 R11 a1 a2 a3 a4 a5 a6 t1 s Q) : Zn d [] [(39, 98), (0, 198)] ([(197, 5, 39), (197, 6, 57), (75, 0, 39), (75, 1, 57), (75, 2, 61)] : zW) ([(197, 5, 39), (197, 6, 57), (75, 0, 39), (75, 1, 57), (75, 2, 61)] : zW) xL_8 7 (none) xE_99 (xE_99.drop 55) [.ref 197, .int a1, .int a2, .int a3, .int a4, .int a5, .int a6, .null, .null] [.int t1, .ref 197] s Q := by
  unfold v_99_55 at h
  refine zn_putI (a := 197) rfl rfl rfl rfl h.1 (i_z (x := t1) rfl (by have := h.1; omega)) rfl rfl ?_
  replace h := h.2
  replace h := h _ rfl
  refine zn_ld rfl rfl rfl ?_
  refine zn_brN rfl rfl ⟨fun hcn => ?_, fun hcn => ?_⟩
  · replace h := h.1 (fun q => hcn ((i_eq (x := a6) (y := 0) rfl (show (0 : Int32).toInt = 0 by decide)).mpr q))
    exact m_99_72_39 hd r11 h
  · replace h := h.2 ((i_eq (x := a6) (y := 0) rfl (show (0 : Int32).toInt = 0 by decide)).mp hcn)
    refine zn_ld rfl rfl rfl ?_
    refine zn_ld rfl rfl rfl ?_
    refine zn_ld rfl rfl rfl ?_
    refine zn_ld rfl rfl rfl ?_
    refine zn_get (v := .ref 39) rfl (zv_C (a := 197) (n := 0) rfl rfl rfl) ?_
    refine zn_ld rfl rfl rfl ?_
    refine zn_ld rfl rfl rfl ?_
    refine zn_get (v := .ref 200) rfl (zv_R (a := 197) rfl rfl) ?_
    refine zn_ld rfl rfl rfl ?_
    refine zn_c [.int 1, .int a1, .ref 200, .int a5, .ref 39, .int a4, .int a1, .ref 197] (xo_push (.int 1)) rfl rfl ?_
    replace h := h _ (i_add (x := a1) (y := 1) rfl (show (1 : Int32).toInt = 1 by decide))
    refine zn_c [.int (a1 + 1), .ref 200, .int a5, .ref 39, .int a4, .int a1, .ref 197] xo_iadd rfl rfl ?_
    refine zn_row (a1 + 1) [.int a5, .ref 39, .int a4, .int a1, .ref 197] (a := 200) hd rfl rfl rfl rfl ?_
    change Zn _ _ _ _ _ _ _ _ _ _ _ [.int (zg (zf s 197 10 t1) 200 (a1 + 1)), .int a5, .ref 39, .int a4, .int a1, .ref 197] _ _
    refine zn_zt [.ref 39, .int a5, .int (zg (zf s 197 10 t1) 200 (a1 + 1))] [.int a4, .int a1, .ref 197] rfl rfl rfl rfl rfl (Zt.imp h (fun v3 s4 h => ?_))
    obtain ⟨x5, rfl, h⟩ := h
    change Zn _ _ _ _ _ _ _ _ _ _ _ [.int x5, .int a4, .int a1, .ref 197] _ _
    refine zn_zt [.ref 197, .int a1, .int a4, .int x5] [] rfl rfl rfl rfl rfl (Zt.imp h (fun v6 s7 h => ?_))
    obtain ⟨rfl, h⟩ := h
    change Zn _ _ _ _ _ _ _ _ _ _ _ [] _ _
    exact m_99_72_39 hd r11 h
set_option maxRecDepth 20000 in
theorem m_99_52_39 {d d0 : Nat} (hd : d = d0 + 8) {R11 : Int32 → Int32 → Int32 → zS → Prop} {a1 : Int32} {a2 : Int32} {a3 : Int32} {a4 : Int32} {a5 : Int32} {a6 : Int32} {s : zS} {Q : Option Value → zS → Prop} (r11 : ∀ a1 a2 a3 s, R11 a1 a2 a3 s → Zn d [] [(39, 98), (0, 198)] ([(197, 5, 39), (197, 6, 57), (75, 0, 39), (75, 1, 57), (75, 2, 61)] : zW) ([(197, 5, 39), (197, 6, 57), (75, 0, 39), (75, 1, 57), (75, 2, 61)] : zW) xL_8 7 (none) xE_99 (xE_99.drop 11) [.ref 197, .int a1, .int a2, .int a3, .null, .null, .null, .null, .null] [] s Q) (h : v_99_52 (fun j => Zt d (wd2 39 j) j) 39 R11 a1 a2 a3 a4 a5 a6 s Q) : Zn d [] [(39, 98), (0, 198)] ([(197, 5, 39), (197, 6, 57), (75, 0, 39), (75, 1, 57), (75, 2, 61)] : zW) ([(197, 5, 39), (197, 6, 57), (75, 0, 39), (75, 1, 57), (75, 2, 61)] : zW) xL_8 7 (none) xE_99 (xE_99.drop 52) [.ref 197, .int a1, .int a2, .int a3, .int a4, .int a5, .int a6, .null, .null] [.ref 197] s Q := by
  unfold v_99_52 at h
  refine zn_c [.int 1, .ref 197] (xo_push (.int 1)) rfl rfl ?_
  refine zn_go rfl ?_
  exact m_99_55_39 hd r11 h
set_option maxRecDepth 20000 in
theorem m_99_44_39 {d d0 : Nat} (hd : d = d0 + 8) {R11 : Int32 → Int32 → Int32 → zS → Prop} {a1 : Int32} {a2 : Int32} {a3 : Int32} {a4 : Int32} {a5 : Int32} {t0 : Int32} {s : zS} {Q : Option Value → zS → Prop} (r11 : ∀ a1 a2 a3 s, R11 a1 a2 a3 s → Zn d [] [(39, 98), (0, 198)] ([(197, 5, 39), (197, 6, 57), (75, 0, 39), (75, 1, 57), (75, 2, 61)] : zW) ([(197, 5, 39), (197, 6, 57), (75, 0, 39), (75, 1, 57), (75, 2, 61)] : zW) xL_8 7 (none) xE_99 (xE_99.drop 11) [.ref 197, .int a1, .int a2, .int a3, .null, .null, .null, .null, .null] [] s Q) (h : v_99_44 (fun j => Zt d (wd2 39 j) j) 39 R11 a1 a2 a3 a4 a5 t0 s Q) : Zn d [] [(39, 98), (0, 198)] ([(197, 5, 39), (197, 6, 57), (75, 0, 39), (75, 1, 57), (75, 2, 61)] : zW) ([(197, 5, 39), (197, 6, 57), (75, 0, 39), (75, 1, 57), (75, 2, 61)] : zW) xL_8 7 (none) xE_99 (xE_99.drop 44) [.ref 197, .int a1, .int a2, .int a3, .int a4, .int a5, .null, .null, .null] [.int t0] s Q := by
  unfold v_99_44 at h
  refine zn_st [.ref 197, .int a1, .int a2, .int a3, .int a4, .int a5, .int t0, .null, .null] rfl rfl rfl ?_
  refine zn_ld rfl rfl rfl ?_
  refine zn_ld rfl rfl rfl ?_
  refine zn_get (v := .int (s.1 197 10)) rfl (zv_I (a := 197) rfl rfl) ?_
  refine zn_brN rfl rfl ⟨fun hcn => ?_, fun hcn => ?_⟩
  · replace h := h.1 (fun q => hcn ((i_eq (x := s.1 197 10) (y := 0) rfl (show (0 : Int32).toInt = 0 by decide)).mpr q))
    exact m_99_52_39 hd r11 h
  · replace h := h.2 ((i_eq (x := s.1 197 10) (y := 0) rfl (show (0 : Int32).toInt = 0 by decide)).mp hcn)
    refine zn_ld rfl rfl rfl ?_
    refine zn_c [.int 9, .int t0, .ref 197] (xo_push (.int 9)) rfl rfl ?_
    refine zn_brN rfl rfl ⟨fun hcn => ?_, fun hcn => ?_⟩
    · replace h := h.1 (fun q => hcn ((i_eq (x := t0) (y := 9) rfl (show (9 : Int32).toInt = 9 by decide)).mpr q))
      refine zn_c [.int 0, .ref 197] (xo_push (.int 0)) rfl rfl ?_
      exact m_99_55_39 hd r11 h
    · replace h := h.2 ((i_eq (x := t0) (y := 9) rfl (show (9 : Int32).toInt = 9 by decide)).mp hcn)
      exact m_99_52_39 hd r11 h
set_option maxRecDepth 20000 in
theorem m_99_11_39 {d d0 : Nat} (hd : d = d0 + 8) {R11 : Int32 → Int32 → Int32 → zS → Prop} {a1 : Int32} {a2 : Int32} {a3 : Int32} {s : zS} {Q : Option Value → zS → Prop} (r11 : ∀ a1 a2 a3 s, R11 a1 a2 a3 s → Zn d [] [(39, 98), (0, 198)] ([(197, 5, 39), (197, 6, 57), (75, 0, 39), (75, 1, 57), (75, 2, 61)] : zW) ([(197, 5, 39), (197, 6, 57), (75, 0, 39), (75, 1, 57), (75, 2, 61)] : zW) xL_8 7 (none) xE_99 (xE_99.drop 11) [.ref 197, .int a1, .int a2, .int a3, .null, .null, .null, .null, .null] [] s Q) (h : v_99_11 (fun j => Zt d (wd2 39 j) j) 39 R11 a1 a2 a3 s Q) : Zn d [] [(39, 98), (0, 198)] ([(197, 5, 39), (197, 6, 57), (75, 0, 39), (75, 1, 57), (75, 2, 61)] : zW) ([(197, 5, 39), (197, 6, 57), (75, 0, 39), (75, 1, 57), (75, 2, 61)] : zW) xL_8 7 (none) xE_99 (xE_99.drop 11) [.ref 197, .int a1, .int a2, .int a3, .null, .null, .null, .null, .null] [] s Q := by
  unfold v_99_11 at h
  refine zn_ld rfl rfl rfl ?_
  refine zn_ld rfl rfl rfl ?_
  refine zn_get (v := .ref 198) rfl (zv_R (a := 197) rfl rfl) ?_
  refine zn_get (v := .int (s.1 198 2)) rfl (zv_I (a := 198) rfl rfl) ?_
  refine zn_brP rfl rfl ⟨fun hcn => ?_, fun hcn => ?_⟩
  · replace h := h.1 ((i_le (x := s.1 198 2) (y := a3) rfl rfl).mp hcn)
    exact m_99_74_39 hd  h
  · replace h := h.2 (fun q => hcn ((i_le (x := s.1 198 2) (y := a3) rfl rfl).mpr q))
    refine zn_ld rfl rfl rfl ?_
    refine zn_get (v := .int (s.1 197 10)) rfl (zv_I (a := 197) rfl rfl) ?_
    refine zn_brN rfl rfl ⟨fun hcn => ?_, fun hcn => ?_⟩
    · replace h := h.1 (fun q => hcn ((i_eq (x := s.1 197 10) (y := 0) rfl (show (0 : Int32).toInt = 0 by decide)).mpr q))
      exact m_99_74_39 hd  h
    · replace h := h.2 ((i_eq (x := s.1 197 10) (y := 0) rfl (show (0 : Int32).toInt = 0 by decide)).mp hcn)
      refine zn_ld rfl rfl rfl ?_
      refine zn_get (v := .ref 198) rfl (zv_R (a := 197) rfl rfl) ?_
      refine zn_ld rfl rfl rfl ?_
      refine zn_row a3 [] (a := 198) hd rfl rfl rfl rfl ?_
      change Zn _ _ _ _ _ _ _ _ _ _ _ [.int (zg s 198 a3)] _ _
      refine zn_st [.ref 197, .int a1, .int a2, .int a3, .int (zg s 198 a3), .null, .null, .null, .null] rfl rfl rfl ?_
      refine zn_ld rfl rfl rfl ?_
      refine zn_get (v := .ref 57) rfl (zv_C (a := 197) (n := 1) rfl rfl rfl) ?_
      refine zn_ld rfl rfl rfl ?_
      refine zn_row (zg s 198 a3) [] (a := 57) hd rfl rfl rfl rfl ?_
      change Zn _ _ _ _ _ _ _ _ _ _ _ [.int (zg s 57 (zg s 198 a3))] _ _
      refine zn_st [.ref 197, .int a1, .int a2, .int a3, .int (zg s 198 a3), .int (zg s 57 (zg s 198 a3)), .null, .null, .null] rfl rfl rfl ?_
      refine zn_ld rfl rfl rfl ?_
      refine zn_get (v := .ref 39) rfl (zv_C (a := 197) (n := 0) rfl rfl rfl) ?_
      refine zn_ld rfl rfl rfl ?_
      refine zn_zt [.ref 39, .int (zg s 57 (zg s 198 a3))] [] (c := []) rfl rfl rfl rfl rfl (Zt.imp (zp_49 hd (Or.inr rfl)) (fun vq sq hq => ?_))
      obtain ⟨rfl, hq⟩ := hq
      rw [hq]
      change Zn _ _ _ _ _ _ _ _ _ _ _ [.int (zStr s 39 (zg s 57 (zg s 198 a3)))] _ _
      refine zn_brP rfl rfl ⟨fun hcn => ?_, fun hcn => ?_⟩
      · replace h := h.1 ((i_eq (x := zStr s 39 (zg s 57 (zg s 198 a3))) (y := 0) rfl (show (0 : Int32).toInt = 0 by decide)).mp hcn)
        refine zn_c [.int 7] (xo_push (.int 7)) rfl rfl ?_
        exact m_99_44_39 hd r11 h
      · replace h := h.2 (fun q => hcn ((i_eq (x := zStr s 39 (zg s 57 (zg s 198 a3))) (y := 0) rfl (show (0 : Int32).toInt = 0 by decide)).mpr q))
        refine zn_ld rfl rfl rfl ?_
        refine zn_get (v := .ref 75) rfl (zv_R (a := 197) rfl rfl) ?_
        refine zn_ld rfl rfl rfl ?_
        refine zn_ld rfl rfl rfl ?_
        refine zn_get (v := .ref 200) rfl (zv_R (a := 197) rfl rfl) ?_
        refine zn_ld rfl rfl rfl ?_
        refine zn_row a1 [.int (zg s 198 a3), .ref 75] (a := 200) hd rfl rfl rfl rfl ?_
        change Zn _ _ _ _ _ _ _ _ _ _ _ [.int (zg s 200 a1), .int (zg s 198 a3), .ref 75] _ _
        refine zn_zt [.ref 75, .int (zg s 198 a3), .int (zg s 200 a1)] [] rfl rfl rfl rfl rfl (Zt.imp h (fun v1 s2 h => ?_))
        obtain ⟨x3, rfl, h⟩ := h
        change Zn _ _ _ _ _ _ _ _ _ _ _ [.int x3] _ _
        refine zn_go rfl ?_
        exact m_99_44_39 hd r11 h
theorem ml_99_11_39 {d d0 : Nat} (hd : d = d0 + 8)  {a1 : Int32} {a2 : Int32} {a3 : Int32} {s : zS} {Q : Option Value → zS → Prop}  (h : vl_99_11 (fun j => Zt d (wd2 39 j) j) 39  a1 a2 a3 s Q) : Zn d [] [(39, 98), (0, 198)] ([(197, 5, 39), (197, 6, 57), (75, 0, 39), (75, 1, 57), (75, 2, 61)] : zW) ([(197, 5, 39), (197, 6, 57), (75, 0, 39), (75, 1, 57), (75, 2, 61)] : zW) xL_8 7 (none) xE_99 (xE_99.drop 11) [.ref 197, .int a1, .int a2, .int a3, .null, .null, .null, .null, .null] [] s Q := by
  obtain ⟨I, μ, h0, h1⟩ := h
  have key : ∀ (n : Nat) (a1 : Int32) (a2 : Int32) (a3 : Int32) (s : zS), μ a1 a2 a3 s = n → I a1 a2 a3 s → Zn d [] [(39, 98), (0, 198)] ([(197, 5, 39), (197, 6, 57), (75, 0, 39), (75, 1, 57), (75, 2, 61)] : zW) ([(197, 5, 39), (197, 6, 57), (75, 0, 39), (75, 1, 57), (75, 2, 61)] : zW) xL_8 7 (none) xE_99 (xE_99.drop 11) [.ref 197, .int a1, .int a2, .int a3, .null, .null, .null, .null, .null] [] s Q := by
    intro n
    induction n using Nat.strongRecOn with
    | ind n ih =>
      intro a1 a2 a3 s e hI
      exact m_99_11_39 hd (fun a1' a2' a3' s' q => ih _ (by rw [← e]; exact q.2) a1' a2' a3' s' rfl q.1) (h1 a1 a2 a3 s hI)
  exact key _ a1 a2 a3 s rfl h0
set_option maxRecDepth 20000 in
theorem m_99_0_39 {d d0 : Nat} (hd : d = d0 + 8)  {a1 : Int32} {s : zS} {Q : Option Value → zS → Prop}  (h : v_99_0 (fun j => Zt d (wd2 39 j) j) 39  a1 s Q) : Zn d [] [(39, 98), (0, 198)] ([(197, 5, 39), (197, 6, 57), (75, 0, 39), (75, 1, 57), (75, 2, 61)] : zW) ([(197, 5, 39), (197, 6, 57), (75, 0, 39), (75, 1, 57), (75, 2, 61)] : zW) xL_8 7 (none) xE_99 (xE_99.drop 0) [.ref 197, .int a1, .null, .null, .null, .null, .null, .null, .null] [] s Q := by
  unfold v_99_0 at h
  refine zn_ld rfl rfl rfl ?_
  refine zn_c [.int 10, .int a1] (xo_push (.int 10)) rfl rfl ?_
  replace h := h _ (i_add (x := a1) (y := 10) rfl (show (10 : Int32).toInt = 10 by decide))
  refine zn_c [.int (a1 + 10)] xo_iadd rfl rfl ?_
  refine zn_c [.int 1, .int (a1 + 10)] (xo_push (.int 1)) rfl rfl ?_
  replace h := h _ (i_sub (x := (a1 + 10)) (y := 1) rfl (show (1 : Int32).toInt = 1 by decide))
  refine zn_c [.int ((a1 + 10) - 1)] xo_isub rfl rfl ?_
  refine zn_st [.ref 197, .int a1, .int ((a1 + 10) - 1), .null, .null, .null, .null, .null, .null] rfl rfl rfl ?_
  refine zn_ld rfl rfl rfl ?_
  refine zn_get (v := .ref 200) rfl (zv_R (a := 197) rfl rfl) ?_
  refine zn_ld rfl rfl rfl ?_
  refine zn_row ((a1 + 10) - 1) [] (a := 200) hd rfl rfl rfl rfl ?_
  change Zn _ _ _ _ _ _ _ _ _ _ _ [.int (zg s 200 ((a1 + 10) - 1))] _ _
  refine zn_st [.ref 197, .int a1, .int ((a1 + 10) - 1), .int (zg s 200 ((a1 + 10) - 1)), .null, .null, .null, .null, .null] rfl rfl rfl ?_
  exact ml_99_11_39 hd  h
theorem zq_99_39 {d : Nat} {a1 : Int32} {s : zS} {Q : Option Value → zS → Prop} (h : v_99_0 (fun j => Zt (d + 8) (wd2 39 j) j) 39 a1 s Q) : Zt (d + 9) ([(197, 5, 39), (197, 6, 57), (75, 0, 39), (75, 1, 57), (75, 2, 61)] : zW) 99 [.ref 197, .int a1] s Q := zt_of (E := xE_99) (L := xL_8) (ml := 7) (ret := none) rfl rfl rfl (m_99_0_39 rfl h)
theorem zc_99 {d P : Nat} (hP : P = 3 ∨ P = 39) {a1 : Int32} {s : zS} {Q : Option Value → zS → Prop} (h : v_99_0 (fun j => Zt (d + 8) (wd2 P j) j) P a1 s Q) : Zt (d + 9) (wd2 P 99) 99 [.ref 197, .int a1] s Q := by
  rcases hP with rfl | rfl
  · exact zq_99_3 h
  · exact zq_99_39 h
