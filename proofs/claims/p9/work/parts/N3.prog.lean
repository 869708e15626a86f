/-! FeatherBench$Program.typeNamed -/
def v_51_2 (T : Nat → List Value → zS → (Option Value → zS → Prop) → Prop) (P : Nat) (R2 : Int32 → Int32 → zS → Prop) (a2 : Int32) (a3 : Int32) (s : zS) (Q : Option Value → zS → Prop) : Prop :=
  ((s.1 (P + 24) 2 / 6).toInt ≤ a3.toInt → Q (some (.int (-1))) s) ∧ (¬ ((s.1 (P + 24) 2 / 6).toInt ≤ a3.toInt) → T 111 [.ref (P + 1), .int (zg s (P + 24) (a3 * 6 + 0)), .ref (P + 1), .int a2] s (fun v2 s3 => ∃ x4, v2 = some (.int x4) ∧ ((x4.toInt = 0 → ∀ x5 : Int32, (-2147483648 ≤ a3.toInt + 1 ∧ a3.toInt + 1 ≤ 2147483647 → x5.toInt = a3.toInt + 1) → R2 a2 x5 s3) ∧ (¬ (x4.toInt = 0) → Q (some (.int a3)) s3))))
def vl_51_2 (T : Nat → List Value → zS → (Option Value → zS → Prop) → Prop) (P : Nat)  (a2 : Int32) (a3 : Int32) (s : zS) (Q : Option Value → zS → Prop) : Prop :=
  ∃ (I : Int32 → Int32 → zS → Prop) (μ : Int32 → Int32 → zS → Nat), I a2 a3 s ∧ ∀ (a2 : Int32) (a3 : Int32) (s : zS), I a2 a3 s → v_51_2 T P (fun a2' a3' s' => I a2' a3' s' ∧ μ a2' a3' s' < μ a2 a3 s) a2 a3 s Q
def v_51_0 (T : Nat → List Value → zS → (Option Value → zS → Prop) → Prop) (P : Nat)  (a2 : Int32) (s : zS) (Q : Option Value → zS → Prop) : Prop :=
  vl_51_2 T P  a2 0 s Q
set_option maxRecDepth 20000 in
theorem m_51_2_3 {d d0 : Nat} (hd : d = d0 + 8) {R2 : Int32 → Int32 → zS → Prop} {a2 : Int32} {a3 : Int32} {s : zS} {Q : Option Value → zS → Prop} (r2 : ∀ a2 a3 s, R2 a2 a3 s → Zn d [] [] ([] : zW) ([] : zW) xL_4 4 (some .int) xE_51 (xE_51.drop 2) [.ref 3, .ref 4, .int a2, .int a3, .null, .null, .null] [] s Q) (h : v_51_2 (fun j => Zt d (wd 3 j) j) 3 R2 a2 a3 s Q) : Zn d [] [] ([] : zW) ([] : zW) xL_4 4 (some .int) xE_51 (xE_51.drop 2) [.ref 3, .ref 4, .int a2, .int a3, .null, .null, .null] [] s Q := by
  unfold v_51_2 at h
  refine zn_ld rfl rfl rfl ?_
  refine zn_ld rfl rfl rfl ?_
  refine zn_zt [.ref 3] [.int a3] (c := []) rfl rfl rfl rfl rfl (Zt.imp (zp_44 hd (Or.inl rfl)) (fun vq sq hq => ?_))
  obtain ⟨rfl, hq⟩ := hq
  rw [hq]
  change Zn _ _ _ _ _ _ _ _ _ _ _ [.int (s.1 27 2 / 6), .int a3] _ _
  refine zn_brP rfl rfl ⟨fun hcn => ?_, fun hcn => ?_⟩
  · replace h := h.1 ((i_le (x := s.1 27 2 / 6) (y := a3) rfl rfl).mp hcn)
    refine zn_c [.int (-1)] (xo_push (.int (-1))) rfl rfl ?_
    exact zn_retI rfl h
  · replace h := h.2 (fun q => hcn ((i_le (x := s.1 27 2 / 6) (y := a3) rfl rfl).mpr q))
    refine zn_ld rfl rfl rfl ?_
    refine zn_get (v := .ref 4) rfl (zv_R (a := 3) rfl rfl) ?_
    refine zn_ld rfl rfl rfl ?_
    refine zn_ld rfl rfl rfl ?_
    refine zn_c [.int 0, .int a3, .ref 3, .ref 4] (xo_push (.int 0)) rfl rfl ?_
    refine zn_zt [.ref 3, .int a3, .int 0] [.ref 4] (c := []) rfl rfl rfl rfl rfl (Zt.imp (zp_39 hd (Or.inl rfl)) (fun vq sq hq => ?_))
    obtain ⟨rfl, hq⟩ := hq
    rw [hq]
    change Zn _ _ _ _ _ _ _ _ _ _ _ [.int (zg s 27 (a3 * 6 + 0)), .ref 4] _ _
    refine zn_ld rfl rfl rfl ?_
    refine zn_ld rfl rfl rfl ?_
    refine zn_zt [.ref 4, .int (zg s 27 (a3 * 6 + 0)), .ref 4, .int a2] [] rfl rfl rfl rfl rfl (Zt.imp h (fun v2 s3 h => ?_))
    obtain ⟨x4, rfl, h⟩ := h
    change Zn _ _ _ _ _ _ _ _ _ _ _ [.int x4] _ _
    refine zn_brP rfl rfl ⟨fun hcn => ?_, fun hcn => ?_⟩
    · replace h := h.1 ((i_eq (x := x4) (y := 0) rfl (show (0 : Int32).toInt = 0 by decide)).mp hcn)
      replace h := h _ (i_add (x := a3) (y := 1) rfl (show (1 : Int32).toInt = 1 by decide))
      refine zn_inc [.ref 3, .ref 4, .int a2, .int (a3 + 1), .null, .null, .null] rfl rfl rfl rfl ?_
      refine zn_go rfl ?_
      exact r2 a2 (a3 + 1) s3 h
    · replace h := h.2 (fun q => hcn ((i_eq (x := x4) (y := 0) rfl (show (0 : Int32).toInt = 0 by decide)).mpr q))
      refine zn_ld rfl rfl rfl ?_
      exact zn_retI rfl h
theorem ml_51_2_3 {d d0 : Nat} (hd : d = d0 + 8)  {a2 : Int32} {a3 : Int32} {s : zS} {Q : Option Value → zS → Prop}  (h : vl_51_2 (fun j => Zt d (wd 3 j) j) 3  a2 a3 s Q) : Zn d [] [] ([] : zW) ([] : zW) xL_4 4 (some .int) xE_51 (xE_51.drop 2) [.ref 3, .ref 4, .int a2, .int a3, .null, .null, .null] [] s Q := by
  obtain ⟨I, μ, h0, h1⟩ := h
  have key : ∀ (n : Nat) (a2 : Int32) (a3 : Int32) (s : zS), μ a2 a3 s = n → I a2 a3 s → Zn d [] [] ([] : zW) ([] : zW) xL_4 4 (some .int) xE_51 (xE_51.drop 2) [.ref 3, .ref 4, .int a2, .int a3, .null, .null, .null] [] s Q := by
    intro n
    induction n using Nat.strongRecOn with
    | ind n ih =>
      intro a2 a3 s e hI
      exact m_51_2_3 hd (fun a2' a3' s' q => ih _ (by rw [← e]; exact q.2) a2' a3' s' rfl q.1) (h1 a2 a3 s hI)
  exact key _ a2 a3 s rfl h0
set_option maxRecDepth 20000 in
theorem m_51_0_3 {d d0 : Nat} (hd : d = d0 + 8)  {a2 : Int32} {s : zS} {Q : Option Value → zS → Prop}  (h : v_51_0 (fun j => Zt d (wd 3 j) j) 3  a2 s Q) : Zn d [] [] ([] : zW) ([] : zW) xL_4 4 (some .int) xE_51 (xE_51.drop 0) [.ref 3, .ref 4, .int a2, .null, .null, .null, .null] [] s Q := by
  unfold v_51_0 at h
  refine zn_c [.int 0] (xo_push (.int 0)) rfl rfl ?_
  refine zn_st [.ref 3, .ref 4, .int a2, .int 0, .null, .null, .null] rfl rfl rfl ?_
  exact ml_51_2_3 hd  h
theorem zq_51_3 {d : Nat} {a2 : Int32} {s : zS} {Q : Option Value → zS → Prop} (h : v_51_0 (fun j => Zt (d + 8) (wd 3 j) j) 3 a2 s Q) : Zt (d + 9) ([] : zW) 51 [.ref 3, .ref 4, .int a2] s Q := zt_of (E := xE_51) (L := xL_4) (ml := 4) (ret := some .int) rfl rfl rfl (m_51_0_3 rfl h)
set_option maxRecDepth 20000 in
theorem m_51_2_39 {d d0 : Nat} (hd : d = d0 + 8) {R2 : Int32 → Int32 → zS → Prop} {a2 : Int32} {a3 : Int32} {s : zS} {Q : Option Value → zS → Prop} (r2 : ∀ a2 a3 s, R2 a2 a3 s → Zn d [] [] ([] : zW) ([] : zW) xL_4 4 (some .int) xE_51 (xE_51.drop 2) [.ref 39, .ref 40, .int a2, .int a3, .null, .null, .null] [] s Q) (h : v_51_2 (fun j => Zt d (wd 39 j) j) 39 R2 a2 a3 s Q) : Zn d [] [] ([] : zW) ([] : zW) xL_4 4 (some .int) xE_51 (xE_51.drop 2) [.ref 39, .ref 40, .int a2, .int a3, .null, .null, .null] [] s Q := by
  unfold v_51_2 at h
  refine zn_ld rfl rfl rfl ?_
  refine zn_ld rfl rfl rfl ?_
  refine zn_zt [.ref 39] [.int a3] (c := []) rfl rfl rfl rfl rfl (Zt.imp (zp_44 hd (Or.inr rfl)) (fun vq sq hq => ?_))
  obtain ⟨rfl, hq⟩ := hq
  rw [hq]
  change Zn _ _ _ _ _ _ _ _ _ _ _ [.int (s.1 63 2 / 6), .int a3] _ _
  refine zn_brP rfl rfl ⟨fun hcn => ?_, fun hcn => ?_⟩
  · replace h := h.1 ((i_le (x := s.1 63 2 / 6) (y := a3) rfl rfl).mp hcn)
    refine zn_c [.int (-1)] (xo_push (.int (-1))) rfl rfl ?_
    exact zn_retI rfl h
  · replace h := h.2 (fun q => hcn ((i_le (x := s.1 63 2 / 6) (y := a3) rfl rfl).mpr q))
    refine zn_ld rfl rfl rfl ?_
    refine zn_get (v := .ref 40) rfl (zv_R (a := 39) rfl rfl) ?_
    refine zn_ld rfl rfl rfl ?_
    refine zn_ld rfl rfl rfl ?_
    refine zn_c [.int 0, .int a3, .ref 39, .ref 40] (xo_push (.int 0)) rfl rfl ?_
    refine zn_zt [.ref 39, .int a3, .int 0] [.ref 40] (c := []) rfl rfl rfl rfl rfl (Zt.imp (zp_39 hd (Or.inr rfl)) (fun vq sq hq => ?_))
    obtain ⟨rfl, hq⟩ := hq
    rw [hq]
    change Zn _ _ _ _ _ _ _ _ _ _ _ [.int (zg s 63 (a3 * 6 + 0)), .ref 40] _ _
    refine zn_ld rfl rfl rfl ?_
    refine zn_ld rfl rfl rfl ?_
    refine zn_zt [.ref 40, .int (zg s 63 (a3 * 6 + 0)), .ref 40, .int a2] [] rfl rfl rfl rfl rfl (Zt.imp h (fun v2 s3 h => ?_))
    obtain ⟨x4, rfl, h⟩ := h
    change Zn _ _ _ _ _ _ _ _ _ _ _ [.int x4] _ _
    refine zn_brP rfl rfl ⟨fun hcn => ?_, fun hcn => ?_⟩
    · replace h := h.1 ((i_eq (x := x4) (y := 0) rfl (show (0 : Int32).toInt = 0 by decide)).mp hcn)
      replace h := h _ (i_add (x := a3) (y := 1) rfl (show (1 : Int32).toInt = 1 by decide))
      refine zn_inc [.ref 39, .ref 40, .int a2, .int (a3 + 1), .null, .null, .null] rfl rfl rfl rfl ?_
      refine zn_go rfl ?_
      exact r2 a2 (a3 + 1) s3 h
    · replace h := h.2 (fun q => hcn ((i_eq (x := x4) (y := 0) rfl (show (0 : Int32).toInt = 0 by decide)).mpr q))
      refine zn_ld rfl rfl rfl ?_
      exact zn_retI rfl h
theorem ml_51_2_39 {d d0 : Nat} (hd : d = d0 + 8)  {a2 : Int32} {a3 : Int32} {s : zS} {Q : Option Value → zS → Prop}  (h : vl_51_2 (fun j => Zt d (wd 39 j) j) 39  a2 a3 s Q) : Zn d [] [] ([] : zW) ([] : zW) xL_4 4 (some .int) xE_51 (xE_51.drop 2) [.ref 39, .ref 40, .int a2, .int a3, .null, .null, .null] [] s Q := by
  obtain ⟨I, μ, h0, h1⟩ := h
  have key : ∀ (n : Nat) (a2 : Int32) (a3 : Int32) (s : zS), μ a2 a3 s = n → I a2 a3 s → Zn d [] [] ([] : zW) ([] : zW) xL_4 4 (some .int) xE_51 (xE_51.drop 2) [.ref 39, .ref 40, .int a2, .int a3, .null, .null, .null] [] s Q := by
    intro n
    induction n using Nat.strongRecOn with
    | ind n ih =>
      intro a2 a3 s e hI
      exact m_51_2_39 hd (fun a2' a3' s' q => ih _ (by rw [← e]; exact q.2) a2' a3' s' rfl q.1) (h1 a2 a3 s hI)
  exact key _ a2 a3 s rfl h0
set_option maxRecDepth 20000 in
theorem m_51_0_39 {d d0 : Nat} (hd : d = d0 + 8)  {a2 : Int32} {s : zS} {Q : Option Value → zS → Prop}  (h : v_51_0 (fun j => Zt d (wd 39 j) j) 39  a2 s Q) : Zn d [] [] ([] : zW) ([] : zW) xL_4 4 (some .int) xE_51 (xE_51.drop 0) [.ref 39, .ref 40, .int a2, .null, .null, .null, .null] [] s Q := by
  unfold v_51_0 at h
  refine zn_c [.int 0] (xo_push (.int 0)) rfl rfl ?_
  refine zn_st [.ref 39, .ref 40, .int a2, .int 0, .null, .null, .null] rfl rfl rfl ?_
  exact ml_51_2_39 hd  h
theorem zq_51_39 {d : Nat} {a2 : Int32} {s : zS} {Q : Option Value → zS → Prop} (h : v_51_0 (fun j => Zt (d + 8) (wd 39 j) j) 39 a2 s Q) : Zt (d + 9) ([] : zW) 51 [.ref 39, .ref 40, .int a2] s Q := zt_of (E := xE_51) (L := xL_4) (ml := 4) (ret := some .int) rfl rfl rfl (m_51_0_39 rfl h)
theorem zc_51 {d P : Nat} (hP : P = 3 ∨ P = 39) {a2 : Int32} {s : zS} {Q : Option Value → zS → Prop} (h : v_51_0 (fun j => Zt (d + 8) (wd P j) j) P a2 s Q) : Zt (d + 9) (wd P 51) 51 [.ref P, .ref (P + 1), .int a2] s Q := by
  rcases hP with rfl | rfl
  · exact zq_51_3 h
  · exact zq_51_39 h
/-! FeatherBench$Program.sigOf -/
def v_52_31 (T : Nat → List Value → zS → (Option Value → zS → Prop) → Prop) (P : Nat) (R31 : Int32 → Int32 → Int32 → Int32 → zS → Prop) (a1 : Int32) (a2 : Int32) (a3 : Int32) (a4 : Int32) (s : zS) (Q : Option Value → zS → Prop) : Prop :=
  ((zg s (P + 24) (a1 * 6 + 4)).toInt ≤ a4.toInt → Q (some (.int (-1))) s) ∧ (¬ ((zg s (P + 24) (a1 * 6 + 4)).toInt ≤ a4.toInt) → ∀ x2 : Int32, (-2147483648 ≤ a3.toInt + a4.toInt ∧ a3.toInt + a4.toInt ≤ 2147483647 → x2.toInt = a3.toInt + a4.toInt) → (¬ ((zg s (P + 28) (x2 * 5 + 1)).toInt = a2.toInt) → ∀ x4 : Int32, (-2147483648 ≤ a4.toInt + 1 ∧ a4.toInt + 1 ≤ 2147483647 → x4.toInt = a4.toInt + 1) → R31 a1 a2 a3 x4 s) ∧ ((zg s (P + 28) (x2 * 5 + 1)).toInt = a2.toInt → ∀ x5 : Int32, (-2147483648 ≤ a3.toInt + a4.toInt ∧ a3.toInt + a4.toInt ≤ 2147483647 → x5.toInt = a3.toInt + a4.toInt) → Q (some (.int x5)) s))
def vl_52_31 (T : Nat → List Value → zS → (Option Value → zS → Prop) → Prop) (P : Nat)  (a1 : Int32) (a2 : Int32) (a3 : Int32) (a4 : Int32) (s : zS) (Q : Option Value → zS → Prop) : Prop :=
  ∃ (I : Int32 → Int32 → Int32 → Int32 → zS → Prop) (μ : Int32 → Int32 → Int32 → Int32 → zS → Nat), I a1 a2 a3 a4 s ∧ ∀ (a1 : Int32) (a2 : Int32) (a3 : Int32) (a4 : Int32) (s : zS), I a1 a2 a3 a4 s → v_52_31 T P (fun a1' a2' a3' a4' s' => I a1' a2' a3' a4' s' ∧ μ a1' a2' a3' a4' s' < μ a1 a2 a3 a4 s) a1 a2 a3 a4 s Q
def v_52_17 (T : Nat → List Value → zS → (Option Value → zS → Prop) → Prop) (P : Nat)  (a1 : Int32) (a2 : Int32) (a3 : Int32) (t0 : Int32) (s : zS) (Q : Option Value → zS → Prop) : Prop :=
  Q (some (.int t0)) s
def v_52_0 (T : Nat → List Value → zS → (Option Value → zS → Prop) → Prop) (P : Nat)  (a1 : Int32) (a2 : Int32) (s : zS) (Q : Option Value → zS → Prop) : Prop :=
  ((zStr s P a1).toInt = 0 → (¬ ((zInf s P a1).toInt = 0) → vl_52_31 T P  a1 a2 (zg s (P + 24) (a1 * 6 + 3)) 0 s Q) ∧ ((zInf s P a1).toInt = 0 → Q (some (.int (-1))) s)) ∧ (¬ ((zStr s P a1).toInt = 0) → T 53 [.ref P, .int a1, .int a2] s (fun v2 s3 => ∃ x4, v2 = some (.int x4) ∧ ((0 ≤ x4.toInt → v_52_17 T P  a1 a2 x4 (zg s3 (P + 26) (x4 * 10 + 5)) s3 Q) ∧ (¬ (0 ≤ x4.toInt) → v_52_17 T P  a1 a2 x4 (-1) s3 Q))))
set_option maxRecDepth 20000 in
theorem m_52_31_3 {d d0 : Nat} (hd : d = d0 + 8) {R31 : Int32 → Int32 → Int32 → Int32 → zS → Prop} {a1 : Int32} {a2 : Int32} {a3 : Int32} {a4 : Int32} {s : zS} {Q : Option Value → zS → Prop} (r31 : ∀ a1 a2 a3 a4 s, R31 a1 a2 a3 a4 s → Zn d [] [] ([] : zW) ([] : zW) xL_4 5 (some .int) xE_52 (xE_52.drop 31) [.ref 3, .int a1, .int a2, .int a3, .int a4, .null, .null, .null] [] s Q) (h : v_52_31 (fun j => Zt d (wd 3 j) j) 3 R31 a1 a2 a3 a4 s Q) : Zn d [] [] ([] : zW) ([] : zW) xL_4 5 (some .int) xE_52 (xE_52.drop 31) [.ref 3, .int a1, .int a2, .int a3, .int a4, .null, .null, .null] [] s Q := by
  unfold v_52_31 at h
  refine zn_ld rfl rfl rfl ?_
  refine zn_ld rfl rfl rfl ?_
  refine zn_ld rfl rfl rfl ?_
  refine zn_c [.int 4, .int a1, .ref 3, .int a4] (xo_push (.int 4)) rfl rfl ?_
  refine zn_zt [.ref 3, .int a1, .int 4] [.int a4] (c := []) rfl rfl rfl rfl rfl (Zt.imp (zp_39 hd (Or.inl rfl)) (fun vq sq hq => ?_))
  obtain ⟨rfl, hq⟩ := hq
  rw [hq]
  change Zn _ _ _ _ _ _ _ _ _ _ _ [.int (zg s 27 (a1 * 6 + 4)), .int a4] _ _
  refine zn_brP rfl rfl ⟨fun hcn => ?_, fun hcn => ?_⟩
  · replace h := h.1 ((i_le (x := zg s 27 (a1 * 6 + 4)) (y := a4) rfl rfl).mp hcn)
    refine zn_c [.int (-1)] (xo_push (.int (-1))) rfl rfl ?_
    exact zn_retI rfl h
  · replace h := h.2 (fun q => hcn ((i_le (x := zg s 27 (a1 * 6 + 4)) (y := a4) rfl rfl).mpr q))
    refine zn_ld rfl rfl rfl ?_
    refine zn_ld rfl rfl rfl ?_
    refine zn_ld rfl rfl rfl ?_
    replace h := h _ (i_add (x := a3) (y := a4) rfl rfl)
    refine zn_c [.int (a3 + a4), .ref 3] xo_iadd rfl rfl ?_
    refine zn_c [.int 1, .int (a3 + a4), .ref 3] (xo_push (.int 1)) rfl rfl ?_
    refine zn_zt [.ref 3, .int (a3 + a4), .int 1] [] (c := []) rfl rfl rfl rfl rfl (Zt.imp (zp_41 hd (Or.inl rfl)) (fun vq sq hq => ?_))
    obtain ⟨rfl, hq⟩ := hq
    rw [hq]
    change Zn _ _ _ _ _ _ _ _ _ _ _ [.int (zg s 31 ((a3 + a4) * 5 + 1))] _ _
    refine zn_ld rfl rfl rfl ?_
    refine zn_brN rfl rfl ⟨fun hcn => ?_, fun hcn => ?_⟩
    · replace h := h.1 (fun q => hcn ((i_eq (x := zg s 31 ((a3 + a4) * 5 + 1)) (y := a2) rfl rfl).mpr q))
      replace h := h _ (i_add (x := a4) (y := 1) rfl (show (1 : Int32).toInt = 1 by decide))
      refine zn_inc [.ref 3, .int a1, .int a2, .int a3, .int (a4 + 1), .null, .null, .null] rfl rfl rfl rfl ?_
      refine zn_go rfl ?_
      exact r31 a1 a2 a3 (a4 + 1) s h
    · replace h := h.2 ((i_eq (x := zg s 31 ((a3 + a4) * 5 + 1)) (y := a2) rfl rfl).mp hcn)
      refine zn_ld rfl rfl rfl ?_
      refine zn_ld rfl rfl rfl ?_
      replace h := h _ (i_add (x := a3) (y := a4) rfl rfl)
      refine zn_c [.int (a3 + a4)] xo_iadd rfl rfl ?_
      exact zn_retI rfl h
theorem ml_52_31_3 {d d0 : Nat} (hd : d = d0 + 8)  {a1 : Int32} {a2 : Int32} {a3 : Int32} {a4 : Int32} {s : zS} {Q : Option Value → zS → Prop}  (h : vl_52_31 (fun j => Zt d (wd 3 j) j) 3  a1 a2 a3 a4 s Q) : Zn d [] [] ([] : zW) ([] : zW) xL_4 5 (some .int) xE_52 (xE_52.drop 31) [.ref 3, .int a1, .int a2, .int a3, .int a4, .null, .null, .null] [] s Q := by
  obtain ⟨I, μ, h0, h1⟩ := h
  have key : ∀ (n : Nat) (a1 : Int32) (a2 : Int32) (a3 : Int32) (a4 : Int32) (s : zS), μ a1 a2 a3 a4 s = n → I a1 a2 a3 a4 s → Zn d [] [] ([] : zW) ([] : zW) xL_4 5 (some .int) xE_52 (xE_52.drop 31) [.ref 3, .int a1, .int a2, .int a3, .int a4, .null, .null, .null] [] s Q := by
    intro n
    induction n using Nat.strongRecOn with
    | ind n ih =>
      intro a1 a2 a3 a4 s e hI
      exact m_52_31_3 hd (fun a1' a2' a3' a4' s' q => ih _ (by rw [← e]; exact q.2) a1' a2' a3' a4' s' rfl q.1) (h1 a1 a2 a3 a4 s hI)
  exact key _ a1 a2 a3 a4 s rfl h0
set_option maxRecDepth 20000 in
theorem m_52_17_3 {d d0 : Nat} (hd : d = d0 + 8)  {a1 : Int32} {a2 : Int32} {a3 : Int32} {t0 : Int32} {s : zS} {Q : Option Value → zS → Prop}  (h : v_52_17 (fun j => Zt d (wd 3 j) j) 3  a1 a2 a3 t0 s Q) : Zn d [] [] ([] : zW) ([] : zW) xL_4 5 (some .int) xE_52 (xE_52.drop 17) [.ref 3, .int a1, .int a2, .int a3, .null, .null, .null, .null] [.int t0] s Q := by
  unfold v_52_17 at h
  exact zn_retI rfl h
set_option maxRecDepth 20000 in
theorem m_52_0_3 {d d0 : Nat} (hd : d = d0 + 8)  {a1 : Int32} {a2 : Int32} {s : zS} {Q : Option Value → zS → Prop}  (h : v_52_0 (fun j => Zt d (wd 3 j) j) 3  a1 a2 s Q) : Zn d [] [] ([] : zW) ([] : zW) xL_4 5 (some .int) xE_52 (xE_52.drop 0) [.ref 3, .int a1, .int a2, .null, .null, .null, .null, .null] [] s Q := by
  unfold v_52_0 at h
  refine zn_ld rfl rfl rfl ?_
  refine zn_ld rfl rfl rfl ?_
  refine zn_zt [.ref 3, .int a1] [] (c := []) rfl rfl rfl rfl rfl (Zt.imp (zp_49 hd (Or.inl rfl)) (fun vq sq hq => ?_))
  obtain ⟨rfl, hq⟩ := hq
  rw [hq]
  change Zn _ _ _ _ _ _ _ _ _ _ _ [.int (zStr s 3 a1)] _ _
  refine zn_brP rfl rfl ⟨fun hcn => ?_, fun hcn => ?_⟩
  · replace h := h.1 ((i_eq (x := zStr s 3 a1) (y := 0) rfl (show (0 : Int32).toInt = 0 by decide)).mp hcn)
    refine zn_ld rfl rfl rfl ?_
    refine zn_ld rfl rfl rfl ?_
    refine zn_zt [.ref 3, .int a1] [] (c := []) rfl rfl rfl rfl rfl (Zt.imp (zp_50 hd (Or.inl rfl)) (fun vq sq hq => ?_))
    obtain ⟨rfl, hq⟩ := hq
    rw [hq]
    change Zn _ _ _ _ _ _ _ _ _ _ _ [.int (zInf s 3 a1)] _ _
    refine zn_brN rfl rfl ⟨fun hcn => ?_, fun hcn => ?_⟩
    · replace h := h.1 (fun q => hcn ((i_eq (x := zInf s 3 a1) (y := 0) rfl (show (0 : Int32).toInt = 0 by decide)).mpr q))
      refine zn_ld rfl rfl rfl ?_
      refine zn_ld rfl rfl rfl ?_
      refine zn_c [.int 3, .int a1, .ref 3] (xo_push (.int 3)) rfl rfl ?_
      refine zn_zt [.ref 3, .int a1, .int 3] [] (c := []) rfl rfl rfl rfl rfl (Zt.imp (zp_39 hd (Or.inl rfl)) (fun vq sq hq => ?_))
      obtain ⟨rfl, hq⟩ := hq
      rw [hq]
      change Zn _ _ _ _ _ _ _ _ _ _ _ [.int (zg s 27 (a1 * 6 + 3))] _ _
      refine zn_st [.ref 3, .int a1, .int a2, .int (zg s 27 (a1 * 6 + 3)), .null, .null, .null, .null] rfl rfl rfl ?_
      refine zn_c [.int 0] (xo_push (.int 0)) rfl rfl ?_
      refine zn_st [.ref 3, .int a1, .int a2, .int (zg s 27 (a1 * 6 + 3)), .int 0, .null, .null, .null] rfl rfl rfl ?_
      exact ml_52_31_3 hd  h
    · replace h := h.2 ((i_eq (x := zInf s 3 a1) (y := 0) rfl (show (0 : Int32).toInt = 0 by decide)).mp hcn)
      refine zn_c [.int (-1)] (xo_push (.int (-1))) rfl rfl ?_
      exact zn_retI rfl h
  · replace h := h.2 (fun q => hcn ((i_eq (x := zStr s 3 a1) (y := 0) rfl (show (0 : Int32).toInt = 0 by decide)).mpr q))
    refine zn_ld rfl rfl rfl ?_
    refine zn_ld rfl rfl rfl ?_
    refine zn_ld rfl rfl rfl ?_
    refine zn_zt [.ref 3, .int a1, .int a2] [] rfl rfl rfl rfl rfl (Zt.imp h (fun v2 s3 h => ?_))
    obtain ⟨x4, rfl, h⟩ := h
    change Zn _ _ _ _ _ _ _ _ _ _ _ [.int x4] _ _
    refine zn_st [.ref 3, .int a1, .int a2, .int x4, .null, .null, .null, .null] rfl rfl rfl ?_
    refine zn_ld rfl rfl rfl ?_
    refine zn_brP rfl rfl ⟨fun hcn => ?_, fun hcn => ?_⟩
    · replace h := h.1 ((i_le (x := 0) (y := x4) (show (0 : Int32).toInt = 0 by decide) rfl).mp hcn)
      refine zn_ld rfl rfl rfl ?_
      refine zn_ld rfl rfl rfl ?_
      refine zn_c [.int 5, .int x4, .ref 3] (xo_push (.int 5)) rfl rfl ?_
      refine zn_zt [.ref 3, .int x4, .int 5] [] (c := []) rfl rfl rfl rfl rfl (Zt.imp (zp_40 hd (Or.inl rfl)) (fun vq sq hq => ?_))
      obtain ⟨rfl, hq⟩ := hq
      rw [hq]
      change Zn _ _ _ _ _ _ _ _ _ _ _ [.int (zg s3 29 (x4 * 10 + 5))] _ _
      exact m_52_17_3 hd  h
    · replace h := h.2 (fun q => hcn ((i_le (x := 0) (y := x4) (show (0 : Int32).toInt = 0 by decide) rfl).mpr q))
      refine zn_c [.int (-1)] (xo_push (.int (-1))) rfl rfl ?_
      refine zn_go rfl ?_
      exact m_52_17_3 hd  h
theorem zq_52_3 {d : Nat} {a1 : Int32} {a2 : Int32} {s : zS} {Q : Option Value → zS → Prop} (h : v_52_0 (fun j => Zt (d + 8) (wd 3 j) j) 3 a1 a2 s Q) : Zt (d + 9) ([] : zW) 52 [.ref 3, .int a1, .int a2] s Q := zt_of (E := xE_52) (L := xL_4) (ml := 5) (ret := some .int) rfl rfl rfl (m_52_0_3 rfl h)
set_option maxRecDepth 20000 in
theorem m_52_31_39 {d d0 : Nat} (hd : d = d0 + 8) {R31 : Int32 → Int32 → Int32 → Int32 → zS → Prop} {a1 : Int32} {a2 : Int32} {a3 : Int32} {a4 : Int32} {s : zS} {Q : Option Value → zS → Prop} (r31 : ∀ a1 a2 a3 a4 s, R31 a1 a2 a3 a4 s → Zn d [] [] ([] : zW) ([] : zW) xL_4 5 (some .int) xE_52 (xE_52.drop 31) [.ref 39, .int a1, .int a2, .int a3, .int a4, .null, .null, .null] [] s Q) (h : v_52_31 (fun j => Zt d (wd 39 j) j) 39 R31 a1 a2 a3 a4 s Q) : Zn d [] [] ([] : zW) ([] : zW) xL_4 5 (some .int) xE_52 (xE_52.drop 31) [.ref 39, .int a1, .int a2, .int a3, .int a4, .null, .null, .null] [] s Q := by
  unfold v_52_31 at h
  refine zn_ld rfl rfl rfl ?_
  refine zn_ld rfl rfl rfl ?_
  refine zn_ld rfl rfl rfl ?_
  refine zn_c [.int 4, .int a1, .ref 39, .int a4] (xo_push (.int 4)) rfl rfl ?_
  refine zn_zt [.ref 39, .int a1, .int 4] [.int a4] (c := []) rfl rfl rfl rfl rfl (Zt.imp (zp_39 hd (Or.inr rfl)) (fun vq sq hq => ?_))
  obtain ⟨rfl, hq⟩ := hq
  rw [hq]
  change Zn _ _ _ _ _ _ _ _ _ _ _ [.int (zg s 63 (a1 * 6 + 4)), .int a4] _ _
  refine zn_brP rfl rfl ⟨fun hcn => ?_, fun hcn => ?_⟩
  · replace h := h.1 ((i_le (x := zg s 63 (a1 * 6 + 4)) (y := a4) rfl rfl).mp hcn)
    refine zn_c [.int (-1)] (xo_push (.int (-1))) rfl rfl ?_
    exact zn_retI rfl h
  · replace h := h.2 (fun q => hcn ((i_le (x := zg s 63 (a1 * 6 + 4)) (y := a4) rfl rfl).mpr q))
    refine zn_ld rfl rfl rfl ?_
    refine zn_ld rfl rfl rfl ?_
    refine zn_ld rfl rfl rfl ?_
    replace h := h _ (i_add (x := a3) (y := a4) rfl rfl)
    refine zn_c [.int (a3 + a4), .ref 39] xo_iadd rfl rfl ?_
    refine zn_c [.int 1, .int (a3 + a4), .ref 39] (xo_push (.int 1)) rfl rfl ?_
    refine zn_zt [.ref 39, .int (a3 + a4), .int 1] [] (c := []) rfl rfl rfl rfl rfl (Zt.imp (zp_41 hd (Or.inr rfl)) (fun vq sq hq => ?_))
    obtain ⟨rfl, hq⟩ := hq
    rw [hq]
    change Zn _ _ _ _ _ _ _ _ _ _ _ [.int (zg s 67 ((a3 + a4) * 5 + 1))] _ _
    refine zn_ld rfl rfl rfl ?_
    refine zn_brN rfl rfl ⟨fun hcn => ?_, fun hcn => ?_⟩
    · replace h := h.1 (fun q => hcn ((i_eq (x := zg s 67 ((a3 + a4) * 5 + 1)) (y := a2) rfl rfl).mpr q))
      replace h := h _ (i_add (x := a4) (y := 1) rfl (show (1 : Int32).toInt = 1 by decide))
      refine zn_inc [.ref 39, .int a1, .int a2, .int a3, .int (a4 + 1), .null, .null, .null] rfl rfl rfl rfl ?_
      refine zn_go rfl ?_
      exact r31 a1 a2 a3 (a4 + 1) s h
    · replace h := h.2 ((i_eq (x := zg s 67 ((a3 + a4) * 5 + 1)) (y := a2) rfl rfl).mp hcn)
      refine zn_ld rfl rfl rfl ?_
      refine zn_ld rfl rfl rfl ?_
      replace h := h _ (i_add (x := a3) (y := a4) rfl rfl)
      refine zn_c [.int (a3 + a4)] xo_iadd rfl rfl ?_
      exact zn_retI rfl h
theorem ml_52_31_39 {d d0 : Nat} (hd : d = d0 + 8)  {a1 : Int32} {a2 : Int32} {a3 : Int32} {a4 : Int32} {s : zS} {Q : Option Value → zS → Prop}  (h : vl_52_31 (fun j => Zt d (wd 39 j) j) 39  a1 a2 a3 a4 s Q) : Zn d [] [] ([] : zW) ([] : zW) xL_4 5 (some .int) xE_52 (xE_52.drop 31) [.ref 39, .int a1, .int a2, .int a3, .int a4, .null, .null, .null] [] s Q := by
  obtain ⟨I, μ, h0, h1⟩ := h
  have key : ∀ (n : Nat) (a1 : Int32) (a2 : Int32) (a3 : Int32) (a4 : Int32) (s : zS), μ a1 a2 a3 a4 s = n → I a1 a2 a3 a4 s → Zn d [] [] ([] : zW) ([] : zW) xL_4 5 (some .int) xE_52 (xE_52.drop 31) [.ref 39, .int a1, .int a2, .int a3, .int a4, .null, .null, .null] [] s Q := by
    intro n
    induction n using Nat.strongRecOn with
    | ind n ih =>
      intro a1 a2 a3 a4 s e hI
      exact m_52_31_39 hd (fun a1' a2' a3' a4' s' q => ih _ (by rw [← e]; exact q.2) a1' a2' a3' a4' s' rfl q.1) (h1 a1 a2 a3 a4 s hI)
  exact key _ a1 a2 a3 a4 s rfl h0
set_option maxRecDepth 20000 in
theorem m_52_17_39 {d d0 : Nat} (hd : d = d0 + 8)  {a1 : Int32} {a2 : Int32} {a3 : Int32} {t0 : Int32} {s : zS} {Q : Option Value → zS → Prop}  (h : v_52_17 (fun j => Zt d (wd 39 j) j) 39  a1 a2 a3 t0 s Q) : Zn d [] [] ([] : zW) ([] : zW) xL_4 5 (some .int) xE_52 (xE_52.drop 17) [.ref 39, .int a1, .int a2, .int a3, .null, .null, .null, .null] [.int t0] s Q := by
  unfold v_52_17 at h
  exact zn_retI rfl h
set_option maxRecDepth 20000 in
theorem m_52_0_39 {d d0 : Nat} (hd : d = d0 + 8)  {a1 : Int32} {a2 : Int32} {s : zS} {Q : Option Value → zS → Prop}  (h : v_52_0 (fun j => Zt d (wd 39 j) j) 39  a1 a2 s Q) : Zn d [] [] ([] : zW) ([] : zW) xL_4 5 (some .int) xE_52 (xE_52.drop 0) [.ref 39, .int a1, .int a2, .null, .null, .null, .null, .null] [] s Q := by
  unfold v_52_0 at h
  refine zn_ld rfl rfl rfl ?_
  refine zn_ld rfl rfl rfl ?_
  refine zn_zt [.ref 39, .int a1] [] (c := []) rfl rfl rfl rfl rfl (Zt.imp (zp_49 hd (Or.inr rfl)) (fun vq sq hq => ?_))
  obtain ⟨rfl, hq⟩ := hq
  rw [hq]
  change Zn _ _ _ _ _ _ _ _ _ _ _ [.int (zStr s 39 a1)] _ _
  refine zn_brP rfl rfl ⟨fun hcn => ?_, fun hcn => ?_⟩
  · replace h := h.1 ((i_eq (x := zStr s 39 a1) (y := 0) rfl (show (0 : Int32).toInt = 0 by decide)).mp hcn)
    refine zn_ld rfl rfl rfl ?_
    refine zn_ld rfl rfl rfl ?_
    refine zn_zt [.ref 39, .int a1] [] (c := []) rfl rfl rfl rfl rfl (Zt.imp (zp_50 hd (Or.inr rfl)) (fun vq sq hq => ?_))
    obtain ⟨rfl, hq⟩ := hq
    rw [hq]
    change Zn _ _ _ _ _ _ _ _ _ _ _ [.int (zInf s 39 a1)] _ _
    refine zn_brN rfl rfl ⟨fun hcn => ?_, fun hcn => ?_⟩
    · replace h := h.1 (fun q => hcn ((i_eq (x := zInf s 39 a1) (y := 0) rfl (show (0 : Int32).toInt = 0 by decide)).mpr q))
      refine zn_ld rfl rfl rfl ?_
      refine zn_ld rfl rfl rfl ?_
      refine zn_c [.int 3, .int a1, .ref 39] (xo_push (.int 3)) rfl rfl ?_
      refine zn_zt [.ref 39, .int a1, .int 3] [] (c := []) rfl rfl rfl rfl rfl (Zt.imp (zp_39 hd (Or.inr rfl)) (fun vq sq hq => ?_))
      obtain ⟨rfl, hq⟩ := hq
      rw [hq]
      change Zn _ _ _ _ _ _ _ _ _ _ _ [.int (zg s 63 (a1 * 6 + 3))] _ _
      refine zn_st [.ref 39, .int a1, .int a2, .int (zg s 63 (a1 * 6 + 3)), .null, .null, .null, .null] rfl rfl rfl ?_
      refine zn_c [.int 0] (xo_push (.int 0)) rfl rfl ?_
      refine zn_st [.ref 39, .int a1, .int a2, .int (zg s 63 (a1 * 6 + 3)), .int 0, .null, .null, .null] rfl rfl rfl ?_
      exact ml_52_31_39 hd  h
    · replace h := h.2 ((i_eq (x := zInf s 39 a1) (y := 0) rfl (show (0 : Int32).toInt = 0 by decide)).mp hcn)
      refine zn_c [.int (-1)] (xo_push (.int (-1))) rfl rfl ?_
      exact zn_retI rfl h
  · replace h := h.2 (fun q => hcn ((i_eq (x := zStr s 39 a1) (y := 0) rfl (show (0 : Int32).toInt = 0 by decide)).mpr q))
    refine zn_ld rfl rfl rfl ?_
    refine zn_ld rfl rfl rfl ?_
    refine zn_ld rfl rfl rfl ?_
    refine zn_zt [.ref 39, .int a1, .int a2] [] rfl rfl rfl rfl rfl (Zt.imp h (fun v2 s3 h => ?_))
    obtain ⟨x4, rfl, h⟩ := h
    change Zn _ _ _ _ _ _ _ _ _ _ _ [.int x4] _ _
    refine zn_st [.ref 39, .int a1, .int a2, .int x4, .null, .null, .null, .null] rfl rfl rfl ?_
    refine zn_ld rfl rfl rfl ?_
    refine zn_brP rfl rfl ⟨fun hcn => ?_, fun hcn => ?_⟩
    · replace h := h.1 ((i_le (x := 0) (y := x4) (show (0 : Int32).toInt = 0 by decide) rfl).mp hcn)
      refine zn_ld rfl rfl rfl ?_
      refine zn_ld rfl rfl rfl ?_
      refine zn_c [.int 5, .int x4, .ref 39] (xo_push (.int 5)) rfl rfl ?_
      refine zn_zt [.ref 39, .int x4, .int 5] [] (c := []) rfl rfl rfl rfl rfl (Zt.imp (zp_40 hd (Or.inr rfl)) (fun vq sq hq => ?_))
      obtain ⟨rfl, hq⟩ := hq
      rw [hq]
      change Zn _ _ _ _ _ _ _ _ _ _ _ [.int (zg s3 65 (x4 * 10 + 5))] _ _
      exact m_52_17_39 hd  h
    · replace h := h.2 (fun q => hcn ((i_le (x := 0) (y := x4) (show (0 : Int32).toInt = 0 by decide) rfl).mpr q))
      refine zn_c [.int (-1)] (xo_push (.int (-1))) rfl rfl ?_
      refine zn_go rfl ?_
      exact m_52_17_39 hd  h
theorem zq_52_39 {d : Nat} {a1 : Int32} {a2 : Int32} {s : zS} {Q : Option Value → zS → Prop} (h : v_52_0 (fun j => Zt (d + 8) (wd 39 j) j) 39 a1 a2 s Q) : Zt (d + 9) ([] : zW) 52 [.ref 39, .int a1, .int a2] s Q := zt_of (E := xE_52) (L := xL_4) (ml := 5) (ret := some .int) rfl rfl rfl (m_52_0_39 rfl h)
theorem zc_52 {d P : Nat} (hP : P = 3 ∨ P = 39) {a1 : Int32} {a2 : Int32} {s : zS} {Q : Option Value → zS → Prop} (h : v_52_0 (fun j => Zt (d + 8) (wd P j) j) P a1 a2 s Q) : Zt (d + 9) (wd P 52) 52 [.ref P, .int a1, .int a2] s Q := by
  rcases hP with rfl | rfl
  · exact zq_52_3 h
  · exact zq_52_39 h
/-! FeatherBench$Program.funcOf -/
def v_53_39 (T : Nat → List Value → zS → (Option Value → zS → Prop) → Prop) (P : Nat)  (a1 : Int32) (a2 : Int32) (a3 : Int32) (a4 : Int32) (s : zS) (Q : Option Value → zS → Prop) : Prop :=
  Q (some (.int (-1))) s
def v_53_11 (T : Nat → List Value → zS → (Option Value → zS → Prop) → Prop) (P : Nat) (R11 : Int32 → Int32 → Int32 → Int32 → zS → Prop) (a1 : Int32) (a2 : Int32) (a3 : Int32) (a4 : Int32) (s : zS) (Q : Option Value → zS → Prop) : Prop :=
  (60 ≤ a4.toInt → v_53_39 T P  a1 a2 a3 a4 s Q) ∧ (¬ (60 ≤ a4.toInt) → (a3.toInt < 0 → v_53_39 T P  a1 a2 a3 a4 s Q) ∧ (¬ (a3.toInt < 0) → ∀ x1 : Int32, (-2147483648 ≤ a3.toInt * 10 ∧ a3.toInt * 10 ≤ 2147483647 → x1.toInt = a3.toInt * 10) → ∀ x2 : Int32, (-2147483648 ≤ x1.toInt + 6 ∧ x1.toInt + 6 ≤ 2147483647 → x2.toInt = x1.toInt + 6) → (¬ ((zg s (P + 26) x2).toInt = a2.toInt) → ∀ x3 : Int32, (-2147483648 ≤ a3.toInt * 10 ∧ a3.toInt * 10 ≤ 2147483647 → x3.toInt = a3.toInt * 10) → ∀ x4 : Int32, (-2147483648 ≤ x3.toInt + 9 ∧ x3.toInt + 9 ≤ 2147483647 → x4.toInt = x3.toInt + 9) → ∀ x5 : Int32, (-2147483648 ≤ a4.toInt + 1 ∧ a4.toInt + 1 ≤ 2147483647 → x5.toInt = a4.toInt + 1) → R11 a1 a2 (zg s (P + 26) x4) x5 s) ∧ ((zg s (P + 26) x2).toInt = a2.toInt → Q (some (.int a3)) s)))
def vl_53_11 (T : Nat → List Value → zS → (Option Value → zS → Prop) → Prop) (P : Nat)  (a1 : Int32) (a2 : Int32) (a3 : Int32) (a4 : Int32) (s : zS) (Q : Option Value → zS → Prop) : Prop :=
  ∃ (I : Int32 → Int32 → Int32 → Int32 → zS → Prop) (μ : Int32 → Int32 → Int32 → Int32 → zS → Nat), I a1 a2 a3 a4 s ∧ ∀ (a1 : Int32) (a2 : Int32) (a3 : Int32) (a4 : Int32) (s : zS), I a1 a2 a3 a4 s → v_53_11 T P (fun a1' a2' a3' a4' s' => I a1' a2' a3' a4' s' ∧ μ a1' a2' a3' a4' s' < μ a1 a2 a3 a4 s) a1 a2 a3 a4 s Q
def v_53_0 (T : Nat → List Value → zS → (Option Value → zS → Prop) → Prop) (P : Nat)  (a1 : Int32) (a2 : Int32) (s : zS) (Q : Option Value → zS → Prop) : Prop :=
  ∀ x1 : Int32, (-2147483648 ≤ a1.toInt * 6 ∧ a1.toInt * 6 ≤ 2147483647 → x1.toInt = a1.toInt * 6) → ∀ x2 : Int32, (-2147483648 ≤ x1.toInt + 5 ∧ x1.toInt + 5 ≤ 2147483647 → x2.toInt = x1.toInt + 5) → vl_53_11 T P  a1 a2 (zg s (P + 24) x2) 0 s Q
set_option maxRecDepth 20000 in
theorem m_53_39_3 {d d0 : Nat} (hd : d = d0 + 8)  {a1 : Int32} {a2 : Int32} {a3 : Int32} {a4 : Int32} {s : zS} {Q : Option Value → zS → Prop}  (h : v_53_39 (fun j => Zt d (wd 3 j) j) 3  a1 a2 a3 a4 s Q) : Zn d [] [] ([] : zW) ([] : zW) xL_4 5 (some .int) xE_53 (xE_53.drop 39) [.ref 3, .int a1, .int a2, .int a3, .int a4, .null, .null, .null] [] s Q := by
  unfold v_53_39 at h
  refine zn_c [.int (-1)] (xo_push (.int (-1))) rfl rfl ?_
  exact zn_retI rfl h
set_option maxRecDepth 20000 in
theorem m_53_11_3 {d d0 : Nat} (hd : d = d0 + 8) {R11 : Int32 → Int32 → Int32 → Int32 → zS → Prop} {a1 : Int32} {a2 : Int32} {a3 : Int32} {a4 : Int32} {s : zS} {Q : Option Value → zS → Prop} (r11 : ∀ a1 a2 a3 a4 s, R11 a1 a2 a3 a4 s → Zn d [] [] ([] : zW) ([] : zW) xL_4 5 (some .int) xE_53 (xE_53.drop 11) [.ref 3, .int a1, .int a2, .int a3, .int a4, .null, .null, .null] [] s Q) (h : v_53_11 (fun j => Zt d (wd 3 j) j) 3 R11 a1 a2 a3 a4 s Q) : Zn d [] [] ([] : zW) ([] : zW) xL_4 5 (some .int) xE_53 (xE_53.drop 11) [.ref 3, .int a1, .int a2, .int a3, .int a4, .null, .null, .null] [] s Q := by
  unfold v_53_11 at h
  refine zn_ld rfl rfl rfl ?_
  refine zn_c [.int 60, .int a4] (xo_push (.int 60)) rfl rfl ?_
  refine zn_brP rfl rfl ⟨fun hcn => ?_, fun hcn => ?_⟩
  · replace h := h.1 ((i_le (x := 60) (y := a4) (show (60 : Int32).toInt = 60 by decide) rfl).mp hcn)
    exact m_53_39_3 hd  h
  · replace h := h.2 (fun q => hcn ((i_le (x := 60) (y := a4) (show (60 : Int32).toInt = 60 by decide) rfl).mpr q))
    refine zn_ld rfl rfl rfl ?_
    refine zn_brP rfl rfl ⟨fun hcn => ?_, fun hcn => ?_⟩
    · replace h := h.1 ((i_lt (x := a3) (y := 0) rfl (show (0 : Int32).toInt = 0 by decide)).mp hcn)
      exact m_53_39_3 hd  h
    · replace h := h.2 (fun q => hcn ((i_lt (x := a3) (y := 0) rfl (show (0 : Int32).toInt = 0 by decide)).mpr q))
      refine zn_ld rfl rfl rfl ?_
      refine zn_get (v := .ref 29) rfl (zv_R (a := 3) rfl rfl) ?_
      refine zn_ld rfl rfl rfl ?_
      refine zn_c [.int 10, .int a3, .ref 29] (xo_push (.int 10)) rfl rfl ?_
      replace h := h _ (i_mul (x := a3) (y := 10) rfl (show (10 : Int32).toInt = 10 by decide))
      refine zn_c [.int (a3 * 10), .ref 29] xo_imul rfl rfl ?_
      refine zn_c [.int 6, .int (a3 * 10), .ref 29] (xo_push (.int 6)) rfl rfl ?_
      replace h := h _ (i_add (x := (a3 * 10)) (y := 6) rfl (show (6 : Int32).toInt = 6 by decide))
      refine zn_c [.int ((a3 * 10) + 6), .ref 29] xo_iadd rfl rfl ?_
      refine zn_row ((a3 * 10) + 6) [] (a := 29) hd rfl rfl rfl rfl ?_
      change Zn _ _ _ _ _ _ _ _ _ _ _ [.int (zg s 29 ((a3 * 10) + 6))] _ _
      refine zn_ld rfl rfl rfl ?_
      refine zn_brN rfl rfl ⟨fun hcn => ?_, fun hcn => ?_⟩
      · replace h := h.1 (fun q => hcn ((i_eq (x := zg s 29 ((a3 * 10) + 6)) (y := a2) rfl rfl).mpr q))
        refine zn_ld rfl rfl rfl ?_
        refine zn_get (v := .ref 29) rfl (zv_R (a := 3) rfl rfl) ?_
        refine zn_ld rfl rfl rfl ?_
        refine zn_c [.int 10, .int a3, .ref 29] (xo_push (.int 10)) rfl rfl ?_
        replace h := h _ (i_mul (x := a3) (y := 10) rfl (show (10 : Int32).toInt = 10 by decide))
        refine zn_c [.int (a3 * 10), .ref 29] xo_imul rfl rfl ?_
        refine zn_c [.int 9, .int (a3 * 10), .ref 29] (xo_push (.int 9)) rfl rfl ?_
        replace h := h _ (i_add (x := (a3 * 10)) (y := 9) rfl (show (9 : Int32).toInt = 9 by decide))
        refine zn_c [.int ((a3 * 10) + 9), .ref 29] xo_iadd rfl rfl ?_
        refine zn_row ((a3 * 10) + 9) [] (a := 29) hd rfl rfl rfl rfl ?_
        change Zn _ _ _ _ _ _ _ _ _ _ _ [.int (zg s 29 ((a3 * 10) + 9))] _ _
        refine zn_st [.ref 3, .int a1, .int a2, .int (zg s 29 ((a3 * 10) + 9)), .int a4, .null, .null, .null] rfl rfl rfl ?_
        replace h := h _ (i_add (x := a4) (y := 1) rfl (show (1 : Int32).toInt = 1 by decide))
        refine zn_inc [.ref 3, .int a1, .int a2, .int (zg s 29 ((a3 * 10) + 9)), .int (a4 + 1), .null, .null, .null] rfl rfl rfl rfl ?_
        refine zn_go rfl ?_
        exact r11 a1 a2 (zg s 29 ((a3 * 10) + 9)) (a4 + 1) s h
      · replace h := h.2 ((i_eq (x := zg s 29 ((a3 * 10) + 6)) (y := a2) rfl rfl).mp hcn)
        refine zn_ld rfl rfl rfl ?_
        exact zn_retI rfl h
theorem ml_53_11_3 {d d0 : Nat} (hd : d = d0 + 8)  {a1 : Int32} {a2 : Int32} {a3 : Int32} {a4 : Int32} {s : zS} {Q : Option Value → zS → Prop}  (h : vl_53_11 (fun j => Zt d (wd 3 j) j) 3  a1 a2 a3 a4 s Q) : Zn d [] [] ([] : zW) ([] : zW) xL_4 5 (some .int) xE_53 (xE_53.drop 11) [.ref 3, .int a1, .int a2, .int a3, .int a4, .null, .null, .null] [] s Q := by
  obtain ⟨I, μ, h0, h1⟩ := h
  have key : ∀ (n : Nat) (a1 : Int32) (a2 : Int32) (a3 : Int32) (a4 : Int32) (s : zS), μ a1 a2 a3 a4 s = n → I a1 a2 a3 a4 s → Zn d [] [] ([] : zW) ([] : zW) xL_4 5 (some .int) xE_53 (xE_53.drop 11) [.ref 3, .int a1, .int a2, .int a3, .int a4, .null, .null, .null] [] s Q := by
    intro n
    induction n using Nat.strongRecOn with
    | ind n ih =>
      intro a1 a2 a3 a4 s e hI
      exact m_53_11_3 hd (fun a1' a2' a3' a4' s' q => ih _ (by rw [← e]; exact q.2) a1' a2' a3' a4' s' rfl q.1) (h1 a1 a2 a3 a4 s hI)
  exact key _ a1 a2 a3 a4 s rfl h0
set_option maxRecDepth 20000 in
theorem m_53_0_3 {d d0 : Nat} (hd : d = d0 + 8)  {a1 : Int32} {a2 : Int32} {s : zS} {Q : Option Value → zS → Prop}  (h : v_53_0 (fun j => Zt d (wd 3 j) j) 3  a1 a2 s Q) : Zn d [] [] ([] : zW) ([] : zW) xL_4 5 (some .int) xE_53 (xE_53.drop 0) [.ref 3, .int a1, .int a2, .null, .null, .null, .null, .null] [] s Q := by
  unfold v_53_0 at h
  refine zn_ld rfl rfl rfl ?_
  refine zn_get (v := .ref 27) rfl (zv_R (a := 3) rfl rfl) ?_
  refine zn_ld rfl rfl rfl ?_
  refine zn_c [.int 6, .int a1, .ref 27] (xo_push (.int 6)) rfl rfl ?_
  replace h := h _ (i_mul (x := a1) (y := 6) rfl (show (6 : Int32).toInt = 6 by decide))
  refine zn_c [.int (a1 * 6), .ref 27] xo_imul rfl rfl ?_
  refine zn_c [.int 5, .int (a1 * 6), .ref 27] (xo_push (.int 5)) rfl rfl ?_
  replace h := h _ (i_add (x := (a1 * 6)) (y := 5) rfl (show (5 : Int32).toInt = 5 by decide))
  refine zn_c [.int ((a1 * 6) + 5), .ref 27] xo_iadd rfl rfl ?_
  refine zn_row ((a1 * 6) + 5) [] (a := 27) hd rfl rfl rfl rfl ?_
  change Zn _ _ _ _ _ _ _ _ _ _ _ [.int (zg s 27 ((a1 * 6) + 5))] _ _
  refine zn_st [.ref 3, .int a1, .int a2, .int (zg s 27 ((a1 * 6) + 5)), .null, .null, .null, .null] rfl rfl rfl ?_
  refine zn_c [.int 0] (xo_push (.int 0)) rfl rfl ?_
  refine zn_st [.ref 3, .int a1, .int a2, .int (zg s 27 ((a1 * 6) + 5)), .int 0, .null, .null, .null] rfl rfl rfl ?_
  exact ml_53_11_3 hd  h
theorem zq_53_3 {d : Nat} {a1 : Int32} {a2 : Int32} {s : zS} {Q : Option Value → zS → Prop} (h : v_53_0 (fun j => Zt (d + 8) (wd 3 j) j) 3 a1 a2 s Q) : Zt (d + 9) ([] : zW) 53 [.ref 3, .int a1, .int a2] s Q := zt_of (E := xE_53) (L := xL_4) (ml := 5) (ret := some .int) rfl rfl rfl (m_53_0_3 rfl h)
set_option maxRecDepth 20000 in
theorem m_53_39_39 {d d0 : Nat} (hd : d = d0 + 8)  {a1 : Int32} {a2 : Int32} {a3 : Int32} {a4 : Int32} {s : zS} {Q : Option Value → zS → Prop}  (h : v_53_39 (fun j => Zt d (wd 39 j) j) 39  a1 a2 a3 a4 s Q) : Zn d [] [] ([] : zW) ([] : zW) xL_4 5 (some .int) xE_53 (xE_53.drop 39) [.ref 39, .int a1, .int a2, .int a3, .int a4, .null, .null, .null] [] s Q := by
  unfold v_53_39 at h
  refine zn_c [.int (-1)] (xo_push (.int (-1))) rfl rfl ?_
  exact zn_retI rfl h
set_option maxRecDepth 20000 in
theorem m_53_11_39 {d d0 : Nat} (hd : d = d0 + 8) {R11 : Int32 → Int32 → Int32 → Int32 → zS → Prop} {a1 : Int32} {a2 : Int32} {a3 : Int32} {a4 : Int32} {s : zS} {Q : Option Value → zS → Prop} (r11 : ∀ a1 a2 a3 a4 s, R11 a1 a2 a3 a4 s → Zn d [] [] ([] : zW) ([] : zW) xL_4 5 (some .int) xE_53 (xE_53.drop 11) [.ref 39, .int a1, .int a2, .int a3, .int a4, .null, .null, .null] [] s Q) (h : v_53_11 (fun j => Zt d (wd 39 j) j) 39 R11 a1 a2 a3 a4 s Q) : Zn d [] [] ([] : zW) ([] : zW) xL_4 5 (some .int) xE_53 (xE_53.drop 11) [.ref 39, .int a1, .int a2, .int a3, .int a4, .null, .null, .null] [] s Q := by
  unfold v_53_11 at h
  refine zn_ld rfl rfl rfl ?_
  refine zn_c [.int 60, .int a4] (xo_push (.int 60)) rfl rfl ?_
  refine zn_brP rfl rfl ⟨fun hcn => ?_, fun hcn => ?_⟩
  · replace h := h.1 ((i_le (x := 60) (y := a4) (show (60 : Int32).toInt = 60 by decide) rfl).mp hcn)
    exact m_53_39_39 hd  h
  · replace h := h.2 (fun q => hcn ((i_le (x := 60) (y := a4) (show (60 : Int32).toInt = 60 by decide) rfl).mpr q))
    refine zn_ld rfl rfl rfl ?_
    refine zn_brP rfl rfl ⟨fun hcn => ?_, fun hcn => ?_⟩
    · replace h := h.1 ((i_lt (x := a3) (y := 0) rfl (show (0 : Int32).toInt = 0 by decide)).mp hcn)
      exact m_53_39_39 hd  h
    · replace h := h.2 (fun q => hcn ((i_lt (x := a3) (y := 0) rfl (show (0 : Int32).toInt = 0 by decide)).mpr q))
      refine zn_ld rfl rfl rfl ?_
      refine zn_get (v := .ref 65) rfl (zv_R (a := 39) rfl rfl) ?_
      refine zn_ld rfl rfl rfl ?_
      refine zn_c [.int 10, .int a3, .ref 65] (xo_push (.int 10)) rfl rfl ?_
      replace h := h _ (i_mul (x := a3) (y := 10) rfl (show (10 : Int32).toInt = 10 by decide))
      refine zn_c [.int (a3 * 10), .ref 65] xo_imul rfl rfl ?_
      refine zn_c [.int 6, .int (a3 * 10), .ref 65] (xo_push (.int 6)) rfl rfl ?_
      replace h := h _ (i_add (x := (a3 * 10)) (y := 6) rfl (show (6 : Int32).toInt = 6 by decide))
      refine zn_c [.int ((a3 * 10) + 6), .ref 65] xo_iadd rfl rfl ?_
      refine zn_row ((a3 * 10) + 6) [] (a := 65) hd rfl rfl rfl rfl ?_
      change Zn _ _ _ _ _ _ _ _ _ _ _ [.int (zg s 65 ((a3 * 10) + 6))] _ _
      refine zn_ld rfl rfl rfl ?_
      refine zn_brN rfl rfl ⟨fun hcn => ?_, fun hcn => ?_⟩
      · replace h := h.1 (fun q => hcn ((i_eq (x := zg s 65 ((a3 * 10) + 6)) (y := a2) rfl rfl).mpr q))
        refine zn_ld rfl rfl rfl ?_
        refine zn_get (v := .ref 65) rfl (zv_R (a := 39) rfl rfl) ?_
        refine zn_ld rfl rfl rfl ?_
        refine zn_c [.int 10, .int a3, .ref 65] (xo_push (.int 10)) rfl rfl ?_
        replace h := h _ (i_mul (x := a3) (y := 10) rfl (show (10 : Int32).toInt = 10 by decide))
        refine zn_c [.int (a3 * 10), .ref 65] xo_imul rfl rfl ?_
        refine zn_c [.int 9, .int (a3 * 10), .ref 65] (xo_push (.int 9)) rfl rfl ?_
        replace h := h _ (i_add (x := (a3 * 10)) (y := 9) rfl (show (9 : Int32).toInt = 9 by decide))
        refine zn_c [.int ((a3 * 10) + 9), .ref 65] xo_iadd rfl rfl ?_
        refine zn_row ((a3 * 10) + 9) [] (a := 65) hd rfl rfl rfl rfl ?_
        change Zn _ _ _ _ _ _ _ _ _ _ _ [.int (zg s 65 ((a3 * 10) + 9))] _ _
        refine zn_st [.ref 39, .int a1, .int a2, .int (zg s 65 ((a3 * 10) + 9)), .int a4, .null, .null, .null] rfl rfl rfl ?_
        replace h := h _ (i_add (x := a4) (y := 1) rfl (show (1 : Int32).toInt = 1 by decide))
        refine zn_inc [.ref 39, .int a1, .int a2, .int (zg s 65 ((a3 * 10) + 9)), .int (a4 + 1), .null, .null, .null] rfl rfl rfl rfl ?_
        refine zn_go rfl ?_
        exact r11 a1 a2 (zg s 65 ((a3 * 10) + 9)) (a4 + 1) s h
      · replace h := h.2 ((i_eq (x := zg s 65 ((a3 * 10) + 6)) (y := a2) rfl rfl).mp hcn)
        refine zn_ld rfl rfl rfl ?_
        exact zn_retI rfl h
theorem ml_53_11_39 {d d0 : Nat} (hd : d = d0 + 8)  {a1 : Int32} {a2 : Int32} {a3 : Int32} {a4 : Int32} {s : zS} {Q : Option Value → zS → Prop}  (h : vl_53_11 (fun j => Zt d (wd 39 j) j) 39  a1 a2 a3 a4 s Q) : Zn d [] [] ([] : zW) ([] : zW) xL_4 5 (some .int) xE_53 (xE_53.drop 11) [.ref 39, .int a1, .int a2, .int a3, .int a4, .null, .null, .null] [] s Q := by
  obtain ⟨I, μ, h0, h1⟩ := h
  have key : ∀ (n : Nat) (a1 : Int32) (a2 : Int32) (a3 : Int32) (a4 : Int32) (s : zS), μ a1 a2 a3 a4 s = n → I a1 a2 a3 a4 s → Zn d [] [] ([] : zW) ([] : zW) xL_4 5 (some .int) xE_53 (xE_53.drop 11) [.ref 39, .int a1, .int a2, .int a3, .int a4, .null, .null, .null] [] s Q := by
    intro n
    induction n using Nat.strongRecOn with
    | ind n ih =>
      intro a1 a2 a3 a4 s e hI
      exact m_53_11_39 hd (fun a1' a2' a3' a4' s' q => ih _ (by rw [← e]; exact q.2) a1' a2' a3' a4' s' rfl q.1) (h1 a1 a2 a3 a4 s hI)
  exact key _ a1 a2 a3 a4 s rfl h0
set_option maxRecDepth 20000 in
theorem m_53_0_39 {d d0 : Nat} (hd : d = d0 + 8)  {a1 : Int32} {a2 : Int32} {s : zS} {Q : Option Value → zS → Prop}  (h : v_53_0 (fun j => Zt d (wd 39 j) j) 39  a1 a2 s Q) : Zn d [] [] ([] : zW) ([] : zW) xL_4 5 (some .int) xE_53 (xE_53.drop 0) [.ref 39, .int a1, .int a2, .null, .null, .null, .null, .null] [] s Q := by
  unfold v_53_0 at h
  refine zn_ld rfl rfl rfl ?_
  refine zn_get (v := .ref 63) rfl (zv_R (a := 39) rfl rfl) ?_
  refine zn_ld rfl rfl rfl ?_
  refine zn_c [.int 6, .int a1, .ref 63] (xo_push (.int 6)) rfl rfl ?_
  replace h := h _ (i_mul (x := a1) (y := 6) rfl (show (6 : Int32).toInt = 6 by decide))
  refine zn_c [.int (a1 * 6), .ref 63] xo_imul rfl rfl ?_
  refine zn_c [.int 5, .int (a1 * 6), .ref 63] (xo_push (.int 5)) rfl rfl ?_
  replace h := h _ (i_add (x := (a1 * 6)) (y := 5) rfl (show (5 : Int32).toInt = 5 by decide))
  refine zn_c [.int ((a1 * 6) + 5), .ref 63] xo_iadd rfl rfl ?_
  refine zn_row ((a1 * 6) + 5) [] (a := 63) hd rfl rfl rfl rfl ?_
  change Zn _ _ _ _ _ _ _ _ _ _ _ [.int (zg s 63 ((a1 * 6) + 5))] _ _
  refine zn_st [.ref 39, .int a1, .int a2, .int (zg s 63 ((a1 * 6) + 5)), .null, .null, .null, .null] rfl rfl rfl ?_
  refine zn_c [.int 0] (xo_push (.int 0)) rfl rfl ?_
  refine zn_st [.ref 39, .int a1, .int a2, .int (zg s 63 ((a1 * 6) + 5)), .int 0, .null, .null, .null] rfl rfl rfl ?_
  exact ml_53_11_39 hd  h
theorem zq_53_39 {d : Nat} {a1 : Int32} {a2 : Int32} {s : zS} {Q : Option Value → zS → Prop} (h : v_53_0 (fun j => Zt (d + 8) (wd 39 j) j) 39 a1 a2 s Q) : Zt (d + 9) ([] : zW) 53 [.ref 39, .int a1, .int a2] s Q := zt_of (E := xE_53) (L := xL_4) (ml := 5) (ret := some .int) rfl rfl rfl (m_53_0_39 rfl h)
theorem zc_53 {d P : Nat} (hP : P = 3 ∨ P = 39) {a1 : Int32} {a2 : Int32} {s : zS} {Q : Option Value → zS → Prop} (h : v_53_0 (fun j => Zt (d + 8) (wd P j) j) P a1 a2 s Q) : Zt (d + 9) (wd P 53) 53 [.ref P, .int a1, .int a2] s Q := by
  rcases hP with rfl | rfl
  · exact zq_53_3 h
  · exact zq_53_39 h
/-! FeatherBench$Program.addSlot -/
def v_54_0 (T : Nat → List Value → zS → (Option Value → zS → Prop) → Prop) (P : Nat)  (a1 : Int32) (a2 : Int32) (a3 : Int32) (a4 : Int32) (s : zS) (Q : Option Value → zS → Prop) : Prop :=
  (-1 ≤ a1.toInt ∧ a1.toInt ≤ 2000000000) ∧ (∀ s1, s1 = za s (P + 30) a1 → (-1 ≤ a2.toInt ∧ a2.toInt ≤ 2000000000) ∧ (∀ s2, s2 = za s1 (P + 30) a2 → (-1 ≤ a3.toInt ∧ a3.toInt ≤ 2000000000) ∧ (∀ s3, s3 = za s2 (P + 30) a3 → ∀ s4, s4 = za s3 (P + 30) (-1) → (-1 ≤ a4.toInt ∧ a4.toInt ≤ 2000000000) ∧ (∀ s5, s5 = za s4 (P + 30) a4 → Q none s5))))
set_option maxRecDepth 20000 in
theorem m_54_0_3 {d d0 : Nat} (hd : d = d0 + 8)  {a1 : Int32} {a2 : Int32} {a3 : Int32} {a4 : Int32} {s : zS} {Q : Option Value → zS → Prop}  (h : v_54_0 (fun j => Zt d (wd 3 j) j) 3  a1 a2 a3 a4 s Q) : Zn d [] [(3, 99), (3, 98)] ([] : zW) ([] : zW) xL_4 5 (none) xE_54 (xE_54.drop 0) [.ref 3, .int a1, .int a2, .int a3, .int a4, .null, .null, .null, .null, .null] [] s Q := by
  unfold v_54_0 at h
  refine zn_ld rfl rfl rfl ?_
  refine zn_get (v := .ref 33) rfl (zv_R (a := 3) rfl rfl) ?_
  refine zn_ld rfl rfl rfl ?_
  refine zn_add a1 [] (a := 33) hd rfl rfl rfl rfl h.1 (fun q => absurd q (by decide)) rfl ?_
  replace h := h.2
  replace h := h _ rfl
  refine zn_ld rfl rfl rfl ?_
  refine zn_get (v := .ref 33) rfl (zv_R (a := 3) rfl rfl) ?_
  refine zn_ld rfl rfl rfl ?_
  refine zn_add a2 [] (a := 33) hd rfl rfl rfl rfl h.1 (fun q => absurd q (by decide)) rfl ?_
  replace h := h.2
  replace h := h _ rfl
  refine zn_ld rfl rfl rfl ?_
  refine zn_get (v := .ref 33) rfl (zv_R (a := 3) rfl rfl) ?_
  refine zn_ld rfl rfl rfl ?_
  refine zn_add a3 [] (a := 33) hd rfl rfl rfl rfl h.1 (fun q => absurd q (by decide)) rfl ?_
  replace h := h.2
  replace h := h _ rfl
  refine zn_ld rfl rfl rfl ?_
  refine zn_get (v := .ref 33) rfl (zv_R (a := 3) rfl rfl) ?_
  refine zn_c [.int (-1), .ref 33] (xo_push (.int (-1))) rfl rfl ?_
  refine zn_add (-1) [] (a := 33) hd rfl rfl rfl rfl (by decide) (fun q => absurd q (by decide)) rfl ?_
  replace h := h _ rfl
  refine zn_ld rfl rfl rfl ?_
  refine zn_get (v := .ref 33) rfl (zv_R (a := 3) rfl rfl) ?_
  refine zn_ld rfl rfl rfl ?_
  refine zn_add a4 [] (a := 33) hd rfl rfl rfl rfl h.1 (fun q => absurd q (by decide)) rfl ?_
  replace h := h.2
  replace h := h _ rfl
  exact zn_ret0 rfl h
theorem zq_54_3 {d : Nat} {a1 : Int32} {a2 : Int32} {a3 : Int32} {a4 : Int32} {s : zS} {Q : Option Value → zS → Prop} (h : v_54_0 (fun j => Zt (d + 8) (wd 3 j) j) 3 a1 a2 a3 a4 s Q) : Zt (d + 9) ([] : zW) 54 [.ref 3, .int a1, .int a2, .int a3, .int a4] s Q := zt_of (E := xE_54) (L := xL_4) (ml := 5) (ret := none) rfl rfl rfl (m_54_0_3 rfl h)
set_option maxRecDepth 20000 in
theorem m_54_0_39 {d d0 : Nat} (hd : d = d0 + 8)  {a1 : Int32} {a2 : Int32} {a3 : Int32} {a4 : Int32} {s : zS} {Q : Option Value → zS → Prop}  (h : v_54_0 (fun j => Zt d (wd 39 j) j) 39  a1 a2 a3 a4 s Q) : Zn d [] [(39, 99), (39, 98)] ([] : zW) ([] : zW) xL_4 5 (none) xE_54 (xE_54.drop 0) [.ref 39, .int a1, .int a2, .int a3, .int a4, .null, .null, .null, .null, .null] [] s Q := by
  unfold v_54_0 at h
  refine zn_ld rfl rfl rfl ?_
  refine zn_get (v := .ref 69) rfl (zv_R (a := 39) rfl rfl) ?_
  refine zn_ld rfl rfl rfl ?_
  refine zn_add a1 [] (a := 69) hd rfl rfl rfl rfl h.1 (fun q => absurd q (by decide)) rfl ?_
  replace h := h.2
  replace h := h _ rfl
  refine zn_ld rfl rfl rfl ?_
  refine zn_get (v := .ref 69) rfl (zv_R (a := 39) rfl rfl) ?_
  refine zn_ld rfl rfl rfl ?_
  refine zn_add a2 [] (a := 69) hd rfl rfl rfl rfl h.1 (fun q => absurd q (by decide)) rfl ?_
  replace h := h.2
  replace h := h _ rfl
  refine zn_ld rfl rfl rfl ?_
  refine zn_get (v := .ref 69) rfl (zv_R (a := 39) rfl rfl) ?_
  refine zn_ld rfl rfl rfl ?_
  refine zn_add a3 [] (a := 69) hd rfl rfl rfl rfl h.1 (fun q => absurd q (by decide)) rfl ?_
  replace h := h.2
  replace h := h _ rfl
  refine zn_ld rfl rfl rfl ?_
  refine zn_get (v := .ref 69) rfl (zv_R (a := 39) rfl rfl) ?_
  refine zn_c [.int (-1), .ref 69] (xo_push (.int (-1))) rfl rfl ?_
  refine zn_add (-1) [] (a := 69) hd rfl rfl rfl rfl (by decide) (fun q => absurd q (by decide)) rfl ?_
  replace h := h _ rfl
  refine zn_ld rfl rfl rfl ?_
  refine zn_get (v := .ref 69) rfl (zv_R (a := 39) rfl rfl) ?_
  refine zn_ld rfl rfl rfl ?_
  refine zn_add a4 [] (a := 69) hd rfl rfl rfl rfl h.1 (fun q => absurd q (by decide)) rfl ?_
  replace h := h.2
  replace h := h _ rfl
  exact zn_ret0 rfl h
theorem zq_54_39 {d : Nat} {a1 : Int32} {a2 : Int32} {a3 : Int32} {a4 : Int32} {s : zS} {Q : Option Value → zS → Prop} (h : v_54_0 (fun j => Zt (d + 8) (wd 39 j) j) 39 a1 a2 a3 a4 s Q) : Zt (d + 9) ([] : zW) 54 [.ref 39, .int a1, .int a2, .int a3, .int a4] s Q := zt_of (E := xE_54) (L := xL_4) (ml := 5) (ret := none) rfl rfl rfl (m_54_0_39 rfl h)
theorem zc_54 {d P : Nat} (hP : P = 3 ∨ P = 39) {a1 : Int32} {a2 : Int32} {a3 : Int32} {a4 : Int32} {s : zS} {Q : Option Value → zS → Prop} (h : v_54_0 (fun j => Zt (d + 8) (wd P j) j) P a1 a2 a3 a4 s Q) : Zt (d + 9) (wd P 54) 54 [.ref P, .int a1, .int a2, .int a3, .int a4] s Q := by
  rcases hP with rfl | rfl
  · exact zq_54_3 h
  · exact zq_54_39 h
/-! FeatherBench$Program.addSig -/
def v_55_0 (T : Nat → List Value → zS → (Option Value → zS → Prop) → Prop) (P : Nat)  (a1 : Int32) (a2 : Int32) (a3 : Int32) (a4 : Int32) (s : zS) (Q : Option Value → zS → Prop) : Prop :=
  (-1 ≤ a1.toInt ∧ a1.toInt ≤ 5000) ∧ (∀ s1, s1 = za s (P + 28) a1 → (-1 ≤ (zg s1 (P + 10) a1).toInt ∧ (zg s1 (P + 10) a1).toInt ≤ 5000) ∧ (∀ s2, s2 = za s1 (P + 28) (zg s1 (P + 10) a1) → (-1 ≤ a2.toInt ∧ a2.toInt ≤ 5000) ∧ (∀ s3, s3 = za s2 (P + 28) a2 → (-1 ≤ a3.toInt ∧ a3.toInt ≤ 5000) ∧ (∀ s4, s4 = za s3 (P + 28) a3 → (-1 ≤ a4.toInt ∧ a4.toInt ≤ 5000) ∧ (∀ s5, s5 = za s4 (P + 28) a4 → Q none s5)))))
set_option maxRecDepth 20000 in
theorem m_55_0_3 {d d0 : Nat} (hd : d = d0 + 8)  {a1 : Int32} {a2 : Int32} {a3 : Int32} {a4 : Int32} {s : zS} {Q : Option Value → zS → Prop}  (h : v_55_0 (fun j => Zt d (wd 3 j) j) 3  a1 a2 a3 a4 s Q) : Zn d [] [(3, 99), (3, 98)] ([] : zW) ([] : zW) xL_4 5 (none) xE_55 (xE_55.drop 0) [.ref 3, .int a1, .int a2, .int a3, .int a4, .null, .null, .null, .null, .null] [] s Q := by
  unfold v_55_0 at h
  refine zn_ld rfl rfl rfl ?_
  refine zn_get (v := .ref 31) rfl (zv_R (a := 3) rfl rfl) ?_
  refine zn_ld rfl rfl rfl ?_
  refine zn_add a1 [] (a := 31) hd rfl rfl rfl rfl h.1 (fun q => absurd q (by decide)) rfl ?_
  replace h := h.2
  replace h := h _ rfl
  refine zn_ld rfl rfl rfl ?_
  refine zn_get (v := .ref 31) rfl (zv_R (a := 3) rfl rfl) ?_
  refine zn_ld rfl rfl rfl ?_
  refine zn_get (v := .ref 4) rfl (zv_R (a := 3) rfl rfl) ?_
  refine zn_get (v := .ref 13) rfl (zv_R (a := 4) rfl rfl) ?_
  refine zn_ld rfl rfl rfl ?_
  refine zn_row a1 [.ref 31] (a := 13) hd rfl rfl rfl rfl ?_
  change Zn _ _ _ _ _ _ _ _ _ _ _ [.int (zg (za s 31 a1) 13 a1), .ref 31] _ _
  refine zn_add (zg (za s 31 a1) 13 a1) [] (a := 31) hd rfl rfl rfl rfl h.1 (fun q => absurd q (by decide)) rfl ?_
  replace h := h.2
  replace h := h _ rfl
  refine zn_ld rfl rfl rfl ?_
  refine zn_get (v := .ref 31) rfl (zv_R (a := 3) rfl rfl) ?_
  refine zn_ld rfl rfl rfl ?_
  refine zn_add a2 [] (a := 31) hd rfl rfl rfl rfl h.1 (fun q => absurd q (by decide)) rfl ?_
  replace h := h.2
  replace h := h _ rfl
  refine zn_ld rfl rfl rfl ?_
  refine zn_get (v := .ref 31) rfl (zv_R (a := 3) rfl rfl) ?_
  refine zn_ld rfl rfl rfl ?_
  refine zn_add a3 [] (a := 31) hd rfl rfl rfl rfl h.1 (fun q => absurd q (by decide)) rfl ?_
  replace h := h.2
  replace h := h _ rfl
  refine zn_ld rfl rfl rfl ?_
  refine zn_get (v := .ref 31) rfl (zv_R (a := 3) rfl rfl) ?_
  refine zn_ld rfl rfl rfl ?_
  refine zn_add a4 [] (a := 31) hd rfl rfl rfl rfl h.1 (fun q => absurd q (by decide)) rfl ?_
  replace h := h.2
  replace h := h _ rfl
  exact zn_ret0 rfl h
theorem zq_55_3 {d : Nat} {a1 : Int32} {a2 : Int32} {a3 : Int32} {a4 : Int32} {s : zS} {Q : Option Value → zS → Prop} (h : v_55_0 (fun j => Zt (d + 8) (wd 3 j) j) 3 a1 a2 a3 a4 s Q) : Zt (d + 9) ([] : zW) 55 [.ref 3, .int a1, .int a2, .int a3, .int a4] s Q := zt_of (E := xE_55) (L := xL_4) (ml := 5) (ret := none) rfl rfl rfl (m_55_0_3 rfl h)
set_option maxRecDepth 20000 in
theorem m_55_0_39 {d d0 : Nat} (hd : d = d0 + 8)  {a1 : Int32} {a2 : Int32} {a3 : Int32} {a4 : Int32} {s : zS} {Q : Option Value → zS → Prop}  (h : v_55_0 (fun j => Zt d (wd 39 j) j) 39  a1 a2 a3 a4 s Q) : Zn d [] [(39, 99), (39, 98)] ([] : zW) ([] : zW) xL_4 5 (none) xE_55 (xE_55.drop 0) [.ref 39, .int a1, .int a2, .int a3, .int a4, .null, .null, .null, .null, .null] [] s Q := by
  unfold v_55_0 at h
  refine zn_ld rfl rfl rfl ?_
  refine zn_get (v := .ref 67) rfl (zv_R (a := 39) rfl rfl) ?_
  refine zn_ld rfl rfl rfl ?_
  refine zn_add a1 [] (a := 67) hd rfl rfl rfl rfl h.1 (fun q => absurd q (by decide)) rfl ?_
  replace h := h.2
  replace h := h _ rfl
  refine zn_ld rfl rfl rfl ?_
  refine zn_get (v := .ref 67) rfl (zv_R (a := 39) rfl rfl) ?_
  refine zn_ld rfl rfl rfl ?_
  refine zn_get (v := .ref 40) rfl (zv_R (a := 39) rfl rfl) ?_
  refine zn_get (v := .ref 49) rfl (zv_R (a := 40) rfl rfl) ?_
  refine zn_ld rfl rfl rfl ?_
  refine zn_row a1 [.ref 67] (a := 49) hd rfl rfl rfl rfl ?_
  change Zn _ _ _ _ _ _ _ _ _ _ _ [.int (zg (za s 67 a1) 49 a1), .ref 67] _ _
  refine zn_add (zg (za s 67 a1) 49 a1) [] (a := 67) hd rfl rfl rfl rfl h.1 (fun q => absurd q (by decide)) rfl ?_
  replace h := h.2
  replace h := h _ rfl
  refine zn_ld rfl rfl rfl ?_
  refine zn_get (v := .ref 67) rfl (zv_R (a := 39) rfl rfl) ?_
  refine zn_ld rfl rfl rfl ?_
  refine zn_add a2 [] (a := 67) hd rfl rfl rfl rfl h.1 (fun q => absurd q (by decide)) rfl ?_
  replace h := h.2
  replace h := h _ rfl
  refine zn_ld rfl rfl rfl ?_
  refine zn_get (v := .ref 67) rfl (zv_R (a := 39) rfl rfl) ?_
  refine zn_ld rfl rfl rfl ?_
  refine zn_add a3 [] (a := 67) hd rfl rfl rfl rfl h.1 (fun q => absurd q (by decide)) rfl ?_
  replace h := h.2
  replace h := h _ rfl
  refine zn_ld rfl rfl rfl ?_
  refine zn_get (v := .ref 67) rfl (zv_R (a := 39) rfl rfl) ?_
  refine zn_ld rfl rfl rfl ?_
  refine zn_add a4 [] (a := 67) hd rfl rfl rfl rfl h.1 (fun q => absurd q (by decide)) rfl ?_
  replace h := h.2
  replace h := h _ rfl
  exact zn_ret0 rfl h
theorem zq_55_39 {d : Nat} {a1 : Int32} {a2 : Int32} {a3 : Int32} {a4 : Int32} {s : zS} {Q : Option Value → zS → Prop} (h : v_55_0 (fun j => Zt (d + 8) (wd 39 j) j) 39 a1 a2 a3 a4 s Q) : Zt (d + 9) ([] : zW) 55 [.ref 39, .int a1, .int a2, .int a3, .int a4] s Q := zt_of (E := xE_55) (L := xL_4) (ml := 5) (ret := none) rfl rfl rfl (m_55_0_39 rfl h)
theorem zc_55 {d P : Nat} (hP : P = 3 ∨ P = 39) {a1 : Int32} {a2 : Int32} {a3 : Int32} {a4 : Int32} {s : zS} {Q : Option Value → zS → Prop} (h : v_55_0 (fun j => Zt (d + 8) (wd P j) j) P a1 a2 a3 a4 s Q) : Zt (d + 9) (wd P 55) 55 [.ref P, .int a1, .int a2, .int a3, .int a4] s Q := by
  rcases hP with rfl | rfl
  · exact zq_55_3 h
  · exact zq_55_39 h
/-! FeatherBench$Program.addType -/
def v_56_0 (T : Nat → List Value → zS → (Option Value → zS → Prop) → Prop) (P : Nat)  (a1 : Int32) (a2 : Int32) (a3 : Int32) (a4 : Int32) (a5 : Int32) (a6 : Int32) (s : zS) (Q : Option Value → zS → Prop) : Prop :=
  (0 ≤ a4.toInt ∧ a4.toInt ≤ 7) ∧ (∀ s1, s1 = zt s (P + 22) (s.1 (P + 24) 2 / 6) a4 → T 58 [.ref P, .int (s1.1 (P + 24) 2 / 6), .int a3] s1 (fun v2 s3 => v2 = none ∧ ((-1 ≤ a1.toInt ∧ a1.toInt ≤ 5000) ∧ (∀ s4, s4 = za s3 (P + 24) a1 → (-1 ≤ a2.toInt ∧ a2.toInt ≤ 5000) ∧ (∀ s5, s5 = za s4 (P + 24) a2 → (-1 ≤ a3.toInt ∧ a3.toInt ≤ 5000) ∧ (∀ s6, s6 = za s5 (P + 24) a3 → (-1 ≤ a5.toInt ∧ a5.toInt ≤ 5000) ∧ (∀ s7, s7 = za s6 (P + 24) a5 → (-1 ≤ a6.toInt ∧ a6.toInt ≤ 5000) ∧ (∀ s8, s8 = za s7 (P + 24) a6 → ∀ s9, s9 = za s8 (P + 24) (-1) → Q none s9))))))))
set_option maxRecDepth 20000 in
theorem m_56_0_3 {d d0 : Nat} (hd : d = d0 + 8)  {a1 : Int32} {a2 : Int32} {a3 : Int32} {a4 : Int32} {a5 : Int32} {a6 : Int32} {s : zS} {Q : Option Value → zS → Prop}  (h : v_56_0 (fun j => Zt d (wd 3 j) j) 3  a1 a2 a3 a4 a5 a6 s Q) : Zn d [] [(3, 99), (3, 98)] ([] : zW) ([] : zW) xL_4 7 (none) xE_56 (xE_56.drop 0) [.ref 3, .int a1, .int a2, .int a3, .int a4, .int a5, .int a6, .null, .null, .null, .null, .null, .null, .null] [] s Q := by
  unfold v_56_0 at h
  refine zn_ld rfl rfl rfl ?_
  refine zn_get (v := .ref 25) rfl (zv_R (a := 3) rfl rfl) ?_
  refine zn_ld rfl rfl rfl ?_
  refine zn_zt [.ref 3] [.ref 25] (c := []) rfl rfl rfl rfl rfl (Zt.imp (zp_44 hd (Or.inl rfl)) (fun vq sq hq => ?_))
  obtain ⟨rfl, hq⟩ := hq
  rw [hq]
  change Zn _ _ _ _ _ _ _ _ _ _ _ [.int (s.1 27 2 / 6), .ref 25] _ _
  refine zn_ld rfl rfl rfl ?_
  refine zn_set (s.1 27 2 / 6) a4 [] (a := 25) hd rfl rfl rfl rfl h.1 rfl rfl ?_
  replace h := h.2
  replace h := h _ rfl
  refine zn_ld rfl rfl rfl ?_
  refine zn_ld rfl rfl rfl ?_
  refine zn_zt [.ref 3] [.ref 3] (c := []) rfl rfl rfl rfl rfl (Zt.imp (zp_44 hd (Or.inl rfl)) (fun vq sq hq => ?_))
  obtain ⟨rfl, hq⟩ := hq
  rw [hq]
  change Zn _ _ _ _ _ _ _ _ _ _ _ [.int ((zt s 25 (s.1 27 2 / 6) a4).1 27 2 / 6), .ref 3] _ _
  refine zn_ld rfl rfl rfl ?_
  refine zn_zt [.ref 3, .int ((zt s 25 (s.1 27 2 / 6) a4).1 27 2 / 6), .int a3] [] rfl rfl rfl rfl rfl (Zt.imp h (fun v2 s3 h => ?_))
  obtain ⟨rfl, h⟩ := h
  change Zn _ _ _ _ _ _ _ _ _ _ _ [] _ _
  refine zn_ld rfl rfl rfl ?_
  refine zn_get (v := .ref 27) rfl (zv_R (a := 3) rfl rfl) ?_
  refine zn_ld rfl rfl rfl ?_
  refine zn_add a1 [] (a := 27) hd rfl rfl rfl rfl h.1 (fun q => absurd q (by decide)) rfl ?_
  replace h := h.2
  replace h := h _ rfl
  refine zn_ld rfl rfl rfl ?_
  refine zn_get (v := .ref 27) rfl (zv_R (a := 3) rfl rfl) ?_
  refine zn_ld rfl rfl rfl ?_
  refine zn_add a2 [] (a := 27) hd rfl rfl rfl rfl h.1 (fun q => absurd q (by decide)) rfl ?_
  replace h := h.2
  replace h := h _ rfl
  refine zn_ld rfl rfl rfl ?_
  refine zn_get (v := .ref 27) rfl (zv_R (a := 3) rfl rfl) ?_
  refine zn_ld rfl rfl rfl ?_
  refine zn_add a3 [] (a := 27) hd rfl rfl rfl rfl h.1 (fun q => absurd q (by decide)) rfl ?_
  replace h := h.2
  replace h := h _ rfl
  refine zn_ld rfl rfl rfl ?_
  refine zn_get (v := .ref 27) rfl (zv_R (a := 3) rfl rfl) ?_
  refine zn_ld rfl rfl rfl ?_
  refine zn_add a5 [] (a := 27) hd rfl rfl rfl rfl h.1 (fun q => absurd q (by decide)) rfl ?_
  replace h := h.2
  replace h := h _ rfl
  refine zn_ld rfl rfl rfl ?_
  refine zn_get (v := .ref 27) rfl (zv_R (a := 3) rfl rfl) ?_
  refine zn_ld rfl rfl rfl ?_
  refine zn_add a6 [] (a := 27) hd rfl rfl rfl rfl h.1 (fun q => absurd q (by decide)) rfl ?_
  replace h := h.2
  replace h := h _ rfl
  refine zn_ld rfl rfl rfl ?_
  refine zn_get (v := .ref 27) rfl (zv_R (a := 3) rfl rfl) ?_
  refine zn_c [.int (-1), .ref 27] (xo_push (.int (-1))) rfl rfl ?_
  refine zn_add (-1) [] (a := 27) hd rfl rfl rfl rfl (by decide) (fun q => absurd q (by decide)) rfl ?_
  replace h := h _ rfl
  exact zn_ret0 rfl h
theorem zq_56_3 {d : Nat} {a1 : Int32} {a2 : Int32} {a3 : Int32} {a4 : Int32} {a5 : Int32} {a6 : Int32} {s : zS} {Q : Option Value → zS → Prop} (h : v_56_0 (fun j => Zt (d + 8) (wd 3 j) j) 3 a1 a2 a3 a4 a5 a6 s Q) : Zt (d + 9) ([] : zW) 56 [.ref 3, .int a1, .int a2, .int a3, .int a4, .int a5, .int a6] s Q := zt_of (E := xE_56) (L := xL_4) (ml := 7) (ret := none) rfl rfl rfl (m_56_0_3 rfl h)
set_option maxRecDepth 20000 in
theorem m_56_0_39 {d d0 : Nat} (hd : d = d0 + 8)  {a1 : Int32} {a2 : Int32} {a3 : Int32} {a4 : Int32} {a5 : Int32} {a6 : Int32} {s : zS} {Q : Option Value → zS → Prop}  (h : v_56_0 (fun j => Zt d (wd 39 j) j) 39  a1 a2 a3 a4 a5 a6 s Q) : Zn d [] [(39, 99), (39, 98)] ([] : zW) ([] : zW) xL_4 7 (none) xE_56 (xE_56.drop 0) [.ref 39, .int a1, .int a2, .int a3, .int a4, .int a5, .int a6, .null, .null, .null, .null, .null, .null, .null] [] s Q := by
  unfold v_56_0 at h
  refine zn_ld rfl rfl rfl ?_
  refine zn_get (v := .ref 61) rfl (zv_R (a := 39) rfl rfl) ?_
  refine zn_ld rfl rfl rfl ?_
  refine zn_zt [.ref 39] [.ref 61] (c := []) rfl rfl rfl rfl rfl (Zt.imp (zp_44 hd (Or.inr rfl)) (fun vq sq hq => ?_))
  obtain ⟨rfl, hq⟩ := hq
  rw [hq]
  change Zn _ _ _ _ _ _ _ _ _ _ _ [.int (s.1 63 2 / 6), .ref 61] _ _
  refine zn_ld rfl rfl rfl ?_
  refine zn_set (s.1 63 2 / 6) a4 [] (a := 61) hd rfl rfl rfl rfl h.1 rfl rfl ?_
  replace h := h.2
  replace h := h _ rfl
  refine zn_ld rfl rfl rfl ?_
  refine zn_ld rfl rfl rfl ?_
  refine zn_zt [.ref 39] [.ref 39] (c := []) rfl rfl rfl rfl rfl (Zt.imp (zp_44 hd (Or.inr rfl)) (fun vq sq hq => ?_))
  obtain ⟨rfl, hq⟩ := hq
  rw [hq]
  change Zn _ _ _ _ _ _ _ _ _ _ _ [.int ((zt s 61 (s.1 63 2 / 6) a4).1 63 2 / 6), .ref 39] _ _
  refine zn_ld rfl rfl rfl ?_
  refine zn_zt [.ref 39, .int ((zt s 61 (s.1 63 2 / 6) a4).1 63 2 / 6), .int a3] [] rfl rfl rfl rfl rfl (Zt.imp h (fun v2 s3 h => ?_))
  obtain ⟨rfl, h⟩ := h
  change Zn _ _ _ _ _ _ _ _ _ _ _ [] _ _
  refine zn_ld rfl rfl rfl ?_
  refine zn_get (v := .ref 63) rfl (zv_R (a := 39) rfl rfl) ?_
  refine zn_ld rfl rfl rfl ?_
  refine zn_add a1 [] (a := 63) hd rfl rfl rfl rfl h.1 (fun q => absurd q (by decide)) rfl ?_
  replace h := h.2
  replace h := h _ rfl
  refine zn_ld rfl rfl rfl ?_
  refine zn_get (v := .ref 63) rfl (zv_R (a := 39) rfl rfl) ?_
  refine zn_ld rfl rfl rfl ?_
  refine zn_add a2 [] (a := 63) hd rfl rfl rfl rfl h.1 (fun q => absurd q (by decide)) rfl ?_
  replace h := h.2
  replace h := h _ rfl
  refine zn_ld rfl rfl rfl ?_
  refine zn_get (v := .ref 63) rfl (zv_R (a := 39) rfl rfl) ?_
  refine zn_ld rfl rfl rfl ?_
  refine zn_add a3 [] (a := 63) hd rfl rfl rfl rfl h.1 (fun q => absurd q (by decide)) rfl ?_
  replace h := h.2
  replace h := h _ rfl
  refine zn_ld rfl rfl rfl ?_
  refine zn_get (v := .ref 63) rfl (zv_R (a := 39) rfl rfl) ?_
  refine zn_ld rfl rfl rfl ?_
  refine zn_add a5 [] (a := 63) hd rfl rfl rfl rfl h.1 (fun q => absurd q (by decide)) rfl ?_
  replace h := h.2
  replace h := h _ rfl
  refine zn_ld rfl rfl rfl ?_
  refine zn_get (v := .ref 63) rfl (zv_R (a := 39) rfl rfl) ?_
  refine zn_ld rfl rfl rfl ?_
  refine zn_add a6 [] (a := 63) hd rfl rfl rfl rfl h.1 (fun q => absurd q (by decide)) rfl ?_
  replace h := h.2
  replace h := h _ rfl
  refine zn_ld rfl rfl rfl ?_
  refine zn_get (v := .ref 63) rfl (zv_R (a := 39) rfl rfl) ?_
  refine zn_c [.int (-1), .ref 63] (xo_push (.int (-1))) rfl rfl ?_
  refine zn_add (-1) [] (a := 63) hd rfl rfl rfl rfl (by decide) (fun q => absurd q (by decide)) rfl ?_
  replace h := h _ rfl
  exact zn_ret0 rfl h
theorem zq_56_39 {d : Nat} {a1 : Int32} {a2 : Int32} {a3 : Int32} {a4 : Int32} {a5 : Int32} {a6 : Int32} {s : zS} {Q : Option Value → zS → Prop} (h : v_56_0 (fun j => Zt (d + 8) (wd 39 j) j) 39 a1 a2 a3 a4 a5 a6 s Q) : Zt (d + 9) ([] : zW) 56 [.ref 39, .int a1, .int a2, .int a3, .int a4, .int a5, .int a6] s Q := zt_of (E := xE_56) (L := xL_4) (ml := 7) (ret := none) rfl rfl rfl (m_56_0_39 rfl h)
theorem zc_56 {d P : Nat} (hP : P = 3 ∨ P = 39) {a1 : Int32} {a2 : Int32} {a3 : Int32} {a4 : Int32} {a5 : Int32} {a6 : Int32} {s : zS} {Q : Option Value → zS → Prop} (h : v_56_0 (fun j => Zt (d + 8) (wd P j) j) P a1 a2 a3 a4 a5 a6 s Q) : Zt (d + 9) (wd P 56) 56 [.ref P, .int a1, .int a2, .int a3, .int a4, .int a5, .int a6] s Q := by
  rcases hP with rfl | rfl
  · exact zq_56_3 h
  · exact zq_56_39 h
/-! FeatherBench$Program.addDecl -/
def v_58_0 (T : Nat → List Value → zS → (Option Value → zS → Prop) → Prop) (P : Nat)  (a1 : Int32) (a2 : Int32) (s : zS) (Q : Option Value → zS → Prop) : Prop :=
  (-5000 ≤ a1.toInt ∧ a1.toInt ≤ 5000) ∧ (∀ s1, s1 = za s (P + 32) a1 → (-5000 ≤ a2.toInt ∧ a2.toInt ≤ 5000) ∧ (∀ s2, s2 = za s1 (P + 32) a2 → (-5000 ≤ (s2.1 (P + 30) 2 / 5).toInt ∧ (s2.1 (P + 30) 2 / 5).toInt ≤ 5000) ∧ (∀ s3, s3 = za s2 (P + 32) (s2.1 (P + 30) 2 / 5) → Q none s3)))
set_option maxRecDepth 20000 in
theorem m_58_0_3 {d d0 : Nat} (hd : d = d0 + 8)  {a1 : Int32} {a2 : Int32} {s : zS} {Q : Option Value → zS → Prop}  (h : v_58_0 (fun j => Zt d (wd 3 j) j) 3  a1 a2 s Q) : Zn d [] [(3, 99), (3, 98)] ([] : zW) ([] : zW) xL_4 3 (none) xE_58 (xE_58.drop 0) [.ref 3, .int a1, .int a2, .null, .null, .null] [] s Q := by
  unfold v_58_0 at h
  refine zn_ld rfl rfl rfl ?_
  refine zn_get (v := .ref 35) rfl (zv_R (a := 3) rfl rfl) ?_
  refine zn_ld rfl rfl rfl ?_
  refine zn_add a1 [] (a := 35) hd rfl rfl rfl rfl h.1 (fun q => absurd q (by decide)) rfl ?_
  replace h := h.2
  replace h := h _ rfl
  refine zn_ld rfl rfl rfl ?_
  refine zn_get (v := .ref 35) rfl (zv_R (a := 3) rfl rfl) ?_
  refine zn_ld rfl rfl rfl ?_
  refine zn_add a2 [] (a := 35) hd rfl rfl rfl rfl h.1 (fun q => absurd q (by decide)) rfl ?_
  replace h := h.2
  replace h := h _ rfl
  refine zn_ld rfl rfl rfl ?_
  refine zn_get (v := .ref 35) rfl (zv_R (a := 3) rfl rfl) ?_
  refine zn_ld rfl rfl rfl ?_
  refine zn_zt [.ref 3] [.ref 35] (c := []) rfl rfl rfl rfl rfl (Zt.imp (zp_47 hd (Or.inl rfl)) (fun vq sq hq => ?_))
  obtain ⟨rfl, hq⟩ := hq
  rw [hq]
  change Zn _ _ _ _ _ _ _ _ _ _ _ [.int ((za (za s 35 a1) 35 a2).1 33 2 / 5), .ref 35] _ _
  refine zn_add ((za (za s 35 a1) 35 a2).1 33 2 / 5) [] (a := 35) hd rfl rfl rfl rfl h.1 (fun q => absurd q (by decide)) rfl ?_
  replace h := h.2
  replace h := h _ rfl
  exact zn_ret0 rfl h
theorem zq_58_3 {d : Nat} {a1 : Int32} {a2 : Int32} {s : zS} {Q : Option Value → zS → Prop} (h : v_58_0 (fun j => Zt (d + 8) (wd 3 j) j) 3 a1 a2 s Q) : Zt (d + 9) ([] : zW) 58 [.ref 3, .int a1, .int a2] s Q := zt_of (E := xE_58) (L := xL_4) (ml := 3) (ret := none) rfl rfl rfl (m_58_0_3 rfl h)
set_option maxRecDepth 20000 in
theorem m_58_0_39 {d d0 : Nat} (hd : d = d0 + 8)  {a1 : Int32} {a2 : Int32} {s : zS} {Q : Option Value → zS → Prop}  (h : v_58_0 (fun j => Zt d (wd 39 j) j) 39  a1 a2 s Q) : Zn d [] [(39, 99), (39, 98)] ([] : zW) ([] : zW) xL_4 3 (none) xE_58 (xE_58.drop 0) [.ref 39, .int a1, .int a2, .null, .null, .null] [] s Q := by
  unfold v_58_0 at h
  refine zn_ld rfl rfl rfl ?_
  refine zn_get (v := .ref 71) rfl (zv_R (a := 39) rfl rfl) ?_
  refine zn_ld rfl rfl rfl ?_
  refine zn_add a1 [] (a := 71) hd rfl rfl rfl rfl h.1 (fun q => absurd q (by decide)) rfl ?_
  replace h := h.2
  replace h := h _ rfl
  refine zn_ld rfl rfl rfl ?_
  refine zn_get (v := .ref 71) rfl (zv_R (a := 39) rfl rfl) ?_
  refine zn_ld rfl rfl rfl ?_
  refine zn_add a2 [] (a := 71) hd rfl rfl rfl rfl h.1 (fun q => absurd q (by decide)) rfl ?_
  replace h := h.2
  replace h := h _ rfl
  refine zn_ld rfl rfl rfl ?_
  refine zn_get (v := .ref 71) rfl (zv_R (a := 39) rfl rfl) ?_
  refine zn_ld rfl rfl rfl ?_
  refine zn_zt [.ref 39] [.ref 71] (c := []) rfl rfl rfl rfl rfl (Zt.imp (zp_47 hd (Or.inr rfl)) (fun vq sq hq => ?_))
  obtain ⟨rfl, hq⟩ := hq
  rw [hq]
  change Zn _ _ _ _ _ _ _ _ _ _ _ [.int ((za (za s 71 a1) 71 a2).1 69 2 / 5), .ref 71] _ _
  refine zn_add ((za (za s 71 a1) 71 a2).1 69 2 / 5) [] (a := 71) hd rfl rfl rfl rfl h.1 (fun q => absurd q (by decide)) rfl ?_
  replace h := h.2
  replace h := h _ rfl
  exact zn_ret0 rfl h
theorem zq_58_39 {d : Nat} {a1 : Int32} {a2 : Int32} {s : zS} {Q : Option Value → zS → Prop} (h : v_58_0 (fun j => Zt (d + 8) (wd 39 j) j) 39 a1 a2 s Q) : Zt (d + 9) ([] : zW) 58 [.ref 39, .int a1, .int a2] s Q := zt_of (E := xE_58) (L := xL_4) (ml := 3) (ret := none) rfl rfl rfl (m_58_0_39 rfl h)
theorem zc_58 {d P : Nat} (hP : P = 3 ∨ P = 39) {a1 : Int32} {a2 : Int32} {s : zS} {Q : Option Value → zS → Prop} (h : v_58_0 (fun j => Zt (d + 8) (wd P j) j) P a1 a2 s Q) : Zt (d + 9) (wd P 58) 58 [.ref P, .int a1, .int a2] s Q := by
  rcases hP with rfl | rfl
  · exact zq_58_3 h
  · exact zq_58_39 h
/-! FeatherBench$Program.addFunc -/
def v_57_0 (T : Nat → List Value → zS → (Option Value → zS → Prop) → Prop) (P : Nat)  (a1 : Int32) (a2 : Int32) (a3 : Int32) (a4 : Int32) (a5 : Int32) (a6 : Int32) (s : zS) (Q : Option Value → zS → Prop) : Prop :=
  ∀ x1 : Int32, (-2147483648 ≤ (-1) - (s.1 (P + 26) 2 / 10).toInt ∧ (-1) - (s.1 (P + 26) 2 / 10).toInt ≤ 2147483647 → x1.toInt = (-1) - (s.1 (P + 26) 2 / 10).toInt) → T 58 [.ref P, .int x1, .int a3] s (fun v2 s3 => v2 = none ∧ ((-1 ≤ a1.toInt ∧ a1.toInt ≤ 5000) ∧ (∀ s4, s4 = za s3 (P + 26) a1 → (-1 ≤ a2.toInt ∧ a2.toInt ≤ 5000) ∧ (∀ s5, s5 = za s4 (P + 26) a2 → ∀ s6, s6 = za s5 (P + 26) (-1) → ∀ x7 : Int32, (-2147483648 ≤ a3.toInt + 1 ∧ a3.toInt + 1 ≤ 2147483647 → x7.toInt = a3.toInt + 1) → (-1 ≤ x7.toInt ∧ x7.toInt ≤ 5000) ∧ (∀ s8, s8 = za s6 (P + 26) x7 → (-1 ≤ a4.toInt ∧ a4.toInt ≤ 5000) ∧ (∀ s9, s9 = za s8 (P + 26) a4 → (-1 ≤ a5.toInt ∧ a5.toInt ≤ 5000) ∧ (∀ s10, s10 = za s9 (P + 26) a5 → (-1 ≤ (zg s10 (P + 28) (a5 * 5 + 1)).toInt ∧ (zg s10 (P + 28) (a5 * 5 + 1)).toInt ≤ 5000) ∧ (∀ s12, s12 = za s10 (P + 26) (zg s10 (P + 28) (a5 * 5 + 1)) → (-1 ≤ a6.toInt ∧ a6.toInt ≤ 5000) ∧ (∀ s13, s13 = za s12 (P + 26) a6 → ∀ s14, s14 = za s13 (P + 26) (-1) → ∀ s15, s15 = za s14 (P + 26) (-1) → Q none s15)))))))))
set_option maxRecDepth 20000 in
theorem m_57_0_3 {d d0 : Nat} (hd : d = d0 + 8)  {a1 : Int32} {a2 : Int32} {a3 : Int32} {a4 : Int32} {a5 : Int32} {a6 : Int32} {s : zS} {Q : Option Value → zS → Prop}  (h : v_57_0 (fun j => Zt d (wd 3 j) j) 3  a1 a2 a3 a4 a5 a6 s Q) : Zn d [] [(3, 99), (3, 98)] ([] : zW) ([] : zW) xL_4 7 (none) xE_57 (xE_57.drop 0) [.ref 3, .int a1, .int a2, .int a3, .int a4, .int a5, .int a6, .null, .null, .null, .null, .null, .null, .null] [] s Q := by
  unfold v_57_0 at h
  dsimp only [Nat.reduceAdd] at h
  refine zn_ld rfl rfl rfl ?_
  refine zn_c [.int (-1), .ref 3] (xo_push (.int (-1))) rfl rfl ?_
  refine zn_ld rfl rfl rfl ?_
  refine zn_zt [.ref 3] [.int (-1), .ref 3] (c := []) rfl rfl rfl rfl rfl (Zt.imp (zp_45 hd (Or.inl rfl)) (fun vq sq hq => ?_))
  obtain ⟨rfl, hq⟩ := hq
  rw [hq]
  change Zn _ _ _ _ _ _ _ _ _ _ _ [.int (s.1 29 2 / 10), .int (-1), .ref 3] _ _
  replace h := h _ (i_sub (x := (-1)) (y := s.1 29 2 / 10) (show ((-1) : Int32).toInt = (-1) by decide) rfl)
  refine zn_c [.int ((-1) - (s.1 29 2 / 10)), .ref 3] xo_isub rfl rfl ?_
  refine zn_ld rfl rfl rfl ?_
  refine zn_zt [.ref 3, .int ((-1) - (s.1 29 2 / 10)), .int a3] [] rfl rfl rfl rfl rfl (Zt.imp h (fun v2 s3 h => ?_))
  obtain ⟨rfl, h⟩ := h
  change Zn _ _ _ _ _ _ _ _ _ _ _ [] _ _
  refine zn_ld rfl rfl rfl ?_
  refine zn_get (v := .ref 29) rfl (zv_R (a := 3) rfl rfl) ?_
  refine zn_ld rfl rfl rfl ?_
  refine zn_add a1 [] (a := 29) hd rfl rfl rfl rfl h.1 (fun q => absurd q (by decide)) rfl ?_
  replace h := h.2
  replace h := h _ rfl
  refine zn_ld rfl rfl rfl ?_
  refine zn_get (v := .ref 29) rfl (zv_R (a := 3) rfl rfl) ?_
  refine zn_ld rfl rfl rfl ?_
  refine zn_add a2 [] (a := 29) hd rfl rfl rfl rfl h.1 (fun q => absurd q (by decide)) rfl ?_
  replace h := h.2
  replace h := h _ rfl
  refine zn_ld rfl rfl rfl ?_
  refine zn_get (v := .ref 29) rfl (zv_R (a := 3) rfl rfl) ?_
  refine zn_c [.int (-1), .ref 29] (xo_push (.int (-1))) rfl rfl ?_
  refine zn_add (-1) [] (a := 29) hd rfl rfl rfl rfl (by decide) (fun q => absurd q (by decide)) rfl ?_
  replace h := h _ rfl
  refine zn_ld rfl rfl rfl ?_
  refine zn_get (v := .ref 29) rfl (zv_R (a := 3) rfl rfl) ?_
  refine zn_ld rfl rfl rfl ?_
  refine zn_c [.int 1, .int a3, .ref 29] (xo_push (.int 1)) rfl rfl ?_
  replace h := h _ (i_add (x := a3) (y := 1) rfl (show (1 : Int32).toInt = 1 by decide))
  refine zn_c [.int (a3 + 1), .ref 29] xo_iadd rfl rfl ?_
  refine zn_add (a3 + 1) [] (a := 29) hd rfl rfl rfl rfl h.1 (fun q => absurd q (by decide)) rfl ?_
  replace h := h.2
  replace h := h _ rfl
  refine zn_ld rfl rfl rfl ?_
  refine zn_get (v := .ref 29) rfl (zv_R (a := 3) rfl rfl) ?_
  refine zn_ld rfl rfl rfl ?_
  refine zn_add a4 [] (a := 29) hd rfl rfl rfl rfl h.1 (fun q => absurd q (by decide)) rfl ?_
  replace h := h.2
  replace h := h _ rfl
  refine zn_ld rfl rfl rfl ?_
  refine zn_get (v := .ref 29) rfl (zv_R (a := 3) rfl rfl) ?_
  refine zn_ld rfl rfl rfl ?_
  refine zn_add a5 [] (a := 29) hd rfl rfl rfl rfl h.1 (fun q => absurd q (by decide)) rfl ?_
  replace h := h.2
  replace h := h _ rfl
  refine zn_ld rfl rfl rfl ?_
  refine zn_get (v := .ref 29) rfl (zv_R (a := 3) rfl rfl) ?_
  refine zn_ld rfl rfl rfl ?_
  refine zn_ld rfl rfl rfl ?_
  refine zn_c [.int 1, .int a5, .ref 3, .ref 29] (xo_push (.int 1)) rfl rfl ?_
  refine zn_zt [.ref 3, .int a5, .int 1] [.ref 29] (c := []) rfl rfl rfl rfl rfl (Zt.imp (zp_41 hd (Or.inl rfl)) (fun vq sq hq => ?_))
  obtain ⟨rfl, hq⟩ := hq
  rw [hq]
  change Zn _ _ _ _ _ _ _ _ _ _ _ [.int (zg (za (za (za (za (za (za s3 29 a1) 29 a2) 29 (-1)) 29 (a3 + 1)) 29 a4) 29 a5) 31 (a5 * 5 + 1)), .ref 29] _ _
  refine zn_add (zg (za (za (za (za (za (za s3 29 a1) 29 a2) 29 (-1)) 29 (a3 + 1)) 29 a4) 29 a5) 31 (a5 * 5 + 1)) [] (a := 29) hd rfl rfl rfl rfl h.1 (fun q => absurd q (by decide)) rfl ?_
  replace h := h.2
  replace h := h _ rfl
  refine zn_ld rfl rfl rfl ?_
  refine zn_get (v := .ref 29) rfl (zv_R (a := 3) rfl rfl) ?_
  refine zn_ld rfl rfl rfl ?_
  refine zn_add a6 [] (a := 29) hd rfl rfl rfl rfl h.1 (fun q => absurd q (by decide)) rfl ?_
  replace h := h.2
  replace h := h _ rfl
  refine zn_ld rfl rfl rfl ?_
  refine zn_get (v := .ref 29) rfl (zv_R (a := 3) rfl rfl) ?_
  refine zn_c [.int (-1), .ref 29] (xo_push (.int (-1))) rfl rfl ?_
  refine zn_add (-1) [] (a := 29) hd rfl rfl rfl rfl (by decide) (fun q => absurd q (by decide)) rfl ?_
  replace h := h _ rfl
  refine zn_ld rfl rfl rfl ?_
  refine zn_get (v := .ref 29) rfl (zv_R (a := 3) rfl rfl) ?_
  refine zn_c [.int (-1), .ref 29] (xo_push (.int (-1))) rfl rfl ?_
  refine zn_add (-1) [] (a := 29) hd rfl rfl rfl rfl (by decide) (fun q => absurd q (by decide)) rfl ?_
  replace h := h _ rfl
  exact zn_ret0 rfl h
theorem zq_57_3 {d : Nat} {a1 : Int32} {a2 : Int32} {a3 : Int32} {a4 : Int32} {a5 : Int32} {a6 : Int32} {s : zS} {Q : Option Value → zS → Prop} (h : v_57_0 (fun j => Zt (d + 8) (wd 3 j) j) 3 a1 a2 a3 a4 a5 a6 s Q) : Zt (d + 9) ([] : zW) 57 [.ref 3, .int a1, .int a2, .int a3, .int a4, .int a5, .int a6] s Q := zt_of (E := xE_57) (L := xL_4) (ml := 7) (ret := none) rfl rfl rfl (m_57_0_3 rfl h)
set_option maxRecDepth 20000 in
theorem m_57_0_39 {d d0 : Nat} (hd : d = d0 + 8)  {a1 : Int32} {a2 : Int32} {a3 : Int32} {a4 : Int32} {a5 : Int32} {a6 : Int32} {s : zS} {Q : Option Value → zS → Prop}  (h : v_57_0 (fun j => Zt d (wd 39 j) j) 39  a1 a2 a3 a4 a5 a6 s Q) : Zn d [] [(39, 99), (39, 98)] ([] : zW) ([] : zW) xL_4 7 (none) xE_57 (xE_57.drop 0) [.ref 39, .int a1, .int a2, .int a3, .int a4, .int a5, .int a6, .null, .null, .null, .null, .null, .null, .null] [] s Q := by
  unfold v_57_0 at h
  dsimp only [Nat.reduceAdd] at h
  refine zn_ld rfl rfl rfl ?_
  refine zn_c [.int (-1), .ref 39] (xo_push (.int (-1))) rfl rfl ?_
  refine zn_ld rfl rfl rfl ?_
  refine zn_zt [.ref 39] [.int (-1), .ref 39] (c := []) rfl rfl rfl rfl rfl (Zt.imp (zp_45 hd (Or.inr rfl)) (fun vq sq hq => ?_))
  obtain ⟨rfl, hq⟩ := hq
  rw [hq]
  change Zn _ _ _ _ _ _ _ _ _ _ _ [.int (s.1 65 2 / 10), .int (-1), .ref 39] _ _
  replace h := h _ (i_sub (x := (-1)) (y := s.1 65 2 / 10) (show ((-1) : Int32).toInt = (-1) by decide) rfl)
  refine zn_c [.int ((-1) - (s.1 65 2 / 10)), .ref 39] xo_isub rfl rfl ?_
  refine zn_ld rfl rfl rfl ?_
  refine zn_zt [.ref 39, .int ((-1) - (s.1 65 2 / 10)), .int a3] [] rfl rfl rfl rfl rfl (Zt.imp h (fun v2 s3 h => ?_))
  obtain ⟨rfl, h⟩ := h
  change Zn _ _ _ _ _ _ _ _ _ _ _ [] _ _
  refine zn_ld rfl rfl rfl ?_
  refine zn_get (v := .ref 65) rfl (zv_R (a := 39) rfl rfl) ?_
  refine zn_ld rfl rfl rfl ?_
  refine zn_add a1 [] (a := 65) hd rfl rfl rfl rfl h.1 (fun q => absurd q (by decide)) rfl ?_
  replace h := h.2
  replace h := h _ rfl
  refine zn_ld rfl rfl rfl ?_
  refine zn_get (v := .ref 65) rfl (zv_R (a := 39) rfl rfl) ?_
  refine zn_ld rfl rfl rfl ?_
  refine zn_add a2 [] (a := 65) hd rfl rfl rfl rfl h.1 (fun q => absurd q (by decide)) rfl ?_
  replace h := h.2
  replace h := h _ rfl
  refine zn_ld rfl rfl rfl ?_
  refine zn_get (v := .ref 65) rfl (zv_R (a := 39) rfl rfl) ?_
  refine zn_c [.int (-1), .ref 65] (xo_push (.int (-1))) rfl rfl ?_
  refine zn_add (-1) [] (a := 65) hd rfl rfl rfl rfl (by decide) (fun q => absurd q (by decide)) rfl ?_
  replace h := h _ rfl
  refine zn_ld rfl rfl rfl ?_
  refine zn_get (v := .ref 65) rfl (zv_R (a := 39) rfl rfl) ?_
  refine zn_ld rfl rfl rfl ?_
  refine zn_c [.int 1, .int a3, .ref 65] (xo_push (.int 1)) rfl rfl ?_
  replace h := h _ (i_add (x := a3) (y := 1) rfl (show (1 : Int32).toInt = 1 by decide))
  refine zn_c [.int (a3 + 1), .ref 65] xo_iadd rfl rfl ?_
  refine zn_add (a3 + 1) [] (a := 65) hd rfl rfl rfl rfl h.1 (fun q => absurd q (by decide)) rfl ?_
  replace h := h.2
  replace h := h _ rfl
  refine zn_ld rfl rfl rfl ?_
  refine zn_get (v := .ref 65) rfl (zv_R (a := 39) rfl rfl) ?_
  refine zn_ld rfl rfl rfl ?_
  refine zn_add a4 [] (a := 65) hd rfl rfl rfl rfl h.1 (fun q => absurd q (by decide)) rfl ?_
  replace h := h.2
  replace h := h _ rfl
  refine zn_ld rfl rfl rfl ?_
  refine zn_get (v := .ref 65) rfl (zv_R (a := 39) rfl rfl) ?_
  refine zn_ld rfl rfl rfl ?_
  refine zn_add a5 [] (a := 65) hd rfl rfl rfl rfl h.1 (fun q => absurd q (by decide)) rfl ?_
  replace h := h.2
  replace h := h _ rfl
  refine zn_ld rfl rfl rfl ?_
  refine zn_get (v := .ref 65) rfl (zv_R (a := 39) rfl rfl) ?_
  refine zn_ld rfl rfl rfl ?_
  refine zn_ld rfl rfl rfl ?_
  refine zn_c [.int 1, .int a5, .ref 39, .ref 65] (xo_push (.int 1)) rfl rfl ?_
  refine zn_zt [.ref 39, .int a5, .int 1] [.ref 65] (c := []) rfl rfl rfl rfl rfl (Zt.imp (zp_41 hd (Or.inr rfl)) (fun vq sq hq => ?_))
  obtain ⟨rfl, hq⟩ := hq
  rw [hq]
  change Zn _ _ _ _ _ _ _ _ _ _ _ [.int (zg (za (za (za (za (za (za s3 65 a1) 65 a2) 65 (-1)) 65 (a3 + 1)) 65 a4) 65 a5) 67 (a5 * 5 + 1)), .ref 65] _ _
  refine zn_add (zg (za (za (za (za (za (za s3 65 a1) 65 a2) 65 (-1)) 65 (a3 + 1)) 65 a4) 65 a5) 67 (a5 * 5 + 1)) [] (a := 65) hd rfl rfl rfl rfl h.1 (fun q => absurd q (by decide)) rfl ?_
  replace h := h.2
  replace h := h _ rfl
  refine zn_ld rfl rfl rfl ?_
  refine zn_get (v := .ref 65) rfl (zv_R (a := 39) rfl rfl) ?_
  refine zn_ld rfl rfl rfl ?_
  refine zn_add a6 [] (a := 65) hd rfl rfl rfl rfl h.1 (fun q => absurd q (by decide)) rfl ?_
  replace h := h.2
  replace h := h _ rfl
  refine zn_ld rfl rfl rfl ?_
  refine zn_get (v := .ref 65) rfl (zv_R (a := 39) rfl rfl) ?_
  refine zn_c [.int (-1), .ref 65] (xo_push (.int (-1))) rfl rfl ?_
  refine zn_add (-1) [] (a := 65) hd rfl rfl rfl rfl (by decide) (fun q => absurd q (by decide)) rfl ?_
  replace h := h _ rfl
  refine zn_ld rfl rfl rfl ?_
  refine zn_get (v := .ref 65) rfl (zv_R (a := 39) rfl rfl) ?_
  refine zn_c [.int (-1), .ref 65] (xo_push (.int (-1))) rfl rfl ?_
  refine zn_add (-1) [] (a := 65) hd rfl rfl rfl rfl (by decide) (fun q => absurd q (by decide)) rfl ?_
  replace h := h _ rfl
  exact zn_ret0 rfl h
theorem zq_57_39 {d : Nat} {a1 : Int32} {a2 : Int32} {a3 : Int32} {a4 : Int32} {a5 : Int32} {a6 : Int32} {s : zS} {Q : Option Value → zS → Prop} (h : v_57_0 (fun j => Zt (d + 8) (wd 39 j) j) 39 a1 a2 a3 a4 a5 a6 s Q) : Zt (d + 9) ([] : zW) 57 [.ref 39, .int a1, .int a2, .int a3, .int a4, .int a5, .int a6] s Q := zt_of (E := xE_57) (L := xL_4) (ml := 7) (ret := none) rfl rfl rfl (m_57_0_39 rfl h)
theorem zc_57 {d P : Nat} (hP : P = 3 ∨ P = 39) {a1 : Int32} {a2 : Int32} {a3 : Int32} {a4 : Int32} {a5 : Int32} {a6 : Int32} {s : zS} {Q : Option Value → zS → Prop} (h : v_57_0 (fun j => Zt (d + 8) (wd P j) j) P a1 a2 a3 a4 a5 a6 s Q) : Zt (d + 9) (wd P 57) 57 [.ref P, .int a1, .int a2, .int a3, .int a4, .int a5, .int a6] s Q := by
  rcases hP with rfl | rfl
  · exact zq_57_3 h
  · exact zq_57_39 h
/-! FeatherBench$Program.addCode -/
def v_59_0 (T : Nat → List Value → zS → (Option Value → zS → Prop) → Prop) (P : Nat)  (a1 : Int32) (a2 : Int32) (a3 : Int32) (a4 : Int32) (a5 : Int32) (a6 : Int32) (s : zS) (Q : Option Value → zS → Prop) : Prop :=
  (-1000 ≤ a1.toInt ∧ a1.toInt ≤ 100000) ∧ (∀ s1, s1 = za s (P + 34) a1 → (-1000 ≤ a2.toInt ∧ a2.toInt ≤ 100000) ∧ (∀ s2, s2 = za s1 (P + 34) a2 → (-1000 ≤ a3.toInt ∧ a3.toInt ≤ 100000) ∧ (∀ s3, s3 = za s2 (P + 34) a3 → (-1000 ≤ a4.toInt ∧ a4.toInt ≤ 100000) ∧ (∀ s4, s4 = za s3 (P + 34) a4 → (-1000 ≤ a5.toInt ∧ a5.toInt ≤ 100000) ∧ (∀ s5, s5 = za s4 (P + 34) a5 → (-1000 ≤ a6.toInt ∧ a6.toInt ≤ 100000) ∧ (∀ s6, s6 = za s5 (P + 34) a6 → Q none s6))))))
set_option maxRecDepth 20000 in
theorem m_59_0_3 {d d0 : Nat} (hd : d = d0 + 8)  {a1 : Int32} {a2 : Int32} {a3 : Int32} {a4 : Int32} {a5 : Int32} {a6 : Int32} {s : zS} {Q : Option Value → zS → Prop}  (h : v_59_0 (fun j => Zt d (wd 3 j) j) 3  a1 a2 a3 a4 a5 a6 s Q) : Zn d [] [(3, 99), (3, 98)] ([] : zW) ([] : zW) xL_4 7 (none) xE_59 (xE_59.drop 0) [.ref 3, .int a1, .int a2, .int a3, .int a4, .int a5, .int a6, .null, .null, .null, .null, .null, .null, .null] [] s Q := by
  unfold v_59_0 at h
  dsimp only [Nat.reduceAdd] at h
  refine zn_ld rfl rfl rfl ?_
  refine zn_get (v := .ref 37) rfl (zv_R (a := 3) rfl rfl) ?_
  refine zn_ld rfl rfl rfl ?_
  refine zn_addC a1 [] (a := 37) hd rfl rfl rfl rfl rfl rfl h.1 rfl rfl ?_
  replace h := h.2
  replace h := h _ rfl
  refine zn_ld rfl rfl rfl ?_
  refine zn_get (v := .ref 37) rfl (zv_R (a := 3) rfl rfl) ?_
  refine zn_ld rfl rfl rfl ?_
  refine zn_addC a2 [] (a := 37) hd rfl rfl rfl rfl rfl rfl h.1 rfl rfl ?_
  replace h := h.2
  replace h := h _ rfl
  refine zn_ld rfl rfl rfl ?_
  refine zn_get (v := .ref 37) rfl (zv_R (a := 3) rfl rfl) ?_
  refine zn_ld rfl rfl rfl ?_
  refine zn_addC a3 [] (a := 37) hd rfl rfl rfl rfl rfl rfl h.1 rfl rfl ?_
  replace h := h.2
  replace h := h _ rfl
  refine zn_ld rfl rfl rfl ?_
  refine zn_get (v := .ref 37) rfl (zv_R (a := 3) rfl rfl) ?_
  refine zn_ld rfl rfl rfl ?_
  refine zn_addC a4 [] (a := 37) hd rfl rfl rfl rfl rfl rfl h.1 rfl rfl ?_
  replace h := h.2
  replace h := h _ rfl
  refine zn_ld rfl rfl rfl ?_
  refine zn_get (v := .ref 37) rfl (zv_R (a := 3) rfl rfl) ?_
  refine zn_ld rfl rfl rfl ?_
  refine zn_addC a5 [] (a := 37) hd rfl rfl rfl rfl rfl rfl h.1 rfl rfl ?_
  replace h := h.2
  replace h := h _ rfl
  refine zn_ld rfl rfl rfl ?_
  refine zn_get (v := .ref 37) rfl (zv_R (a := 3) rfl rfl) ?_
  refine zn_ld rfl rfl rfl ?_
  refine zn_addC a6 [] (a := 37) hd rfl rfl rfl rfl rfl rfl h.1 rfl rfl ?_
  replace h := h.2
  replace h := h _ rfl
  exact zn_ret0 rfl h
theorem zq_59_3 {d : Nat} {a1 : Int32} {a2 : Int32} {a3 : Int32} {a4 : Int32} {a5 : Int32} {a6 : Int32} {s : zS} {Q : Option Value → zS → Prop} (h : v_59_0 (fun j => Zt (d + 8) (wd 3 j) j) 3 a1 a2 a3 a4 a5 a6 s Q) : Zt (d + 9) ([] : zW) 59 [.ref 3, .int a1, .int a2, .int a3, .int a4, .int a5, .int a6] s Q := zt_of (E := xE_59) (L := xL_4) (ml := 7) (ret := none) rfl rfl rfl (m_59_0_3 rfl h)
set_option maxRecDepth 20000 in
theorem m_59_0_39 {d d0 : Nat} (hd : d = d0 + 8)  {a1 : Int32} {a2 : Int32} {a3 : Int32} {a4 : Int32} {a5 : Int32} {a6 : Int32} {s : zS} {Q : Option Value → zS → Prop}  (h : v_59_0 (fun j => Zt d (wd 39 j) j) 39  a1 a2 a3 a4 a5 a6 s Q) : Zn d [] [(39, 99), (39, 98)] ([] : zW) ([] : zW) xL_4 7 (none) xE_59 (xE_59.drop 0) [.ref 39, .int a1, .int a2, .int a3, .int a4, .int a5, .int a6, .null, .null, .null, .null, .null, .null, .null] [] s Q := by
  unfold v_59_0 at h
  dsimp only [Nat.reduceAdd] at h
  refine zn_ld rfl rfl rfl ?_
  refine zn_get (v := .ref 73) rfl (zv_R (a := 39) rfl rfl) ?_
  refine zn_ld rfl rfl rfl ?_
  refine zn_addC a1 [] (a := 73) hd rfl rfl rfl rfl rfl rfl h.1 rfl rfl ?_
  replace h := h.2
  replace h := h _ rfl
  refine zn_ld rfl rfl rfl ?_
  refine zn_get (v := .ref 73) rfl (zv_R (a := 39) rfl rfl) ?_
  refine zn_ld rfl rfl rfl ?_
  refine zn_addC a2 [] (a := 73) hd rfl rfl rfl rfl rfl rfl h.1 rfl rfl ?_
  replace h := h.2
  replace h := h _ rfl
  refine zn_ld rfl rfl rfl ?_
  refine zn_get (v := .ref 73) rfl (zv_R (a := 39) rfl rfl) ?_
  refine zn_ld rfl rfl rfl ?_
  refine zn_addC a3 [] (a := 73) hd rfl rfl rfl rfl rfl rfl h.1 rfl rfl ?_
  replace h := h.2
  replace h := h _ rfl
  refine zn_ld rfl rfl rfl ?_
  refine zn_get (v := .ref 73) rfl (zv_R (a := 39) rfl rfl) ?_
  refine zn_ld rfl rfl rfl ?_
  refine zn_addC a4 [] (a := 73) hd rfl rfl rfl rfl rfl rfl h.1 rfl rfl ?_
  replace h := h.2
  replace h := h _ rfl
  refine zn_ld rfl rfl rfl ?_
  refine zn_get (v := .ref 73) rfl (zv_R (a := 39) rfl rfl) ?_
  refine zn_ld rfl rfl rfl ?_
  refine zn_addC a5 [] (a := 73) hd rfl rfl rfl rfl rfl rfl h.1 rfl rfl ?_
  replace h := h.2
  replace h := h _ rfl
  refine zn_ld rfl rfl rfl ?_
  refine zn_get (v := .ref 73) rfl (zv_R (a := 39) rfl rfl) ?_
  refine zn_ld rfl rfl rfl ?_
  refine zn_addC a6 [] (a := 73) hd rfl rfl rfl rfl rfl rfl h.1 rfl rfl ?_
  replace h := h.2
  replace h := h _ rfl
  exact zn_ret0 rfl h
theorem zq_59_39 {d : Nat} {a1 : Int32} {a2 : Int32} {a3 : Int32} {a4 : Int32} {a5 : Int32} {a6 : Int32} {s : zS} {Q : Option Value → zS → Prop} (h : v_59_0 (fun j => Zt (d + 8) (wd 39 j) j) 39 a1 a2 a3 a4 a5 a6 s Q) : Zt (d + 9) ([] : zW) 59 [.ref 39, .int a1, .int a2, .int a3, .int a4, .int a5, .int a6] s Q := zt_of (E := xE_59) (L := xL_4) (ml := 7) (ret := none) rfl rfl rfl (m_59_0_39 rfl h)
theorem zc_59 {d P : Nat} (hP : P = 3 ∨ P = 39) {a1 : Int32} {a2 : Int32} {a3 : Int32} {a4 : Int32} {a5 : Int32} {a6 : Int32} {s : zS} {Q : Option Value → zS → Prop} (h : v_59_0 (fun j => Zt (d + 8) (wd P j) j) P a1 a2 a3 a4 a5 a6 s Q) : Zt (d + 9) (wd P 59) 59 [.ref P, .int a1, .int a2, .int a3, .int a4, .int a5, .int a6] s Q := by
  rcases hP with rfl | rfl
  · exact zq_59_3 h
  · exact zq_59_39 h
/-! FeatherBench$Program.blame -/
def v_38_16 (T : Nat → List Value → zS → (Option Value → zS → Prop) → Prop) (P : Nat)  (a1 : Int32) (a2 : Int32) (s : zS) (Q : Option Value → zS → Prop) : Prop :=
  Q none s
def v_38_0 (T : Nat → List Value → zS → (Option Value → zS → Prop) → Prop) (P : Nat)  (a1 : Int32) (a2 : Int32) (s : zS) (Q : Option Value → zS → Prop) : Prop :=
  (¬ ((s.1 P 14).toInt = 0) → v_38_16 T P  a1 a2 s Q) ∧ ((s.1 P 14).toInt = 0 → (a1.toInt = 0 → v_38_16 T P  a1 a2 s Q) ∧ (¬ (a1.toInt = 0) → ∀ x1 : Int32, (-2147483648 ≤ 16 * (zg s (P + 6) a2).toInt ∧ 16 * (zg s (P + 6) a2).toInt ≤ 2147483647 → x1.toInt = 16 * (zg s (P + 6) a2).toInt) → ∀ x2 : Int32, (-2147483648 ≤ a1.toInt + x1.toInt ∧ a1.toInt + x1.toInt ≤ 2147483647 → x2.toInt = a1.toInt + x1.toInt) → ∀ s3, s3 = zf s P 14 x2 → v_38_16 T P  a1 a2 s3 Q))
set_option maxRecDepth 20000 in
theorem m_38_16_3 {d d0 : Nat} (hd : d = d0 + 8)  {a1 : Int32} {a2 : Int32} {s : zS} {Q : Option Value → zS → Prop}  (h : v_38_16 (fun j => Zt d (wd 3 j) j) 3  a1 a2 s Q) : Zn d [] [(3, 98)] ([] : zW) ([] : zW) xL_4 3 (none) xE_38 (xE_38.drop 16) [.ref 3, .int a1, .int a2, .null, .null, .null] [] s Q := by
  unfold v_38_16 at h
  exact zn_ret0 rfl h
set_option maxRecDepth 20000 in
theorem m_38_0_3 {d d0 : Nat} (hd : d = d0 + 8)  {a1 : Int32} {a2 : Int32} {s : zS} {Q : Option Value → zS → Prop}  (h : v_38_0 (fun j => Zt d (wd 3 j) j) 3  a1 a2 s Q) : Zn d [] [(3, 98)] ([] : zW) ([] : zW) xL_4 3 (none) xE_38 (xE_38.drop 0) [.ref 3, .int a1, .int a2, .null, .null, .null] [] s Q := by
  unfold v_38_0 at h
  refine zn_ld rfl rfl rfl ?_
  refine zn_get (v := .int (s.1 3 14)) rfl (zv_I (a := 3) rfl rfl) ?_
  refine zn_brN rfl rfl ⟨fun hcn => ?_, fun hcn => ?_⟩
  · replace h := h.1 (fun q => hcn ((i_eq (x := s.1 3 14) (y := 0) rfl (show (0 : Int32).toInt = 0 by decide)).mpr q))
    exact m_38_16_3 hd  h
  · replace h := h.2 ((i_eq (x := s.1 3 14) (y := 0) rfl (show (0 : Int32).toInt = 0 by decide)).mp hcn)
    refine zn_ld rfl rfl rfl ?_
    refine zn_brP rfl rfl ⟨fun hcn => ?_, fun hcn => ?_⟩
    · replace h := h.1 ((i_eq (x := a1) (y := 0) rfl (show (0 : Int32).toInt = 0 by decide)).mp hcn)
      exact m_38_16_3 hd  h
    · replace h := h.2 (fun q => hcn ((i_eq (x := a1) (y := 0) rfl (show (0 : Int32).toInt = 0 by decide)).mpr q))
      refine zn_ld rfl rfl rfl ?_
      refine zn_ld rfl rfl rfl ?_
      refine zn_c [.int 16, .int a1, .ref 3] (xo_push (.int 16)) rfl rfl ?_
      refine zn_ld rfl rfl rfl ?_
      refine zn_get (v := .ref 4) rfl (zv_R (a := 3) rfl rfl) ?_
      refine zn_get (v := .ref 9) rfl (zv_R (a := 4) rfl rfl) ?_
      refine zn_ld rfl rfl rfl ?_
      refine zn_row a2 [.int 16, .int a1, .ref 3] (a := 9) hd rfl rfl rfl rfl ?_
      change Zn _ _ _ _ _ _ _ _ _ _ _ [.int (zg s 9 a2), .int 16, .int a1, .ref 3] _ _
      replace h := h _ (i_mul (x := 16) (y := zg s 9 a2) (show (16 : Int32).toInt = 16 by decide) rfl)
      refine zn_c [.int (16 * (zg s 9 a2)), .int a1, .ref 3] xo_imul rfl rfl ?_
      replace h := h _ (i_add (x := a1) (y := (16 * (zg s 9 a2))) rfl rfl)
      refine zn_c [.int (a1 + (16 * (zg s 9 a2))), .ref 3] xo_iadd rfl rfl ?_
      refine zn_putI (a := 3) rfl rfl rfl rfl ⟨Int32.le_toInt _, Int.le_of_lt_add_one (Int32.toInt_lt _)⟩ rfl rfl rfl ?_
      replace h := h _ rfl
      exact m_38_16_3 hd  h
theorem zq_38_3 {d : Nat} {a1 : Int32} {a2 : Int32} {s : zS} {Q : Option Value → zS → Prop} (h : v_38_0 (fun j => Zt (d + 8) (wd 3 j) j) 3 a1 a2 s Q) : Zt (d + 9) ([] : zW) 38 [.ref 3, .int a1, .int a2] s Q := zt_of (E := xE_38) (L := xL_4) (ml := 3) (ret := none) rfl rfl rfl (m_38_0_3 rfl h)
set_option maxRecDepth 20000 in
theorem m_38_16_39 {d d0 : Nat} (hd : d = d0 + 8)  {a1 : Int32} {a2 : Int32} {s : zS} {Q : Option Value → zS → Prop}  (h : v_38_16 (fun j => Zt d (wd 39 j) j) 39  a1 a2 s Q) : Zn d [] [(39, 98)] ([] : zW) ([] : zW) xL_4 3 (none) xE_38 (xE_38.drop 16) [.ref 39, .int a1, .int a2, .null, .null, .null] [] s Q := by
  unfold v_38_16 at h
  exact zn_ret0 rfl h
set_option maxRecDepth 20000 in
theorem m_38_0_39 {d d0 : Nat} (hd : d = d0 + 8)  {a1 : Int32} {a2 : Int32} {s : zS} {Q : Option Value → zS → Prop}  (h : v_38_0 (fun j => Zt d (wd 39 j) j) 39  a1 a2 s Q) : Zn d [] [(39, 98)] ([] : zW) ([] : zW) xL_4 3 (none) xE_38 (xE_38.drop 0) [.ref 39, .int a1, .int a2, .null, .null, .null] [] s Q := by
  unfold v_38_0 at h
  refine zn_ld rfl rfl rfl ?_
  refine zn_get (v := .int (s.1 39 14)) rfl (zv_I (a := 39) rfl rfl) ?_
  refine zn_brN rfl rfl ⟨fun hcn => ?_, fun hcn => ?_⟩
  · replace h := h.1 (fun q => hcn ((i_eq (x := s.1 39 14) (y := 0) rfl (show (0 : Int32).toInt = 0 by decide)).mpr q))
    exact m_38_16_39 hd  h
  · replace h := h.2 ((i_eq (x := s.1 39 14) (y := 0) rfl (show (0 : Int32).toInt = 0 by decide)).mp hcn)
    refine zn_ld rfl rfl rfl ?_
    refine zn_brP rfl rfl ⟨fun hcn => ?_, fun hcn => ?_⟩
    · replace h := h.1 ((i_eq (x := a1) (y := 0) rfl (show (0 : Int32).toInt = 0 by decide)).mp hcn)
      exact m_38_16_39 hd  h
    · replace h := h.2 (fun q => hcn ((i_eq (x := a1) (y := 0) rfl (show (0 : Int32).toInt = 0 by decide)).mpr q))
      refine zn_ld rfl rfl rfl ?_
      refine zn_ld rfl rfl rfl ?_
      refine zn_c [.int 16, .int a1, .ref 39] (xo_push (.int 16)) rfl rfl ?_
      refine zn_ld rfl rfl rfl ?_
      refine zn_get (v := .ref 40) rfl (zv_R (a := 39) rfl rfl) ?_
      refine zn_get (v := .ref 45) rfl (zv_R (a := 40) rfl rfl) ?_
      refine zn_ld rfl rfl rfl ?_
      refine zn_row a2 [.int 16, .int a1, .ref 39] (a := 45) hd rfl rfl rfl rfl ?_
      change Zn _ _ _ _ _ _ _ _ _ _ _ [.int (zg s 45 a2), .int 16, .int a1, .ref 39] _ _
      replace h := h _ (i_mul (x := 16) (y := zg s 45 a2) (show (16 : Int32).toInt = 16 by decide) rfl)
      refine zn_c [.int (16 * (zg s 45 a2)), .int a1, .ref 39] xo_imul rfl rfl ?_
      replace h := h _ (i_add (x := a1) (y := (16 * (zg s 45 a2))) rfl rfl)
      refine zn_c [.int (a1 + (16 * (zg s 45 a2))), .ref 39] xo_iadd rfl rfl ?_
      refine zn_putI (a := 39) rfl rfl rfl rfl ⟨Int32.le_toInt _, Int.le_of_lt_add_one (Int32.toInt_lt _)⟩ rfl rfl rfl ?_
      replace h := h _ rfl
      exact m_38_16_39 hd  h
theorem zq_38_39 {d : Nat} {a1 : Int32} {a2 : Int32} {s : zS} {Q : Option Value → zS → Prop} (h : v_38_0 (fun j => Zt (d + 8) (wd 39 j) j) 39 a1 a2 s Q) : Zt (d + 9) ([] : zW) 38 [.ref 39, .int a1, .int a2] s Q := zt_of (E := xE_38) (L := xL_4) (ml := 3) (ret := none) rfl rfl rfl (m_38_0_39 rfl h)
theorem zc_38 {d P : Nat} (hP : P = 3 ∨ P = 39) {a1 : Int32} {a2 : Int32} {s : zS} {Q : Option Value → zS → Prop} (h : v_38_0 (fun j => Zt (d + 8) (wd P j) j) P a1 a2 s Q) : Zt (d + 9) (wd P 38) 38 [.ref P, .int a1, .int a2] s Q := by
  rcases hP with rfl | rfl
  · exact zq_38_3 h
  · exact zq_38_39 h
