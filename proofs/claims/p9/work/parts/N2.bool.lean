/-! FeatherBench$Program.isStruct -/
def v_49_17 (T : Nat → List Value → zS → (Option Value → zS → Prop) → Prop) (P : Nat)  (a1 : Int32) (t0 : Int32) (s : zS) (Q : Option Value → zS → Prop) : Prop :=
  (t0.toInt = 0 ∨ t0.toInt = 1) ∧ Q (some (.int t0)) s
def v_49_16 (T : Nat → List Value → zS → (Option Value → zS → Prop) → Prop) (P : Nat)  (a1 : Int32) (s : zS) (Q : Option Value → zS → Prop) : Prop :=
  v_49_17 T P  a1 0 s Q
def v_49_0 (T : Nat → List Value → zS → (Option Value → zS → Prop) → Prop) (P : Nat)  (a1 : Int32) (s : zS) (Q : Option Value → zS → Prop) : Prop :=
  ((s.1 (P + 24) 2 / 6).toInt ≤ a1.toInt → v_49_16 T P  a1 s Q) ∧ (¬ ((s.1 (P + 24) 2 / 6).toInt ≤ a1.toInt) → (¬ ((zg s (P + 24) ((a1 * 6) + 1)).toInt = 4) → v_49_16 T P  a1 s Q) ∧ ((zg s (P + 24) ((a1 * 6) + 1)).toInt = 4 → v_49_17 T P  a1 1 s Q))
set_option maxRecDepth 20000 in
theorem m_49_17_3 {d d0 : Nat} (hd : d = d0 + 6)  {a1 : Int32} {t0 : Int32} {s : zS} {Q : Option Value → zS → Prop}  (h : v_49_17 (fun j => Zt d (wd 3 j) j) 3  a1 t0 s Q) : Zn d [] [] ([] : zW) ([] : zW) xL_4 2 (some .boolean) xE_49 (xE_49.drop 17) [.ref 3, .int a1, .null, .null] [.int t0] s Q := by
  unfold v_49_17 at h
  exact zn_retZ rfl (i_z (x := t0) rfl h.1) h.2
set_option maxRecDepth 20000 in
theorem m_49_16_3 {d d0 : Nat} (hd : d = d0 + 6)  {a1 : Int32} {s : zS} {Q : Option Value → zS → Prop}  (h : v_49_16 (fun j => Zt d (wd 3 j) j) 3  a1 s Q) : Zn d [] [] ([] : zW) ([] : zW) xL_4 2 (some .boolean) xE_49 (xE_49.drop 16) [.ref 3, .int a1, .null, .null] [] s Q := by
  unfold v_49_16 at h
  refine zn_c [.int 0] (xo_push (.int 0)) rfl rfl ?_
  exact m_49_17_3 hd  h
set_option maxRecDepth 20000 in
theorem m_49_0_3 {d d0 : Nat} (hd : d = d0 + 6)  {a1 : Int32} {s : zS} {Q : Option Value → zS → Prop}  (h : v_49_0 (fun j => Zt d (wd 3 j) j) 3  a1 s Q) : Zn d [] [] ([] : zW) ([] : zW) xL_4 2 (some .boolean) xE_49 (xE_49.drop 0) [.ref 3, .int a1, .null, .null] [] s Q := by
  unfold v_49_0 at h
  refine zn_ld rfl rfl rfl ?_
  refine zn_ld rfl rfl rfl ?_
  refine zn_zt [.ref 3] [.int a1] (c := []) rfl rfl rfl rfl rfl (Zt.imp (zp_44 hd (Or.inl rfl)) (fun vq sq hq => ?_))
  obtain ⟨rfl, hq⟩ := hq
  rw [hq]
  change Zn _ _ _ _ _ _ _ _ _ _ _ [.int (s.1 27 2 / 6), .int a1] _ _
  refine zn_brP rfl rfl ⟨fun hcn => ?_, fun hcn => ?_⟩
  · replace h := h.1 ((i_le (x := s.1 27 2 / 6) (y := a1) rfl rfl).mp hcn)
    exact m_49_16_3 hd  h
  · replace h := h.2 (fun q => hcn ((i_le (x := s.1 27 2 / 6) (y := a1) rfl rfl).mpr q))
    refine zn_ld rfl rfl rfl ?_
    refine zn_get (v := .ref 27) rfl (zv_R (a := 3) rfl rfl) ?_
    refine zn_ld rfl rfl rfl ?_
    refine zn_c [.int 6, .int a1, .ref 27] (xo_push (.int 6)) rfl rfl ?_
    refine zn_c [.int (a1 * 6), .ref 27] xo_imul rfl rfl ?_
    refine zn_c [.int 1, .int (a1 * 6), .ref 27] (xo_push (.int 1)) rfl rfl ?_
    refine zn_c [.int ((a1 * 6) + 1), .ref 27] xo_iadd rfl rfl ?_
    refine zn_row ((a1 * 6) + 1) [] (a := 27) hd rfl rfl rfl rfl ?_
    change Zn _ _ _ _ _ _ _ _ _ _ _ [.int (zg s 27 ((a1 * 6) + 1))] _ _
    refine zn_c [.int 4, .int (zg s 27 ((a1 * 6) + 1))] (xo_push (.int 4)) rfl rfl ?_
    refine zn_brN rfl rfl ⟨fun hcn => ?_, fun hcn => ?_⟩
    · replace h := h.1 (fun q => hcn ((i_eq (x := zg s 27 ((a1 * 6) + 1)) (y := 4) rfl (show (4 : Int32).toInt = 4 by decide)).mpr q))
      exact m_49_16_3 hd  h
    · replace h := h.2 ((i_eq (x := zg s 27 ((a1 * 6) + 1)) (y := 4) rfl (show (4 : Int32).toInt = 4 by decide)).mp hcn)
      refine zn_c [.int 1] (xo_push (.int 1)) rfl rfl ?_
      refine zn_go rfl ?_
      exact m_49_17_3 hd  h
theorem zq_49_3 {d : Nat} {a1 : Int32} {s : zS} {Q : Option Value → zS → Prop} (h : v_49_0 (fun j => Zt (d + 6) (wd 3 j) j) 3 a1 s Q) : Zt (d + 7) ([] : zW) 49 [.ref 3, .int a1] s Q := zt_of (E := xE_49) (L := xL_4) (ml := 2) (ret := some .boolean) rfl rfl rfl (m_49_0_3 rfl h)
set_option maxRecDepth 20000 in
theorem m_49_17_39 {d d0 : Nat} (hd : d = d0 + 6)  {a1 : Int32} {t0 : Int32} {s : zS} {Q : Option Value → zS → Prop}  (h : v_49_17 (fun j => Zt d (wd 39 j) j) 39  a1 t0 s Q) : Zn d [] [] ([] : zW) ([] : zW) xL_4 2 (some .boolean) xE_49 (xE_49.drop 17) [.ref 39, .int a1, .null, .null] [.int t0] s Q := by
  unfold v_49_17 at h
  exact zn_retZ rfl (i_z (x := t0) rfl h.1) h.2
set_option maxRecDepth 20000 in
theorem m_49_16_39 {d d0 : Nat} (hd : d = d0 + 6)  {a1 : Int32} {s : zS} {Q : Option Value → zS → Prop}  (h : v_49_16 (fun j => Zt d (wd 39 j) j) 39  a1 s Q) : Zn d [] [] ([] : zW) ([] : zW) xL_4 2 (some .boolean) xE_49 (xE_49.drop 16) [.ref 39, .int a1, .null, .null] [] s Q := by
  unfold v_49_16 at h
  refine zn_c [.int 0] (xo_push (.int 0)) rfl rfl ?_
  exact m_49_17_39 hd  h
set_option maxRecDepth 20000 in
theorem m_49_0_39 {d d0 : Nat} (hd : d = d0 + 6)  {a1 : Int32} {s : zS} {Q : Option Value → zS → Prop}  (h : v_49_0 (fun j => Zt d (wd 39 j) j) 39  a1 s Q) : Zn d [] [] ([] : zW) ([] : zW) xL_4 2 (some .boolean) xE_49 (xE_49.drop 0) [.ref 39, .int a1, .null, .null] [] s Q := by
  unfold v_49_0 at h
  refine zn_ld rfl rfl rfl ?_
  refine zn_ld rfl rfl rfl ?_
  refine zn_zt [.ref 39] [.int a1] (c := []) rfl rfl rfl rfl rfl (Zt.imp (zp_44 hd (Or.inr rfl)) (fun vq sq hq => ?_))
  obtain ⟨rfl, hq⟩ := hq
  rw [hq]
  change Zn _ _ _ _ _ _ _ _ _ _ _ [.int (s.1 63 2 / 6), .int a1] _ _
  refine zn_brP rfl rfl ⟨fun hcn => ?_, fun hcn => ?_⟩
  · replace h := h.1 ((i_le (x := s.1 63 2 / 6) (y := a1) rfl rfl).mp hcn)
    exact m_49_16_39 hd  h
  · replace h := h.2 (fun q => hcn ((i_le (x := s.1 63 2 / 6) (y := a1) rfl rfl).mpr q))
    refine zn_ld rfl rfl rfl ?_
    refine zn_get (v := .ref 63) rfl (zv_R (a := 39) rfl rfl) ?_
    refine zn_ld rfl rfl rfl ?_
    refine zn_c [.int 6, .int a1, .ref 63] (xo_push (.int 6)) rfl rfl ?_
    refine zn_c [.int (a1 * 6), .ref 63] xo_imul rfl rfl ?_
    refine zn_c [.int 1, .int (a1 * 6), .ref 63] (xo_push (.int 1)) rfl rfl ?_
    refine zn_c [.int ((a1 * 6) + 1), .ref 63] xo_iadd rfl rfl ?_
    refine zn_row ((a1 * 6) + 1) [] (a := 63) hd rfl rfl rfl rfl ?_
    change Zn _ _ _ _ _ _ _ _ _ _ _ [.int (zg s 63 ((a1 * 6) + 1))] _ _
    refine zn_c [.int 4, .int (zg s 63 ((a1 * 6) + 1))] (xo_push (.int 4)) rfl rfl ?_
    refine zn_brN rfl rfl ⟨fun hcn => ?_, fun hcn => ?_⟩
    · replace h := h.1 (fun q => hcn ((i_eq (x := zg s 63 ((a1 * 6) + 1)) (y := 4) rfl (show (4 : Int32).toInt = 4 by decide)).mpr q))
      exact m_49_16_39 hd  h
    · replace h := h.2 ((i_eq (x := zg s 63 ((a1 * 6) + 1)) (y := 4) rfl (show (4 : Int32).toInt = 4 by decide)).mp hcn)
      refine zn_c [.int 1] (xo_push (.int 1)) rfl rfl ?_
      refine zn_go rfl ?_
      exact m_49_17_39 hd  h
theorem zq_49_39 {d : Nat} {a1 : Int32} {s : zS} {Q : Option Value → zS → Prop} (h : v_49_0 (fun j => Zt (d + 6) (wd 39 j) j) 39 a1 s Q) : Zt (d + 7) ([] : zW) 49 [.ref 39, .int a1] s Q := zt_of (E := xE_49) (L := xL_4) (ml := 2) (ret := some .boolean) rfl rfl rfl (m_49_0_39 rfl h)
theorem zc_49 {d P : Nat} (hP : P = 3 ∨ P = 39) {a1 : Int32} {s : zS} {Q : Option Value → zS → Prop} (h : v_49_0 (fun j => Zt (d + 6) (wd P j) j) P a1 s Q) : Zt (d + 7) (wd P 49) 49 [.ref P, .int a1] s Q := by
  rcases hP with rfl | rfl
  · exact zq_49_3 h
  · exact zq_49_39 h
/-! FeatherBench$Program.isInterface -/
def v_50_17 (T : Nat → List Value → zS → (Option Value → zS → Prop) → Prop) (P : Nat)  (a1 : Int32) (t0 : Int32) (s : zS) (Q : Option Value → zS → Prop) : Prop :=
  (t0.toInt = 0 ∨ t0.toInt = 1) ∧ Q (some (.int t0)) s
def v_50_16 (T : Nat → List Value → zS → (Option Value → zS → Prop) → Prop) (P : Nat)  (a1 : Int32) (s : zS) (Q : Option Value → zS → Prop) : Prop :=
  v_50_17 T P  a1 0 s Q
def v_50_0 (T : Nat → List Value → zS → (Option Value → zS → Prop) → Prop) (P : Nat)  (a1 : Int32) (s : zS) (Q : Option Value → zS → Prop) : Prop :=
  ((s.1 (P + 24) 2 / 6).toInt ≤ a1.toInt → v_50_16 T P  a1 s Q) ∧ (¬ ((s.1 (P + 24) 2 / 6).toInt ≤ a1.toInt) → (¬ ((zg s (P + 24) ((a1 * 6) + 1)).toInt = 5) → v_50_16 T P  a1 s Q) ∧ ((zg s (P + 24) ((a1 * 6) + 1)).toInt = 5 → v_50_17 T P  a1 1 s Q))
set_option maxRecDepth 20000 in
theorem m_50_17_3 {d d0 : Nat} (hd : d = d0 + 6)  {a1 : Int32} {t0 : Int32} {s : zS} {Q : Option Value → zS → Prop}  (h : v_50_17 (fun j => Zt d (wd 3 j) j) 3  a1 t0 s Q) : Zn d [] [] ([] : zW) ([] : zW) xL_4 2 (some .boolean) xE_50 (xE_50.drop 17) [.ref 3, .int a1, .null, .null] [.int t0] s Q := by
  unfold v_50_17 at h
  exact zn_retZ rfl (i_z (x := t0) rfl h.1) h.2
set_option maxRecDepth 20000 in
theorem m_50_16_3 {d d0 : Nat} (hd : d = d0 + 6)  {a1 : Int32} {s : zS} {Q : Option Value → zS → Prop}  (h : v_50_16 (fun j => Zt d (wd 3 j) j) 3  a1 s Q) : Zn d [] [] ([] : zW) ([] : zW) xL_4 2 (some .boolean) xE_50 (xE_50.drop 16) [.ref 3, .int a1, .null, .null] [] s Q := by
  unfold v_50_16 at h
  refine zn_c [.int 0] (xo_push (.int 0)) rfl rfl ?_
  exact m_50_17_3 hd  h
set_option maxRecDepth 20000 in
theorem m_50_0_3 {d d0 : Nat} (hd : d = d0 + 6)  {a1 : Int32} {s : zS} {Q : Option Value → zS → Prop}  (h : v_50_0 (fun j => Zt d (wd 3 j) j) 3  a1 s Q) : Zn d [] [] ([] : zW) ([] : zW) xL_4 2 (some .boolean) xE_50 (xE_50.drop 0) [.ref 3, .int a1, .null, .null] [] s Q := by
  unfold v_50_0 at h
  refine zn_ld rfl rfl rfl ?_
  refine zn_ld rfl rfl rfl ?_
  refine zn_zt [.ref 3] [.int a1] (c := []) rfl rfl rfl rfl rfl (Zt.imp (zp_44 hd (Or.inl rfl)) (fun vq sq hq => ?_))
  obtain ⟨rfl, hq⟩ := hq
  rw [hq]
  change Zn _ _ _ _ _ _ _ _ _ _ _ [.int (s.1 27 2 / 6), .int a1] _ _
  refine zn_brP rfl rfl ⟨fun hcn => ?_, fun hcn => ?_⟩
  · replace h := h.1 ((i_le (x := s.1 27 2 / 6) (y := a1) rfl rfl).mp hcn)
    exact m_50_16_3 hd  h
  · replace h := h.2 (fun q => hcn ((i_le (x := s.1 27 2 / 6) (y := a1) rfl rfl).mpr q))
    refine zn_ld rfl rfl rfl ?_
    refine zn_get (v := .ref 27) rfl (zv_R (a := 3) rfl rfl) ?_
    refine zn_ld rfl rfl rfl ?_
    refine zn_c [.int 6, .int a1, .ref 27] (xo_push (.int 6)) rfl rfl ?_
    refine zn_c [.int (a1 * 6), .ref 27] xo_imul rfl rfl ?_
    refine zn_c [.int 1, .int (a1 * 6), .ref 27] (xo_push (.int 1)) rfl rfl ?_
    refine zn_c [.int ((a1 * 6) + 1), .ref 27] xo_iadd rfl rfl ?_
    refine zn_row ((a1 * 6) + 1) [] (a := 27) hd rfl rfl rfl rfl ?_
    change Zn _ _ _ _ _ _ _ _ _ _ _ [.int (zg s 27 ((a1 * 6) + 1))] _ _
    refine zn_c [.int 5, .int (zg s 27 ((a1 * 6) + 1))] (xo_push (.int 5)) rfl rfl ?_
    refine zn_brN rfl rfl ⟨fun hcn => ?_, fun hcn => ?_⟩
    · replace h := h.1 (fun q => hcn ((i_eq (x := zg s 27 ((a1 * 6) + 1)) (y := 5) rfl (show (5 : Int32).toInt = 5 by decide)).mpr q))
      exact m_50_16_3 hd  h
    · replace h := h.2 ((i_eq (x := zg s 27 ((a1 * 6) + 1)) (y := 5) rfl (show (5 : Int32).toInt = 5 by decide)).mp hcn)
      refine zn_c [.int 1] (xo_push (.int 1)) rfl rfl ?_
      refine zn_go rfl ?_
      exact m_50_17_3 hd  h
theorem zq_50_3 {d : Nat} {a1 : Int32} {s : zS} {Q : Option Value → zS → Prop} (h : v_50_0 (fun j => Zt (d + 6) (wd 3 j) j) 3 a1 s Q) : Zt (d + 7) ([] : zW) 50 [.ref 3, .int a1] s Q := zt_of (E := xE_50) (L := xL_4) (ml := 2) (ret := some .boolean) rfl rfl rfl (m_50_0_3 rfl h)
set_option maxRecDepth 20000 in
theorem m_50_17_39 {d d0 : Nat} (hd : d = d0 + 6)  {a1 : Int32} {t0 : Int32} {s : zS} {Q : Option Value → zS → Prop}  (h : v_50_17 (fun j => Zt d (wd 39 j) j) 39  a1 t0 s Q) : Zn d [] [] ([] : zW) ([] : zW) xL_4 2 (some .boolean) xE_50 (xE_50.drop 17) [.ref 39, .int a1, .null, .null] [.int t0] s Q := by
  unfold v_50_17 at h
  exact zn_retZ rfl (i_z (x := t0) rfl h.1) h.2
set_option maxRecDepth 20000 in
theorem m_50_16_39 {d d0 : Nat} (hd : d = d0 + 6)  {a1 : Int32} {s : zS} {Q : Option Value → zS → Prop}  (h : v_50_16 (fun j => Zt d (wd 39 j) j) 39  a1 s Q) : Zn d [] [] ([] : zW) ([] : zW) xL_4 2 (some .boolean) xE_50 (xE_50.drop 16) [.ref 39, .int a1, .null, .null] [] s Q := by
  unfold v_50_16 at h
  refine zn_c [.int 0] (xo_push (.int 0)) rfl rfl ?_
  exact m_50_17_39 hd  h
set_option maxRecDepth 20000 in
theorem m_50_0_39 {d d0 : Nat} (hd : d = d0 + 6)  {a1 : Int32} {s : zS} {Q : Option Value → zS → Prop}  (h : v_50_0 (fun j => Zt d (wd 39 j) j) 39  a1 s Q) : Zn d [] [] ([] : zW) ([] : zW) xL_4 2 (some .boolean) xE_50 (xE_50.drop 0) [.ref 39, .int a1, .null, .null] [] s Q := by
  unfold v_50_0 at h
  refine zn_ld rfl rfl rfl ?_
  refine zn_ld rfl rfl rfl ?_
  refine zn_zt [.ref 39] [.int a1] (c := []) rfl rfl rfl rfl rfl (Zt.imp (zp_44 hd (Or.inr rfl)) (fun vq sq hq => ?_))
  obtain ⟨rfl, hq⟩ := hq
  rw [hq]
  change Zn _ _ _ _ _ _ _ _ _ _ _ [.int (s.1 63 2 / 6), .int a1] _ _
  refine zn_brP rfl rfl ⟨fun hcn => ?_, fun hcn => ?_⟩
  · replace h := h.1 ((i_le (x := s.1 63 2 / 6) (y := a1) rfl rfl).mp hcn)
    exact m_50_16_39 hd  h
  · replace h := h.2 (fun q => hcn ((i_le (x := s.1 63 2 / 6) (y := a1) rfl rfl).mpr q))
    refine zn_ld rfl rfl rfl ?_
    refine zn_get (v := .ref 63) rfl (zv_R (a := 39) rfl rfl) ?_
    refine zn_ld rfl rfl rfl ?_
    refine zn_c [.int 6, .int a1, .ref 63] (xo_push (.int 6)) rfl rfl ?_
    refine zn_c [.int (a1 * 6), .ref 63] xo_imul rfl rfl ?_
    refine zn_c [.int 1, .int (a1 * 6), .ref 63] (xo_push (.int 1)) rfl rfl ?_
    refine zn_c [.int ((a1 * 6) + 1), .ref 63] xo_iadd rfl rfl ?_
    refine zn_row ((a1 * 6) + 1) [] (a := 63) hd rfl rfl rfl rfl ?_
    change Zn _ _ _ _ _ _ _ _ _ _ _ [.int (zg s 63 ((a1 * 6) + 1))] _ _
    refine zn_c [.int 5, .int (zg s 63 ((a1 * 6) + 1))] (xo_push (.int 5)) rfl rfl ?_
    refine zn_brN rfl rfl ⟨fun hcn => ?_, fun hcn => ?_⟩
    · replace h := h.1 (fun q => hcn ((i_eq (x := zg s 63 ((a1 * 6) + 1)) (y := 5) rfl (show (5 : Int32).toInt = 5 by decide)).mpr q))
      exact m_50_16_39 hd  h
    · replace h := h.2 ((i_eq (x := zg s 63 ((a1 * 6) + 1)) (y := 5) rfl (show (5 : Int32).toInt = 5 by decide)).mp hcn)
      refine zn_c [.int 1] (xo_push (.int 1)) rfl rfl ?_
      refine zn_go rfl ?_
      exact m_50_17_39 hd  h
theorem zq_50_39 {d : Nat} {a1 : Int32} {s : zS} {Q : Option Value → zS → Prop} (h : v_50_0 (fun j => Zt (d + 6) (wd 39 j) j) 39 a1 s Q) : Zt (d + 7) ([] : zW) 50 [.ref 39, .int a1] s Q := zt_of (E := xE_50) (L := xL_4) (ml := 2) (ret := some .boolean) rfl rfl rfl (m_50_0_39 rfl h)
theorem zc_50 {d P : Nat} (hP : P = 3 ∨ P = 39) {a1 : Int32} {s : zS} {Q : Option Value → zS → Prop} (h : v_50_0 (fun j => Zt (d + 6) (wd P j) j) P a1 s Q) : Zt (d + 7) (wd P 50) 50 [.ref P, .int a1] s Q := by
  rcases hP with rfl | rfl
  · exact zq_50_3 h
  · exact zq_50_39 h
/-! FeatherBench$Text.isLetter -/
def v_117_15 (T : Nat → List Value → zS → (Option Value → zS → Prop) → Prop) (P : Nat)  (a0 : Int32) (t0 : Int32) (s : zS) (Q : Option Value → zS → Prop) : Prop :=
  (t0.toInt = 0 ∨ t0.toInt = 1) ∧ Q (some (.int t0)) s
def v_117_14 (T : Nat → List Value → zS → (Option Value → zS → Prop) → Prop) (P : Nat)  (a0 : Int32) (s : zS) (Q : Option Value → zS → Prop) : Prop :=
  v_117_15 T P  a0 0 s Q
def v_117_12 (T : Nat → List Value → zS → (Option Value → zS → Prop) → Prop) (P : Nat)  (a0 : Int32) (s : zS) (Q : Option Value → zS → Prop) : Prop :=
  v_117_15 T P  a0 1 s Q
def v_117_6 (T : Nat → List Value → zS → (Option Value → zS → Prop) → Prop) (P : Nat)  (a0 : Int32) (s : zS) (Q : Option Value → zS → Prop) : Prop :=
  (a0.toInt < 65 → v_117_14 T P  a0 s Q) ∧ (¬ (a0.toInt < 65) → (90 < a0.toInt → v_117_14 T P  a0 s Q) ∧ (¬ (90 < a0.toInt) → v_117_12 T P  a0 s Q))
def v_117_0 (T : Nat → List Value → zS → (Option Value → zS → Prop) → Prop) (P : Nat)  (a0 : Int32) (s : zS) (Q : Option Value → zS → Prop) : Prop :=
  (a0.toInt < 97 → v_117_6 T P  a0 s Q) ∧ (¬ (a0.toInt < 97) → (a0.toInt ≤ 122 → v_117_12 T P  a0 s Q) ∧ (¬ (a0.toInt ≤ 122) → v_117_6 T P  a0 s Q))
set_option maxRecDepth 20000 in
theorem m_117_15_3 {d d0 : Nat} (hd : d = d0 + 6)  {a0 : Int32} {t0 : Int32} {s : zS} {Q : Option Value → zS → Prop}  (h : v_117_15 (fun j => Zt d (wd 3 j) j) 3  a0 t0 s Q) : Zn d [] [] ([] : zW) ([] : zW) xL_9 1 (some .boolean) xE_117 (xE_117.drop 15) [.int a0, .null] [.int t0] s Q := by
  unfold v_117_15 at h
  exact zn_retZ rfl (i_z (x := t0) rfl h.1) h.2
set_option maxRecDepth 20000 in
theorem m_117_14_3 {d d0 : Nat} (hd : d = d0 + 6)  {a0 : Int32} {s : zS} {Q : Option Value → zS → Prop}  (h : v_117_14 (fun j => Zt d (wd 3 j) j) 3  a0 s Q) : Zn d [] [] ([] : zW) ([] : zW) xL_9 1 (some .boolean) xE_117 (xE_117.drop 14) [.int a0, .null] [] s Q := by
  unfold v_117_14 at h
  refine zn_c [.int 0] (xo_push (.int 0)) rfl rfl ?_
  exact m_117_15_3 hd  h
set_option maxRecDepth 20000 in
theorem m_117_12_3 {d d0 : Nat} (hd : d = d0 + 6)  {a0 : Int32} {s : zS} {Q : Option Value → zS → Prop}  (h : v_117_12 (fun j => Zt d (wd 3 j) j) 3  a0 s Q) : Zn d [] [] ([] : zW) ([] : zW) xL_9 1 (some .boolean) xE_117 (xE_117.drop 12) [.int a0, .null] [] s Q := by
  unfold v_117_12 at h
  refine zn_c [.int 1] (xo_push (.int 1)) rfl rfl ?_
  refine zn_go rfl ?_
  exact m_117_15_3 hd  h
set_option maxRecDepth 20000 in
theorem m_117_6_3 {d d0 : Nat} (hd : d = d0 + 6)  {a0 : Int32} {s : zS} {Q : Option Value → zS → Prop}  (h : v_117_6 (fun j => Zt d (wd 3 j) j) 3  a0 s Q) : Zn d [] [] ([] : zW) ([] : zW) xL_9 1 (some .boolean) xE_117 (xE_117.drop 6) [.int a0, .null] [] s Q := by
  unfold v_117_6 at h
  refine zn_ld rfl rfl rfl ?_
  refine zn_c [.int 65, .int a0] (xo_push (.int 65)) rfl rfl ?_
  refine zn_brP rfl rfl ⟨fun hcn => ?_, fun hcn => ?_⟩
  · replace h := h.1 ((i_lt (x := a0) (y := 65) rfl (show (65 : Int32).toInt = 65 by decide)).mp hcn)
    exact m_117_14_3 hd  h
  · replace h := h.2 (fun q => hcn ((i_lt (x := a0) (y := 65) rfl (show (65 : Int32).toInt = 65 by decide)).mpr q))
    refine zn_ld rfl rfl rfl ?_
    refine zn_c [.int 90, .int a0] (xo_push (.int 90)) rfl rfl ?_
    refine zn_brP rfl rfl ⟨fun hcn => ?_, fun hcn => ?_⟩
    · replace h := h.1 ((i_lt (x := 90) (y := a0) (show (90 : Int32).toInt = 90 by decide) rfl).mp hcn)
      exact m_117_14_3 hd  h
    · replace h := h.2 (fun q => hcn ((i_lt (x := 90) (y := a0) (show (90 : Int32).toInt = 90 by decide) rfl).mpr q))
      exact m_117_12_3 hd  h
set_option maxRecDepth 20000 in
theorem m_117_0_3 {d d0 : Nat} (hd : d = d0 + 6)  {a0 : Int32} {s : zS} {Q : Option Value → zS → Prop}  (h : v_117_0 (fun j => Zt d (wd 3 j) j) 3  a0 s Q) : Zn d [] [] ([] : zW) ([] : zW) xL_9 1 (some .boolean) xE_117 (xE_117.drop 0) [.int a0, .null] [] s Q := by
  unfold v_117_0 at h
  refine zn_ld rfl rfl rfl ?_
  refine zn_c [.int 97, .int a0] (xo_push (.int 97)) rfl rfl ?_
  refine zn_brP rfl rfl ⟨fun hcn => ?_, fun hcn => ?_⟩
  · replace h := h.1 ((i_lt (x := a0) (y := 97) rfl (show (97 : Int32).toInt = 97 by decide)).mp hcn)
    exact m_117_6_3 hd  h
  · replace h := h.2 (fun q => hcn ((i_lt (x := a0) (y := 97) rfl (show (97 : Int32).toInt = 97 by decide)).mpr q))
    refine zn_ld rfl rfl rfl ?_
    refine zn_c [.int 122, .int a0] (xo_push (.int 122)) rfl rfl ?_
    refine zn_brP rfl rfl ⟨fun hcn => ?_, fun hcn => ?_⟩
    · replace h := h.1 ((i_le (x := a0) (y := 122) rfl (show (122 : Int32).toInt = 122 by decide)).mp hcn)
      exact m_117_12_3 hd  h
    · replace h := h.2 (fun q => hcn ((i_le (x := a0) (y := 122) rfl (show (122 : Int32).toInt = 122 by decide)).mpr q))
      exact m_117_6_3 hd  h
theorem zq_117_3 {d : Nat} {a0 : Int32} {s : zS} {Q : Option Value → zS → Prop} (h : v_117_0 (fun j => Zt (d + 6) (wd 3 j) j) 3 a0 s Q) : Zt (d + 7) ([] : zW) 117 [.int a0] s Q := zt_of (E := xE_117) (L := xL_9) (ml := 1) (ret := some .boolean) rfl rfl rfl (m_117_0_3 rfl h)
set_option maxRecDepth 20000 in
theorem m_117_15_39 {d d0 : Nat} (hd : d = d0 + 6)  {a0 : Int32} {t0 : Int32} {s : zS} {Q : Option Value → zS → Prop}  (h : v_117_15 (fun j => Zt d (wd 39 j) j) 39  a0 t0 s Q) : Zn d [] [] ([] : zW) ([] : zW) xL_9 1 (some .boolean) xE_117 (xE_117.drop 15) [.int a0, .null] [.int t0] s Q := by
  unfold v_117_15 at h
  exact zn_retZ rfl (i_z (x := t0) rfl h.1) h.2
set_option maxRecDepth 20000 in
theorem m_117_14_39 {d d0 : Nat} (hd : d = d0 + 6)  {a0 : Int32} {s : zS} {Q : Option Value → zS → Prop}  (h : v_117_14 (fun j => Zt d (wd 39 j) j) 39  a0 s Q) : Zn d [] [] ([] : zW) ([] : zW) xL_9 1 (some .boolean) xE_117 (xE_117.drop 14) [.int a0, .null] [] s Q := by
  unfold v_117_14 at h
  refine zn_c [.int 0] (xo_push (.int 0)) rfl rfl ?_
  exact m_117_15_39 hd  h
set_option maxRecDepth 20000 in
theorem m_117_12_39 {d d0 : Nat} (hd : d = d0 + 6)  {a0 : Int32} {s : zS} {Q : Option Value → zS → Prop}  (h : v_117_12 (fun j => Zt d (wd 39 j) j) 39  a0 s Q) : Zn d [] [] ([] : zW) ([] : zW) xL_9 1 (some .boolean) xE_117 (xE_117.drop 12) [.int a0, .null] [] s Q := by
  unfold v_117_12 at h
  refine zn_c [.int 1] (xo_push (.int 1)) rfl rfl ?_
  refine zn_go rfl ?_
  exact m_117_15_39 hd  h
set_option maxRecDepth 20000 in
theorem m_117_6_39 {d d0 : Nat} (hd : d = d0 + 6)  {a0 : Int32} {s : zS} {Q : Option Value → zS → Prop}  (h : v_117_6 (fun j => Zt d (wd 39 j) j) 39  a0 s Q) : Zn d [] [] ([] : zW) ([] : zW) xL_9 1 (some .boolean) xE_117 (xE_117.drop 6) [.int a0, .null] [] s Q := by
  unfold v_117_6 at h
  refine zn_ld rfl rfl rfl ?_
  refine zn_c [.int 65, .int a0] (xo_push (.int 65)) rfl rfl ?_
  refine zn_brP rfl rfl ⟨fun hcn => ?_, fun hcn => ?_⟩
  · replace h := h.1 ((i_lt (x := a0) (y := 65) rfl (show (65 : Int32).toInt = 65 by decide)).mp hcn)
    exact m_117_14_39 hd  h
  · replace h := h.2 (fun q => hcn ((i_lt (x := a0) (y := 65) rfl (show (65 : Int32).toInt = 65 by decide)).mpr q))
    refine zn_ld rfl rfl rfl ?_
    refine zn_c [.int 90, .int a0] (xo_push (.int 90)) rfl rfl ?_
    refine zn_brP rfl rfl ⟨fun hcn => ?_, fun hcn => ?_⟩
    · replace h := h.1 ((i_lt (x := 90) (y := a0) (show (90 : Int32).toInt = 90 by decide) rfl).mp hcn)
      exact m_117_14_39 hd  h
    · replace h := h.2 (fun q => hcn ((i_lt (x := 90) (y := a0) (show (90 : Int32).toInt = 90 by decide) rfl).mpr q))
      exact m_117_12_39 hd  h
set_option maxRecDepth 20000 in
theorem m_117_0_39 {d d0 : Nat} (hd : d = d0 + 6)  {a0 : Int32} {s : zS} {Q : Option Value → zS → Prop}  (h : v_117_0 (fun j => Zt d (wd 39 j) j) 39  a0 s Q) : Zn d [] [] ([] : zW) ([] : zW) xL_9 1 (some .boolean) xE_117 (xE_117.drop 0) [.int a0, .null] [] s Q := by
  unfold v_117_0 at h
  refine zn_ld rfl rfl rfl ?_
  refine zn_c [.int 97, .int a0] (xo_push (.int 97)) rfl rfl ?_
  refine zn_brP rfl rfl ⟨fun hcn => ?_, fun hcn => ?_⟩
  · replace h := h.1 ((i_lt (x := a0) (y := 97) rfl (show (97 : Int32).toInt = 97 by decide)).mp hcn)
    exact m_117_6_39 hd  h
  · replace h := h.2 (fun q => hcn ((i_lt (x := a0) (y := 97) rfl (show (97 : Int32).toInt = 97 by decide)).mpr q))
    refine zn_ld rfl rfl rfl ?_
    refine zn_c [.int 122, .int a0] (xo_push (.int 122)) rfl rfl ?_
    refine zn_brP rfl rfl ⟨fun hcn => ?_, fun hcn => ?_⟩
    · replace h := h.1 ((i_le (x := a0) (y := 122) rfl (show (122 : Int32).toInt = 122 by decide)).mp hcn)
      exact m_117_12_39 hd  h
    · replace h := h.2 (fun q => hcn ((i_le (x := a0) (y := 122) rfl (show (122 : Int32).toInt = 122 by decide)).mpr q))
      exact m_117_6_39 hd  h
theorem zq_117_39 {d : Nat} {a0 : Int32} {s : zS} {Q : Option Value → zS → Prop} (h : v_117_0 (fun j => Zt (d + 6) (wd 39 j) j) 39 a0 s Q) : Zt (d + 7) ([] : zW) 117 [.int a0] s Q := zt_of (E := xE_117) (L := xL_9) (ml := 1) (ret := some .boolean) rfl rfl rfl (m_117_0_39 rfl h)
theorem zc_117 {d P : Nat} (hP : P = 3 ∨ P = 39) {a0 : Int32} {s : zS} {Q : Option Value → zS → Prop} (h : v_117_0 (fun j => Zt (d + 6) (wd P j) j) P a0 s Q) : Zt (d + 7) (wd P 117) 117 [.int a0] s Q := by
  rcases hP with rfl | rfl
  · exact zq_117_3 h
  · exact zq_117_39 h
/-! FeatherBench$Text.isDigit -/
def v_118_9 (T : Nat → List Value → zS → (Option Value → zS → Prop) → Prop) (P : Nat)  (a0 : Int32) (t0 : Int32) (s : zS) (Q : Option Value → zS → Prop) : Prop :=
  (t0.toInt = 0 ∨ t0.toInt = 1) ∧ Q (some (.int t0)) s
def v_118_8 (T : Nat → List Value → zS → (Option Value → zS → Prop) → Prop) (P : Nat)  (a0 : Int32) (s : zS) (Q : Option Value → zS → Prop) : Prop :=
  v_118_9 T P  a0 0 s Q
def v_118_0 (T : Nat → List Value → zS → (Option Value → zS → Prop) → Prop) (P : Nat)  (a0 : Int32) (s : zS) (Q : Option Value → zS → Prop) : Prop :=
  (a0.toInt < 48 → v_118_8 T P  a0 s Q) ∧ (¬ (a0.toInt < 48) → (57 < a0.toInt → v_118_8 T P  a0 s Q) ∧ (¬ (57 < a0.toInt) → v_118_9 T P  a0 1 s Q))
set_option maxRecDepth 20000 in
theorem m_118_9_3 {d d0 : Nat} (hd : d = d0 + 6)  {a0 : Int32} {t0 : Int32} {s : zS} {Q : Option Value → zS → Prop}  (h : v_118_9 (fun j => Zt d (wd 3 j) j) 3  a0 t0 s Q) : Zn d [] [] ([] : zW) ([] : zW) xL_9 1 (some .boolean) xE_118 (xE_118.drop 9) [.int a0, .null] [.int t0] s Q := by
  unfold v_118_9 at h
  exact zn_retZ rfl (i_z (x := t0) rfl h.1) h.2
set_option maxRecDepth 20000 in
theorem m_118_8_3 {d d0 : Nat} (hd : d = d0 + 6)  {a0 : Int32} {s : zS} {Q : Option Value → zS → Prop}  (h : v_118_8 (fun j => Zt d (wd 3 j) j) 3  a0 s Q) : Zn d [] [] ([] : zW) ([] : zW) xL_9 1 (some .boolean) xE_118 (xE_118.drop 8) [.int a0, .null] [] s Q := by
  unfold v_118_8 at h
  refine zn_c [.int 0] (xo_push (.int 0)) rfl rfl ?_
  exact m_118_9_3 hd  h
set_option maxRecDepth 20000 in
theorem m_118_0_3 {d d0 : Nat} (hd : d = d0 + 6)  {a0 : Int32} {s : zS} {Q : Option Value → zS → Prop}  (h : v_118_0 (fun j => Zt d (wd 3 j) j) 3  a0 s Q) : Zn d [] [] ([] : zW) ([] : zW) xL_9 1 (some .boolean) xE_118 (xE_118.drop 0) [.int a0, .null] [] s Q := by
  unfold v_118_0 at h
  refine zn_ld rfl rfl rfl ?_
  refine zn_c [.int 48, .int a0] (xo_push (.int 48)) rfl rfl ?_
  refine zn_brP rfl rfl ⟨fun hcn => ?_, fun hcn => ?_⟩
  · replace h := h.1 ((i_lt (x := a0) (y := 48) rfl (show (48 : Int32).toInt = 48 by decide)).mp hcn)
    exact m_118_8_3 hd  h
  · replace h := h.2 (fun q => hcn ((i_lt (x := a0) (y := 48) rfl (show (48 : Int32).toInt = 48 by decide)).mpr q))
    refine zn_ld rfl rfl rfl ?_
    refine zn_c [.int 57, .int a0] (xo_push (.int 57)) rfl rfl ?_
    refine zn_brP rfl rfl ⟨fun hcn => ?_, fun hcn => ?_⟩
    · replace h := h.1 ((i_lt (x := 57) (y := a0) (show (57 : Int32).toInt = 57 by decide) rfl).mp hcn)
      exact m_118_8_3 hd  h
    · replace h := h.2 (fun q => hcn ((i_lt (x := 57) (y := a0) (show (57 : Int32).toInt = 57 by decide) rfl).mpr q))
      refine zn_c [.int 1] (xo_push (.int 1)) rfl rfl ?_
      refine zn_go rfl ?_
      exact m_118_9_3 hd  h
theorem zq_118_3 {d : Nat} {a0 : Int32} {s : zS} {Q : Option Value → zS → Prop} (h : v_118_0 (fun j => Zt (d + 6) (wd 3 j) j) 3 a0 s Q) : Zt (d + 7) ([] : zW) 118 [.int a0] s Q := zt_of (E := xE_118) (L := xL_9) (ml := 1) (ret := some .boolean) rfl rfl rfl (m_118_0_3 rfl h)
set_option maxRecDepth 20000 in
theorem m_118_9_39 {d d0 : Nat} (hd : d = d0 + 6)  {a0 : Int32} {t0 : Int32} {s : zS} {Q : Option Value → zS → Prop}  (h : v_118_9 (fun j => Zt d (wd 39 j) j) 39  a0 t0 s Q) : Zn d [] [] ([] : zW) ([] : zW) xL_9 1 (some .boolean) xE_118 (xE_118.drop 9) [.int a0, .null] [.int t0] s Q := by
  unfold v_118_9 at h
  exact zn_retZ rfl (i_z (x := t0) rfl h.1) h.2
set_option maxRecDepth 20000 in
theorem m_118_8_39 {d d0 : Nat} (hd : d = d0 + 6)  {a0 : Int32} {s : zS} {Q : Option Value → zS → Prop}  (h : v_118_8 (fun j => Zt d (wd 39 j) j) 39  a0 s Q) : Zn d [] [] ([] : zW) ([] : zW) xL_9 1 (some .boolean) xE_118 (xE_118.drop 8) [.int a0, .null] [] s Q := by
  unfold v_118_8 at h
  refine zn_c [.int 0] (xo_push (.int 0)) rfl rfl ?_
  exact m_118_9_39 hd  h
set_option maxRecDepth 20000 in
theorem m_118_0_39 {d d0 : Nat} (hd : d = d0 + 6)  {a0 : Int32} {s : zS} {Q : Option Value → zS → Prop}  (h : v_118_0 (fun j => Zt d (wd 39 j) j) 39  a0 s Q) : Zn d [] [] ([] : zW) ([] : zW) xL_9 1 (some .boolean) xE_118 (xE_118.drop 0) [.int a0, .null] [] s Q := by
  unfold v_118_0 at h
  refine zn_ld rfl rfl rfl ?_
  refine zn_c [.int 48, .int a0] (xo_push (.int 48)) rfl rfl ?_
  refine zn_brP rfl rfl ⟨fun hcn => ?_, fun hcn => ?_⟩
  · replace h := h.1 ((i_lt (x := a0) (y := 48) rfl (show (48 : Int32).toInt = 48 by decide)).mp hcn)
    exact m_118_8_39 hd  h
  · replace h := h.2 (fun q => hcn ((i_lt (x := a0) (y := 48) rfl (show (48 : Int32).toInt = 48 by decide)).mpr q))
    refine zn_ld rfl rfl rfl ?_
    refine zn_c [.int 57, .int a0] (xo_push (.int 57)) rfl rfl ?_
    refine zn_brP rfl rfl ⟨fun hcn => ?_, fun hcn => ?_⟩
    · replace h := h.1 ((i_lt (x := 57) (y := a0) (show (57 : Int32).toInt = 57 by decide) rfl).mp hcn)
      exact m_118_8_39 hd  h
    · replace h := h.2 (fun q => hcn ((i_lt (x := 57) (y := a0) (show (57 : Int32).toInt = 57 by decide) rfl).mpr q))
      refine zn_c [.int 1] (xo_push (.int 1)) rfl rfl ?_
      refine zn_go rfl ?_
      exact m_118_9_39 hd  h
theorem zq_118_39 {d : Nat} {a0 : Int32} {s : zS} {Q : Option Value → zS → Prop} (h : v_118_0 (fun j => Zt (d + 6) (wd 39 j) j) 39 a0 s Q) : Zt (d + 7) ([] : zW) 118 [.int a0] s Q := zt_of (E := xE_118) (L := xL_9) (ml := 1) (ret := some .boolean) rfl rfl rfl (m_118_0_39 rfl h)
theorem zc_118 {d P : Nat} (hP : P = 3 ∨ P = 39) {a0 : Int32} {s : zS} {Q : Option Value → zS → Prop} (h : v_118_0 (fun j => Zt (d + 6) (wd P j) j) P a0 s Q) : Zt (d + 7) (wd P 118) 118 [.int a0] s Q := by
  rcases hP with rfl | rfl
  · exact zq_118_3 h
  · exact zq_118_39 h
/-! FeatherBench$Text.isSign -/
def v_119_0 (T : Nat → List Value → zS → (Option Value → zS → Prop) → Prop) (P : Nat)  (a0 : Int32) (s : zS) (Q : Option Value → zS → Prop) : Prop :=
  (¬ Int32.toInt a0 = 40 ∧ ¬ Int32.toInt a0 = 41 ∧ ¬ Int32.toInt a0 = 44 ∧ ¬ Int32.toInt a0 = 46 ∧ ¬ Int32.toInt a0 = 59 ∧ ¬ Int32.toInt a0 = 91 ∧ ¬ Int32.toInt a0 = 93 ∧ ¬ Int32.toInt a0 = 123 ∧ ¬ Int32.toInt a0 = 125 → Q (some (.int 0)) s) ∧ (Int32.toInt a0 = 40 → Q (some (.int 1)) s) ∧ (Int32.toInt a0 = 41 → Q (some (.int 1)) s) ∧ (Int32.toInt a0 = 44 → Q (some (.int 1)) s) ∧ (Int32.toInt a0 = 46 → Q (some (.int 1)) s) ∧ (Int32.toInt a0 = 59 → Q (some (.int 1)) s) ∧ (Int32.toInt a0 = 91 → Q (some (.int 1)) s) ∧ (Int32.toInt a0 = 93 → Q (some (.int 1)) s) ∧ (Int32.toInt a0 = 123 → Q (some (.int 1)) s) ∧ (Int32.toInt a0 = 125 → Q (some (.int 1)) s)
set_option maxRecDepth 20000 in
theorem m_119_0_3 {d d0 : Nat} (hd : d = d0 + 6)  {a0 : Int32} {s : zS} {Q : Option Value → zS → Prop}  (h : v_119_0 (fun j => Zt d (wd 3 j) j) 3  a0 s Q) : Zn d [] [] ([] : zW) ([] : zW) xL_9 1 (some .boolean) xE_119 (xE_119.drop 0) [.int a0, .null] [] s Q := by
  unfold v_119_0 at h
  refine zn_ld rfl rfl rfl ?_
  by_cases hx : Int32.toInt a0 = 40 ∨ Int32.toInt a0 = 41 ∨ Int32.toInt a0 = 44 ∨ Int32.toInt a0 = 46 ∨ Int32.toInt a0 = 59 ∨ Int32.toInt a0 = 91 ∨ Int32.toInt a0 = 93 ∨ Int32.toInt a0 = 123 ∨ Int32.toInt a0 = 125
  · rcases hx with hy | hy | hy | hy | hy | hy | hy | hy | hy
    · refine zn_ls rfl ?_
      refine ⟨2, by rw [hy]; rfl, ?_⟩
      replace h := h.2.1 hy
      refine zn_c [.int 1] (xo_push (.int 1)) rfl rfl ?_
      exact zn_retZ rfl rfl h
    · refine zn_ls rfl ?_
      refine ⟨2, by rw [hy]; rfl, ?_⟩
      replace h := h.2.2.1 hy
      refine zn_c [.int 1] (xo_push (.int 1)) rfl rfl ?_
      exact zn_retZ rfl rfl h
    · refine zn_ls rfl ?_
      refine ⟨2, by rw [hy]; rfl, ?_⟩
      replace h := h.2.2.2.1 hy
      refine zn_c [.int 1] (xo_push (.int 1)) rfl rfl ?_
      exact zn_retZ rfl rfl h
    · refine zn_ls rfl ?_
      refine ⟨2, by rw [hy]; rfl, ?_⟩
      replace h := h.2.2.2.2.1 hy
      refine zn_c [.int 1] (xo_push (.int 1)) rfl rfl ?_
      exact zn_retZ rfl rfl h
    · refine zn_ls rfl ?_
      refine ⟨2, by rw [hy]; rfl, ?_⟩
      replace h := h.2.2.2.2.2.1 hy
      refine zn_c [.int 1] (xo_push (.int 1)) rfl rfl ?_
      exact zn_retZ rfl rfl h
    · refine zn_ls rfl ?_
      refine ⟨2, by rw [hy]; rfl, ?_⟩
      replace h := h.2.2.2.2.2.2.1 hy
      refine zn_c [.int 1] (xo_push (.int 1)) rfl rfl ?_
      exact zn_retZ rfl rfl h
    · refine zn_ls rfl ?_
      refine ⟨2, by rw [hy]; rfl, ?_⟩
      replace h := h.2.2.2.2.2.2.2.1 hy
      refine zn_c [.int 1] (xo_push (.int 1)) rfl rfl ?_
      exact zn_retZ rfl rfl h
    · refine zn_ls rfl ?_
      refine ⟨2, by rw [hy]; rfl, ?_⟩
      replace h := h.2.2.2.2.2.2.2.2.1 hy
      refine zn_c [.int 1] (xo_push (.int 1)) rfl rfl ?_
      exact zn_retZ rfl rfl h
    · refine zn_ls rfl ?_
      refine ⟨2, by rw [hy]; rfl, ?_⟩
      replace h := h.2.2.2.2.2.2.2.2.2 hy
      refine zn_c [.int 1] (xo_push (.int 1)) rfl rfl ?_
      exact zn_retZ rfl rfl h
  · have hy : ¬ Int32.toInt a0 = 40 ∧ ¬ Int32.toInt a0 = 41 ∧ ¬ Int32.toInt a0 = 44 ∧ ¬ Int32.toInt a0 = 46 ∧ ¬ Int32.toInt a0 = 59 ∧ ¬ Int32.toInt a0 = 91 ∧ ¬ Int32.toInt a0 = 93 ∧ ¬ Int32.toInt a0 = 123 ∧ ¬ Int32.toInt a0 = 125 := by omega
    replace h := h.1 hy
    obtain ⟨g0, g1, g2, g3, g4, g5, g6, g7, g8⟩ := hy
    refine zn_ls rfl ?_
    refine ⟨4, by rw [ls_no (List.forall_mem_cons.mpr ⟨g0, List.forall_mem_cons.mpr ⟨g1, List.forall_mem_cons.mpr ⟨g2, List.forall_mem_cons.mpr ⟨g3, List.forall_mem_cons.mpr ⟨g4, List.forall_mem_cons.mpr ⟨g5, List.forall_mem_cons.mpr ⟨g6, List.forall_mem_cons.mpr ⟨g7, List.forall_mem_cons.mpr ⟨g8, fun _ h => absurd h List.not_mem_nil⟩⟩⟩⟩⟩⟩⟩⟩⟩)]; rfl, ?_⟩
    refine zn_c [.int 0] (xo_push (.int 0)) rfl rfl ?_
    exact zn_retZ rfl rfl h
theorem zq_119_3 {d : Nat} {a0 : Int32} {s : zS} {Q : Option Value → zS → Prop} (h : v_119_0 (fun j => Zt (d + 6) (wd 3 j) j) 3 a0 s Q) : Zt (d + 7) ([] : zW) 119 [.int a0] s Q := zt_of (E := xE_119) (L := xL_9) (ml := 1) (ret := some .boolean) rfl rfl rfl (m_119_0_3 rfl h)
set_option maxRecDepth 20000 in
theorem m_119_0_39 {d d0 : Nat} (hd : d = d0 + 6)  {a0 : Int32} {s : zS} {Q : Option Value → zS → Prop}  (h : v_119_0 (fun j => Zt d (wd 39 j) j) 39  a0 s Q) : Zn d [] [] ([] : zW) ([] : zW) xL_9 1 (some .boolean) xE_119 (xE_119.drop 0) [.int a0, .null] [] s Q := by
  unfold v_119_0 at h
  refine zn_ld rfl rfl rfl ?_
  by_cases hx : Int32.toInt a0 = 40 ∨ Int32.toInt a0 = 41 ∨ Int32.toInt a0 = 44 ∨ Int32.toInt a0 = 46 ∨ Int32.toInt a0 = 59 ∨ Int32.toInt a0 = 91 ∨ Int32.toInt a0 = 93 ∨ Int32.toInt a0 = 123 ∨ Int32.toInt a0 = 125
  · rcases hx with hy | hy | hy | hy | hy | hy | hy | hy | hy
    · refine zn_ls rfl ?_
      refine ⟨2, by rw [hy]; rfl, ?_⟩
      replace h := h.2.1 hy
      refine zn_c [.int 1] (xo_push (.int 1)) rfl rfl ?_
      exact zn_retZ rfl rfl h
    · refine zn_ls rfl ?_
      refine ⟨2, by rw [hy]; rfl, ?_⟩
      replace h := h.2.2.1 hy
      refine zn_c [.int 1] (xo_push (.int 1)) rfl rfl ?_
      exact zn_retZ rfl rfl h
    · refine zn_ls rfl ?_
      refine ⟨2, by rw [hy]; rfl, ?_⟩
      replace h := h.2.2.2.1 hy
      refine zn_c [.int 1] (xo_push (.int 1)) rfl rfl ?_
      exact zn_retZ rfl rfl h
    · refine zn_ls rfl ?_
      refine ⟨2, by rw [hy]; rfl, ?_⟩
      replace h := h.2.2.2.2.1 hy
      refine zn_c [.int 1] (xo_push (.int 1)) rfl rfl ?_
      exact zn_retZ rfl rfl h
    · refine zn_ls rfl ?_
      refine ⟨2, by rw [hy]; rfl, ?_⟩
      replace h := h.2.2.2.2.2.1 hy
      refine zn_c [.int 1] (xo_push (.int 1)) rfl rfl ?_
      exact zn_retZ rfl rfl h
    · refine zn_ls rfl ?_
      refine ⟨2, by rw [hy]; rfl, ?_⟩
      replace h := h.2.2.2.2.2.2.1 hy
      refine zn_c [.int 1] (xo_push (.int 1)) rfl rfl ?_
      exact zn_retZ rfl rfl h
    · refine zn_ls rfl ?_
      refine ⟨2, by rw [hy]; rfl, ?_⟩
      replace h := h.2.2.2.2.2.2.2.1 hy
      refine zn_c [.int 1] (xo_push (.int 1)) rfl rfl ?_
      exact zn_retZ rfl rfl h
    · refine zn_ls rfl ?_
      refine ⟨2, by rw [hy]; rfl, ?_⟩
      replace h := h.2.2.2.2.2.2.2.2.1 hy
      refine zn_c [.int 1] (xo_push (.int 1)) rfl rfl ?_
      exact zn_retZ rfl rfl h
    · refine zn_ls rfl ?_
      refine ⟨2, by rw [hy]; rfl, ?_⟩
      replace h := h.2.2.2.2.2.2.2.2.2 hy
      refine zn_c [.int 1] (xo_push (.int 1)) rfl rfl ?_
      exact zn_retZ rfl rfl h
  · have hy : ¬ Int32.toInt a0 = 40 ∧ ¬ Int32.toInt a0 = 41 ∧ ¬ Int32.toInt a0 = 44 ∧ ¬ Int32.toInt a0 = 46 ∧ ¬ Int32.toInt a0 = 59 ∧ ¬ Int32.toInt a0 = 91 ∧ ¬ Int32.toInt a0 = 93 ∧ ¬ Int32.toInt a0 = 123 ∧ ¬ Int32.toInt a0 = 125 := by omega
    replace h := h.1 hy
    obtain ⟨g0, g1, g2, g3, g4, g5, g6, g7, g8⟩ := hy
    refine zn_ls rfl ?_
    refine ⟨4, by rw [ls_no (List.forall_mem_cons.mpr ⟨g0, List.forall_mem_cons.mpr ⟨g1, List.forall_mem_cons.mpr ⟨g2, List.forall_mem_cons.mpr ⟨g3, List.forall_mem_cons.mpr ⟨g4, List.forall_mem_cons.mpr ⟨g5, List.forall_mem_cons.mpr ⟨g6, List.forall_mem_cons.mpr ⟨g7, List.forall_mem_cons.mpr ⟨g8, fun _ h => absurd h List.not_mem_nil⟩⟩⟩⟩⟩⟩⟩⟩⟩)]; rfl, ?_⟩
    refine zn_c [.int 0] (xo_push (.int 0)) rfl rfl ?_
    exact zn_retZ rfl rfl h
theorem zq_119_39 {d : Nat} {a0 : Int32} {s : zS} {Q : Option Value → zS → Prop} (h : v_119_0 (fun j => Zt (d + 6) (wd 39 j) j) 39 a0 s Q) : Zt (d + 7) ([] : zW) 119 [.int a0] s Q := zt_of (E := xE_119) (L := xL_9) (ml := 1) (ret := some .boolean) rfl rfl rfl (m_119_0_39 rfl h)
theorem zc_119 {d P : Nat} (hP : P = 3 ∨ P = 39) {a0 : Int32} {s : zS} {Q : Option Value → zS → Prop} (h : v_119_0 (fun j => Zt (d + 6) (wd P j) j) P a0 s Q) : Zt (d + 7) (wd P 119) 119 [.int a0] s Q := by
  rcases hP with rfl | rfl
  · exact zq_119_3 h
  · exact zq_119_39 h
/-! yes or no -/
def zStr (s : zS) (P : Nat) (x : Int32) : Int32 := if x.toInt < (s.1 (P + 24) 2 / 6).toInt ∧ (zg s (P + 24) (x * 6 + 1)).toInt = 4 then 1 else 0
def zInf (s : zS) (P : Nat) (x : Int32) : Int32 := if x.toInt < (s.1 (P + 24) 2 / 6).toInt ∧ (zg s (P + 24) (x * 6 + 1)).toInt = 5 then 1 else 0
def zLet (x : Int32) : Int32 := if (97 ≤ x.toInt ∧ x.toInt ≤ 122) ∨ (65 ≤ x.toInt ∧ x.toInt ≤ 90) then 1 else 0
def zDig (x : Int32) : Int32 := if 48 ≤ x.toInt ∧ x.toInt ≤ 57 then 1 else 0
def zSgn (x : Int32) : Int32 := if x.toInt = 40 ∨ x.toInt = 41 ∨ x.toInt = 44 ∨ x.toInt = 46 ∨ x.toInt = 59 ∨ x.toInt = 91 ∨ x.toInt = 93 ∨ x.toInt = 123 ∨ x.toInt = 125 then 1 else 0
theorem i1 : (1 : Int32).toInt = 1 := by decide
theorem zp_49 {d d0 : Nat} (hd : d = d0 + 7) {P : Nat} (hP : P = 3 ∨ P = 39) {a1 : Int32} {s : zS} : Zt d [] 49 [.ref P, .int a1] s (fun v s' => v = some (.int (zStr s P a1)) ∧ s' = s) := by
  subst hd
  have key : ∀ T, v_49_0 T P a1 s (fun v s' => v = some (.int (zStr s P a1)) ∧ s' = s) := by
    intro T
    simp only [v_49_0, v_49_16, v_49_17, i0, i1]
    refine ⟨fun h => ⟨Or.inl trivial, ?_, trivial⟩, fun h => ⟨fun h2 => ⟨Or.inl trivial, ?_, trivial⟩, fun h2 => ⟨Or.inr trivial, ?_, trivial⟩⟩⟩ <;> congr 2 <;> unfold zStr
    · rw [if_neg (by omega)]
    · rw [if_neg (fun w => h2 w.2)]
    · rw [if_pos ⟨by omega, h2⟩]
  rcases hP with rfl | rfl
  · exact zq_49_3 (key _)
  · exact zq_49_39 (key _)
theorem zp_50 {d d0 : Nat} (hd : d = d0 + 7) {P : Nat} (hP : P = 3 ∨ P = 39) {a1 : Int32} {s : zS} : Zt d [] 50 [.ref P, .int a1] s (fun v s' => v = some (.int (zInf s P a1)) ∧ s' = s) := by
  subst hd
  have key : ∀ T, v_50_0 T P a1 s (fun v s' => v = some (.int (zInf s P a1)) ∧ s' = s) := by
    intro T
    simp only [v_50_0, v_50_16, v_50_17, i0, i1]
    refine ⟨fun h => ⟨Or.inl trivial, ?_, trivial⟩, fun h => ⟨fun h2 => ⟨Or.inl trivial, ?_, trivial⟩, fun h2 => ⟨Or.inr trivial, ?_, trivial⟩⟩⟩ <;> congr 2 <;> unfold zInf
    · rw [if_neg (by omega)]
    · rw [if_neg (fun w => h2 w.2)]
    · rw [if_pos ⟨by omega, h2⟩]
  rcases hP with rfl | rfl
  · exact zq_50_3 (key _)
  · exact zq_50_39 (key _)
theorem zp_118 {d d0 : Nat} (hd : d = d0 + 7) {a0 : Int32} {s : zS} : Zt d [] 118 [.int a0] s (fun v s' => v = some (.int (zDig a0)) ∧ s' = s) := by
  subst hd
  refine zq_118_3 ?_
  unfold zDig
  simp only [v_118_0, v_118_8, v_118_9, i0, i1]
  grind
theorem zp_117 {d d0 : Nat} (hd : d = d0 + 7) {a0 : Int32} {s : zS} : Zt d [] 117 [.int a0] s (fun v s' => v = some (.int (zLet a0)) ∧ s' = s) := by
  subst hd
  refine zq_117_3 ?_
  unfold zLet
  simp only [v_117_0, v_117_6, v_117_12, v_117_14, v_117_15, i0, i1]
  grind
theorem zp_119 {d d0 : Nat} (hd : d = d0 + 7) {a0 : Int32} {s : zS} : Zt d [] 119 [.int a0] s (fun v s' => v = some (.int (zSgn a0)) ∧ s' = s) := by
  subst hd
  refine zq_119_3 ?_
  unfold zSgn
  simp only [v_119_0]
  refine ⟨fun h => ⟨by rw [if_neg (by omega)], trivial⟩, fun h => ⟨by rw [if_pos (by omega)], trivial⟩, fun h => ⟨by rw [if_pos (by omega)], trivial⟩, fun h => ⟨by rw [if_pos (by omega)], trivial⟩, fun h => ⟨by rw [if_pos (by omega)], trivial⟩, fun h => ⟨by rw [if_pos (by omega)], trivial⟩, fun h => ⟨by rw [if_pos (by omega)], trivial⟩, fun h => ⟨by rw [if_pos (by omega)], trivial⟩, fun h => ⟨by rw [if_pos (by omega)], trivial⟩, fun h => ⟨by rw [if_pos (by omega)], trivial⟩⟩
