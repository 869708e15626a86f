/-! FeatherBench$Reader.took -/
def v_72_23 (T : Nat → List Value → zS → (Option Value → zS → Prop) → Prop) (P : Nat)  (a1 : Int32) (a2 : Int32) (s : zS) (Q : Option Value → zS → Prop) : Prop :=
  (a2.toInt = 0 ∨ a2.toInt = 1) ∧ Q (some (.int a2)) s
def v_72_14 (T : Nat → List Value → zS → (Option Value → zS → Prop) → Prop) (P : Nat)  (a1 : Int32) (t0 : Int32) (s : zS) (Q : Option Value → zS → Prop) : Prop :=
  (t0.toInt = 0 → v_72_23 T P  a1 t0 s Q) ∧ (¬ (t0.toInt = 0) → ∀ x1 : Int32, (-2147483648 ≤ (s.1 82 3).toInt + 1 ∧ (s.1 82 3).toInt + 1 ≤ 2147483647 → x1.toInt = (s.1 82 3).toInt + 1) → (0 ≤ x1.toInt ∧ x1.toInt ≤ 5000) ∧ (∀ s2, s2 = zf s 82 3 x1 → v_72_23 T P  a1 t0 s2 Q))
def v_72_13 (T : Nat → List Value → zS → (Option Value → zS → Prop) → Prop) (P : Nat)  (a1 : Int32) (s : zS) (Q : Option Value → zS → Prop) : Prop :=
  v_72_14 T P  a1 0 s Q
def v_72_0 (T : Nat → List Value → zS → (Option Value → zS → Prop) → Prop) (P : Nat)  (a1 : Int32) (s : zS) (Q : Option Value → zS → Prop) : Prop :=
  (¬ ((s.1 P 14).toInt = 0) → v_72_13 T P  a1 s Q) ∧ ((s.1 P 14).toInt = 0 → (¬ ((zg s (P + 4) (s.1 82 3)).toInt = a1.toInt) → v_72_13 T P  a1 s Q) ∧ ((zg s (P + 4) (s.1 82 3)).toInt = a1.toInt → v_72_14 T P  a1 1 s Q))
set_option maxRecDepth 20000 in
theorem m_72_23_3 {d d0 : Nat} (hd : d = d0 + 8)  {a1 : Int32} {a2 : Int32} {s : zS} {Q : Option Value → zS → Prop}  (h : v_72_23 (fun j => Zt d (wd 3 j) j) 3  a1 a2 s Q) : Zn d [] [] ([(82, 0, 3), (82, 1, 4), (82, 2, 7)] : zW) ([(82, 0, 3), (82, 1, 4), (82, 2, 7)] : zW) xL_5 3 (some .boolean) xE_72 (xE_72.drop 23) [.ref 82, .int a1, .int a2, .null, .null] [] s Q := by
  unfold v_72_23 at h
  refine zn_ld rfl rfl rfl ?_
  exact zn_retZ rfl (i_z (x := a2) rfl h.1) h.2
set_option maxRecDepth 20000 in
theorem m_72_14_3 {d d0 : Nat} (hd : d = d0 + 8)  {a1 : Int32} {t0 : Int32} {s : zS} {Q : Option Value → zS → Prop}  (h : v_72_14 (fun j => Zt d (wd 3 j) j) 3  a1 t0 s Q) : Zn d [] [] ([(82, 0, 3), (82, 1, 4), (82, 2, 7)] : zW) ([(82, 0, 3), (82, 1, 4), (82, 2, 7)] : zW) xL_5 3 (some .boolean) xE_72 (xE_72.drop 14) [.ref 82, .int a1, .null, .null, .null] [.int t0] s Q := by
  unfold v_72_14 at h
  refine zn_st [.ref 82, .int a1, .int t0, .null, .null] rfl rfl rfl ?_
  refine zn_ld rfl rfl rfl ?_
  refine zn_brP rfl rfl ⟨fun hcn => ?_, fun hcn => ?_⟩
  · replace h := h.1 ((i_eq (x := t0) (y := 0) rfl (show (0 : Int32).toInt = 0 by decide)).mp hcn)
    exact m_72_23_3 hd  h
  · replace h := h.2 (fun q => hcn ((i_eq (x := t0) (y := 0) rfl (show (0 : Int32).toInt = 0 by decide)).mpr q))
    refine zn_ld rfl rfl rfl ?_
    refine zn_c [.ref 82, .ref 82] xo_dup rfl rfl ?_
    refine zn_get (v := .int (s.1 82 3)) rfl (zv_I (a := 82) rfl rfl) ?_
    refine zn_c [.int 1, .int (s.1 82 3), .ref 82] (xo_push (.int 1)) rfl rfl ?_
    replace h := h _ (i_add (x := s.1 82 3) (y := 1) rfl (show (1 : Int32).toInt = 1 by decide))
    refine zn_c [.int ((s.1 82 3) + 1), .ref 82] xo_iadd rfl rfl ?_
    refine zn_putI (a := 82) rfl rfl rfl rfl h.1 rfl rfl rfl ?_
    replace h := h.2
    replace h := h _ rfl
    exact m_72_23_3 hd  h
set_option maxRecDepth 20000 in
theorem m_72_13_3 {d d0 : Nat} (hd : d = d0 + 8)  {a1 : Int32} {s : zS} {Q : Option Value → zS → Prop}  (h : v_72_13 (fun j => Zt d (wd 3 j) j) 3  a1 s Q) : Zn d [] [] ([(82, 0, 3), (82, 1, 4), (82, 2, 7)] : zW) ([(82, 0, 3), (82, 1, 4), (82, 2, 7)] : zW) xL_5 3 (some .boolean) xE_72 (xE_72.drop 13) [.ref 82, .int a1, .null, .null, .null] [] s Q := by
  unfold v_72_13 at h
  refine zn_c [.int 0] (xo_push (.int 0)) rfl rfl ?_
  exact m_72_14_3 hd  h
set_option maxRecDepth 20000 in
theorem m_72_0_3 {d d0 : Nat} (hd : d = d0 + 8)  {a1 : Int32} {s : zS} {Q : Option Value → zS → Prop}  (h : v_72_0 (fun j => Zt d (wd 3 j) j) 3  a1 s Q) : Zn d [] [] ([(82, 0, 3), (82, 1, 4), (82, 2, 7)] : zW) ([(82, 0, 3), (82, 1, 4), (82, 2, 7)] : zW) xL_5 3 (some .boolean) xE_72 (xE_72.drop 0) [.ref 82, .int a1, .null, .null, .null] [] s Q := by
  unfold v_72_0 at h
  refine zn_ld rfl rfl rfl ?_
  refine zn_get (v := .ref 3) rfl (zv_C (a := 82) (n := 0) rfl rfl rfl) ?_
  refine zn_get (v := .int (s.1 3 14)) rfl (zv_I (a := 3) rfl rfl) ?_
  refine zn_brN rfl rfl ⟨fun hcn => ?_, fun hcn => ?_⟩
  · replace h := h.1 (fun q => hcn ((i_eq (x := s.1 3 14) (y := 0) rfl (show (0 : Int32).toInt = 0 by decide)).mpr q))
    exact m_72_13_3 hd  h
  · replace h := h.2 ((i_eq (x := s.1 3 14) (y := 0) rfl (show (0 : Int32).toInt = 0 by decide)).mp hcn)
    refine zn_ld rfl rfl rfl ?_
    refine zn_get (v := .ref 7) rfl (zv_C (a := 82) (n := 2) rfl rfl rfl) ?_
    refine zn_ld rfl rfl rfl ?_
    refine zn_get (v := .int (s.1 82 3)) rfl (zv_I (a := 82) rfl rfl) ?_
    refine zn_row (s.1 82 3) [] (a := 7) hd rfl rfl rfl rfl ?_
    change Zn _ _ _ _ _ _ _ _ _ _ _ [.int (zg s 7 (s.1 82 3))] _ _
    refine zn_ld rfl rfl rfl ?_
    refine zn_brN rfl rfl ⟨fun hcn => ?_, fun hcn => ?_⟩
    · replace h := h.1 (fun q => hcn ((i_eq (x := zg s 7 (s.1 82 3)) (y := a1) rfl rfl).mpr q))
      exact m_72_13_3 hd  h
    · replace h := h.2 ((i_eq (x := zg s 7 (s.1 82 3)) (y := a1) rfl rfl).mp hcn)
      refine zn_c [.int 1] (xo_push (.int 1)) rfl rfl ?_
      refine zn_go rfl ?_
      exact m_72_14_3 hd  h
theorem zq_72_3 {d : Nat} {a1 : Int32} {s : zS} {Q : Option Value → zS → Prop} (h : v_72_0 (fun j => Zt (d + 8) (wd 3 j) j) 3 a1 s Q) : Zt (d + 9) ([(82, 0, 3), (82, 1, 4), (82, 2, 7)] : zW) 72 [.ref 82, .int a1] s Q := zt_of (E := xE_72) (L := xL_5) (ml := 3) (ret := some .boolean) rfl rfl rfl (m_72_0_3 rfl h)
set_option maxRecDepth 20000 in
theorem m_72_23_39 {d d0 : Nat} (hd : d = d0 + 8)  {a1 : Int32} {a2 : Int32} {s : zS} {Q : Option Value → zS → Prop}  (h : v_72_23 (fun j => Zt d (wd 39 j) j) 39  a1 a2 s Q) : Zn d [] [] ([(82, 0, 39), (82, 1, 40), (82, 2, 43)] : zW) ([(82, 0, 39), (82, 1, 40), (82, 2, 43)] : zW) xL_5 3 (some .boolean) xE_72 (xE_72.drop 23) [.ref 82, .int a1, .int a2, .null, .null] [] s Q := by
  unfold v_72_23 at h
  refine zn_ld rfl rfl rfl ?_
  exact zn_retZ rfl (i_z (x := a2) rfl h.1) h.2
set_option maxRecDepth 20000 in
theorem m_72_14_39 {d d0 : Nat} (hd : d = d0 + 8)  {a1 : Int32} {t0 : Int32} {s : zS} {Q : Option Value → zS → Prop}  (h : v_72_14 (fun j => Zt d (wd 39 j) j) 39  a1 t0 s Q) : Zn d [] [] ([(82, 0, 39), (82, 1, 40), (82, 2, 43)] : zW) ([(82, 0, 39), (82, 1, 40), (82, 2, 43)] : zW) xL_5 3 (some .boolean) xE_72 (xE_72.drop 14) [.ref 82, .int a1, .null, .null, .null] [.int t0] s Q := by
  unfold v_72_14 at h
  refine zn_st [.ref 82, .int a1, .int t0, .null, .null] rfl rfl rfl ?_
  refine zn_ld rfl rfl rfl ?_
  refine zn_brP rfl rfl ⟨fun hcn => ?_, fun hcn => ?_⟩
  · replace h := h.1 ((i_eq (x := t0) (y := 0) rfl (show (0 : Int32).toInt = 0 by decide)).mp hcn)
    exact m_72_23_39 hd  h
  · replace h := h.2 (fun q => hcn ((i_eq (x := t0) (y := 0) rfl (show (0 : Int32).toInt = 0 by decide)).mpr q))
    refine zn_ld rfl rfl rfl ?_
    refine zn_c [.ref 82, .ref 82] xo_dup rfl rfl ?_
    refine zn_get (v := .int (s.1 82 3)) rfl (zv_I (a := 82) rfl rfl) ?_
    refine zn_c [.int 1, .int (s.1 82 3), .ref 82] (xo_push (.int 1)) rfl rfl ?_
    replace h := h _ (i_add (x := s.1 82 3) (y := 1) rfl (show (1 : Int32).toInt = 1 by decide))
    refine zn_c [.int ((s.1 82 3) + 1), .ref 82] xo_iadd rfl rfl ?_
    refine zn_putI (a := 82) rfl rfl rfl rfl h.1 rfl rfl rfl ?_
    replace h := h.2
    replace h := h _ rfl
    exact m_72_23_39 hd  h
set_option maxRecDepth 20000 in
theorem m_72_13_39 {d d0 : Nat} (hd : d = d0 + 8)  {a1 : Int32} {s : zS} {Q : Option Value → zS → Prop}  (h : v_72_13 (fun j => Zt d (wd 39 j) j) 39  a1 s Q) : Zn d [] [] ([(82, 0, 39), (82, 1, 40), (82, 2, 43)] : zW) ([(82, 0, 39), (82, 1, 40), (82, 2, 43)] : zW) xL_5 3 (some .boolean) xE_72 (xE_72.drop 13) [.ref 82, .int a1, .null, .null, .null] [] s Q := by
  unfold v_72_13 at h
  refine zn_c [.int 0] (xo_push (.int 0)) rfl rfl ?_
  exact m_72_14_39 hd  h
set_option maxRecDepth 20000 in
theorem m_72_0_39 {d d0 : Nat} (hd : d = d0 + 8)  {a1 : Int32} {s : zS} {Q : Option Value → zS → Prop}  (h : v_72_0 (fun j => Zt d (wd 39 j) j) 39  a1 s Q) : Zn d [] [] ([(82, 0, 39), (82, 1, 40), (82, 2, 43)] : zW) ([(82, 0, 39), (82, 1, 40), (82, 2, 43)] : zW) xL_5 3 (some .boolean) xE_72 (xE_72.drop 0) [.ref 82, .int a1, .null, .null, .null] [] s Q := by
  unfold v_72_0 at h
  refine zn_ld rfl rfl rfl ?_
  refine zn_get (v := .ref 39) rfl (zv_C (a := 82) (n := 0) rfl rfl rfl) ?_
  refine zn_get (v := .int (s.1 39 14)) rfl (zv_I (a := 39) rfl rfl) ?_
  refine zn_brN rfl rfl ⟨fun hcn => ?_, fun hcn => ?_⟩
  · replace h := h.1 (fun q => hcn ((i_eq (x := s.1 39 14) (y := 0) rfl (show (0 : Int32).toInt = 0 by decide)).mpr q))
    exact m_72_13_39 hd  h
  · replace h := h.2 ((i_eq (x := s.1 39 14) (y := 0) rfl (show (0 : Int32).toInt = 0 by decide)).mp hcn)
    refine zn_ld rfl rfl rfl ?_
    refine zn_get (v := .ref 43) rfl (zv_C (a := 82) (n := 2) rfl rfl rfl) ?_
    refine zn_ld rfl rfl rfl ?_
    refine zn_get (v := .int (s.1 82 3)) rfl (zv_I (a := 82) rfl rfl) ?_
    refine zn_row (s.1 82 3) [] (a := 43) hd rfl rfl rfl rfl ?_
    change Zn _ _ _ _ _ _ _ _ _ _ _ [.int (zg s 43 (s.1 82 3))] _ _
    refine zn_ld rfl rfl rfl ?_
    refine zn_brN rfl rfl ⟨fun hcn => ?_, fun hcn => ?_⟩
    · replace h := h.1 (fun q => hcn ((i_eq (x := zg s 43 (s.1 82 3)) (y := a1) rfl rfl).mpr q))
      exact m_72_13_39 hd  h
    · replace h := h.2 ((i_eq (x := zg s 43 (s.1 82 3)) (y := a1) rfl rfl).mp hcn)
      refine zn_c [.int 1] (xo_push (.int 1)) rfl rfl ?_
      refine zn_go rfl ?_
      exact m_72_14_39 hd  h
theorem zq_72_39 {d : Nat} {a1 : Int32} {s : zS} {Q : Option Value → zS → Prop} (h : v_72_0 (fun j => Zt (d + 8) (wd 39 j) j) 39 a1 s Q) : Zt (d + 9) ([(82, 0, 39), (82, 1, 40), (82, 2, 43)] : zW) 72 [.ref 82, .int a1] s Q := zt_of (E := xE_72) (L := xL_5) (ml := 3) (ret := some .boolean) rfl rfl rfl (m_72_0_39 rfl h)
theorem zc_72 {d P : Nat} (hP : P = 3 ∨ P = 39) {a1 : Int32} {s : zS} {Q : Option Value → zS → Prop} (h : v_72_0 (fun j => Zt (d + 8) (wd P j) j) P a1 s Q) : Zt (d + 9) (wd P 72) 72 [.ref 82, .int a1] s Q := by
  rcases hP with rfl | rfl
  · exact zq_72_3 h
  · exact zq_72_39 h
/-! FeatherBench$Reader.expect -/
def v_73_34 (T : Nat → List Value → zS → (Option Value → zS → Prop) → Prop) (P : Nat)  (a1 : Int32) (s : zS) (Q : Option Value → zS → Prop) : Prop :=
  Q none s
def v_73_24 (T : Nat → List Value → zS → (Option Value → zS → Prop) → Prop) (P : Nat)  (a1 : Int32) (s : zS) (Q : Option Value → zS → Prop) : Prop :=
  (¬ ((s.1 P 14).toInt = 0) → v_73_34 T P  a1 s Q) ∧ ((s.1 P 14).toInt = 0 → ∀ x1 : Int32, (-2147483648 ≤ (s.1 82 3).toInt + 1 ∧ (s.1 82 3).toInt + 1 ≤ 2147483647 → x1.toInt = (s.1 82 3).toInt + 1) → (0 ≤ x1.toInt ∧ x1.toInt ≤ 5000) ∧ (∀ s2, s2 = zf s 82 3 x1 → v_73_34 T P  a1 s2 Q))
def v_73_0 (T : Nat → List Value → zS → (Option Value → zS → Prop) → Prop) (P : Nat)  (a1 : Int32) (s : zS) (Q : Option Value → zS → Prop) : Prop :=
  (¬ ((s.1 P 14).toInt = 0) → v_73_24 T P  a1 s Q) ∧ ((s.1 P 14).toInt = 0 → ((zg s (P + 4) (s.1 82 3)).toInt = a1.toInt → v_73_24 T P  a1 s Q) ∧ (¬ ((zg s (P + 4) (s.1 82 3)).toInt = a1.toInt) → ∀ x1 : Int32, (-2147483648 ≤ 16 * (zg s (P + 6) (s.1 82 3)).toInt ∧ 16 * (zg s (P + 6) (s.1 82 3)).toInt ≤ 2147483647 → x1.toInt = 16 * (zg s (P + 6) (s.1 82 3)).toInt) → ∀ x2 : Int32, (-2147483648 ≤ 1 + x1.toInt ∧ 1 + x1.toInt ≤ 2147483647 → x2.toInt = 1 + x1.toInt) → ∀ s3, s3 = zf s P 14 x2 → v_73_24 T P  a1 s3 Q))
set_option maxRecDepth 20000 in
theorem m_73_34_3 {d d0 : Nat} (hd : d = d0 + 8)  {a1 : Int32} {s : zS} {Q : Option Value → zS → Prop}  (h : v_73_34 (fun j => Zt d (wd 3 j) j) 3  a1 s Q) : Zn d [] [(3, 98)] ([(82, 0, 3), (82, 1, 4), (82, 2, 7)] : zW) ([(82, 0, 3), (82, 1, 4), (82, 2, 7)] : zW) xL_5 2 (none) xE_73 (xE_73.drop 34) [.ref 82, .int a1, .null, .null] [] s Q := by
  unfold v_73_34 at h
  exact zn_ret0 rfl h
set_option maxRecDepth 20000 in
theorem m_73_24_3 {d d0 : Nat} (hd : d = d0 + 8)  {a1 : Int32} {s : zS} {Q : Option Value → zS → Prop}  (h : v_73_24 (fun j => Zt d (wd 3 j) j) 3  a1 s Q) : Zn d [] [(3, 98)] ([(82, 0, 3), (82, 1, 4), (82, 2, 7)] : zW) ([(82, 0, 3), (82, 1, 4), (82, 2, 7)] : zW) xL_5 2 (none) xE_73 (xE_73.drop 24) [.ref 82, .int a1, .null, .null] [] s Q := by
  unfold v_73_24 at h
  refine zn_ld rfl rfl rfl ?_
  refine zn_get (v := .ref 3) rfl (zv_C (a := 82) (n := 0) rfl rfl rfl) ?_
  refine zn_get (v := .int (s.1 3 14)) rfl (zv_I (a := 3) rfl rfl) ?_
  refine zn_brN rfl rfl ⟨fun hcn => ?_, fun hcn => ?_⟩
  · replace h := h.1 (fun q => hcn ((i_eq (x := s.1 3 14) (y := 0) rfl (show (0 : Int32).toInt = 0 by decide)).mpr q))
    exact m_73_34_3 hd  h
  · replace h := h.2 ((i_eq (x := s.1 3 14) (y := 0) rfl (show (0 : Int32).toInt = 0 by decide)).mp hcn)
    refine zn_ld rfl rfl rfl ?_
    refine zn_c [.ref 82, .ref 82] xo_dup rfl rfl ?_
    refine zn_get (v := .int (s.1 82 3)) rfl (zv_I (a := 82) rfl rfl) ?_
    refine zn_c [.int 1, .int (s.1 82 3), .ref 82] (xo_push (.int 1)) rfl rfl ?_
    replace h := h _ (i_add (x := s.1 82 3) (y := 1) rfl (show (1 : Int32).toInt = 1 by decide))
    refine zn_c [.int ((s.1 82 3) + 1), .ref 82] xo_iadd rfl rfl ?_
    refine zn_putI (a := 82) rfl rfl rfl rfl h.1 rfl rfl rfl ?_
    replace h := h.2
    replace h := h _ rfl
    exact m_73_34_3 hd  h
set_option maxRecDepth 20000 in
theorem m_73_0_3 {d d0 : Nat} (hd : d = d0 + 8)  {a1 : Int32} {s : zS} {Q : Option Value → zS → Prop}  (h : v_73_0 (fun j => Zt d (wd 3 j) j) 3  a1 s Q) : Zn d [] [(3, 98)] ([(82, 0, 3), (82, 1, 4), (82, 2, 7)] : zW) ([(82, 0, 3), (82, 1, 4), (82, 2, 7)] : zW) xL_5 2 (none) xE_73 (xE_73.drop 0) [.ref 82, .int a1, .null, .null] [] s Q := by
  unfold v_73_0 at h
  refine zn_ld rfl rfl rfl ?_
  refine zn_get (v := .ref 3) rfl (zv_C (a := 82) (n := 0) rfl rfl rfl) ?_
  refine zn_get (v := .int (s.1 3 14)) rfl (zv_I (a := 3) rfl rfl) ?_
  refine zn_brN rfl rfl ⟨fun hcn => ?_, fun hcn => ?_⟩
  · replace h := h.1 (fun q => hcn ((i_eq (x := s.1 3 14) (y := 0) rfl (show (0 : Int32).toInt = 0 by decide)).mpr q))
    exact m_73_24_3 hd  h
  · replace h := h.2 ((i_eq (x := s.1 3 14) (y := 0) rfl (show (0 : Int32).toInt = 0 by decide)).mp hcn)
    refine zn_ld rfl rfl rfl ?_
    refine zn_get (v := .ref 7) rfl (zv_C (a := 82) (n := 2) rfl rfl rfl) ?_
    refine zn_ld rfl rfl rfl ?_
    refine zn_get (v := .int (s.1 82 3)) rfl (zv_I (a := 82) rfl rfl) ?_
    refine zn_row (s.1 82 3) [] (a := 7) hd rfl rfl rfl rfl ?_
    change Zn _ _ _ _ _ _ _ _ _ _ _ [.int (zg s 7 (s.1 82 3))] _ _
    refine zn_ld rfl rfl rfl ?_
    refine zn_brP rfl rfl ⟨fun hcn => ?_, fun hcn => ?_⟩
    · replace h := h.1 ((i_eq (x := zg s 7 (s.1 82 3)) (y := a1) rfl rfl).mp hcn)
      exact m_73_24_3 hd  h
    · replace h := h.2 (fun q => hcn ((i_eq (x := zg s 7 (s.1 82 3)) (y := a1) rfl rfl).mpr q))
      refine zn_ld rfl rfl rfl ?_
      refine zn_get (v := .ref 3) rfl (zv_C (a := 82) (n := 0) rfl rfl rfl) ?_
      refine zn_c [.int 1, .ref 3] (xo_push (.int 1)) rfl rfl ?_
      refine zn_c [.int 16, .int 1, .ref 3] (xo_push (.int 16)) rfl rfl ?_
      refine zn_ld rfl rfl rfl ?_
      refine zn_get (v := .ref 4) rfl (zv_C (a := 82) (n := 1) rfl rfl rfl) ?_
      refine zn_get (v := .ref 9) rfl (zv_R (a := 4) rfl rfl) ?_
      refine zn_ld rfl rfl rfl ?_
      refine zn_get (v := .int (s.1 82 3)) rfl (zv_I (a := 82) rfl rfl) ?_
      refine zn_row (s.1 82 3) [.int 16, .int 1, .ref 3] (a := 9) hd rfl rfl rfl rfl ?_
      change Zn _ _ _ _ _ _ _ _ _ _ _ [.int (zg s 9 (s.1 82 3)), .int 16, .int 1, .ref 3] _ _
      replace h := h _ (i_mul (x := 16) (y := zg s 9 (s.1 82 3)) (show (16 : Int32).toInt = 16 by decide) rfl)
      refine zn_c [.int (16 * (zg s 9 (s.1 82 3))), .int 1, .ref 3] xo_imul rfl rfl ?_
      replace h := h _ (i_add (x := 1) (y := (16 * (zg s 9 (s.1 82 3)))) (show (1 : Int32).toInt = 1 by decide) rfl)
      refine zn_c [.int (1 + (16 * (zg s 9 (s.1 82 3)))), .ref 3] xo_iadd rfl rfl ?_
      refine zn_putI (a := 3) rfl rfl rfl rfl ⟨Int32.le_toInt _, Int.le_of_lt_add_one (Int32.toInt_lt _)⟩ rfl rfl rfl ?_
      replace h := h _ rfl
      exact m_73_24_3 hd  h
theorem zq_73_3 {d : Nat} {a1 : Int32} {s : zS} {Q : Option Value → zS → Prop} (h : v_73_0 (fun j => Zt (d + 8) (wd 3 j) j) 3 a1 s Q) : Zt (d + 9) ([(82, 0, 3), (82, 1, 4), (82, 2, 7)] : zW) 73 [.ref 82, .int a1] s Q := zt_of (E := xE_73) (L := xL_5) (ml := 2) (ret := none) rfl rfl rfl (m_73_0_3 rfl h)
set_option maxRecDepth 20000 in
theorem m_73_34_39 {d d0 : Nat} (hd : d = d0 + 8)  {a1 : Int32} {s : zS} {Q : Option Value → zS → Prop}  (h : v_73_34 (fun j => Zt d (wd 39 j) j) 39  a1 s Q) : Zn d [] [(39, 98)] ([(82, 0, 39), (82, 1, 40), (82, 2, 43)] : zW) ([(82, 0, 39), (82, 1, 40), (82, 2, 43)] : zW) xL_5 2 (none) xE_73 (xE_73.drop 34) [.ref 82, .int a1, .null, .null] [] s Q := by
  unfold v_73_34 at h
  exact zn_ret0 rfl h
set_option maxRecDepth 20000 in
theorem m_73_24_39 {d d0 : Nat} (hd : d = d0 + 8)  {a1 : Int32} {s : zS} {Q : Option Value → zS → Prop}  (h : v_73_24 (fun j => Zt d (wd 39 j) j) 39  a1 s Q) : Zn d [] [(39, 98)] ([(82, 0, 39), (82, 1, 40), (82, 2, 43)] : zW) ([(82, 0, 39), (82, 1, 40), (82, 2, 43)] : zW) xL_5 2 (none) xE_73 (xE_73.drop 24) [.ref 82, .int a1, .null, .null] [] s Q := by
  unfold v_73_24 at h
  refine zn_ld rfl rfl rfl ?_
  refine zn_get (v := .ref 39) rfl (zv_C (a := 82) (n := 0) rfl rfl rfl) ?_
  refine zn_get (v := .int (s.1 39 14)) rfl (zv_I (a := 39) rfl rfl) ?_
  refine zn_brN rfl rfl ⟨fun hcn => ?_, fun hcn => ?_⟩
  · replace h := h.1 (fun q => hcn ((i_eq (x := s.1 39 14) (y := 0) rfl (show (0 : Int32).toInt = 0 by decide)).mpr q))
    exact m_73_34_39 hd  h
  · replace h := h.2 ((i_eq (x := s.1 39 14) (y := 0) rfl (show (0 : Int32).toInt = 0 by decide)).mp hcn)
    refine zn_ld rfl rfl rfl ?_
    refine zn_c [.ref 82, .ref 82] xo_dup rfl rfl ?_
    refine zn_get (v := .int (s.1 82 3)) rfl (zv_I (a := 82) rfl rfl) ?_
    refine zn_c [.int 1, .int (s.1 82 3), .ref 82] (xo_push (.int 1)) rfl rfl ?_
    replace h := h _ (i_add (x := s.1 82 3) (y := 1) rfl (show (1 : Int32).toInt = 1 by decide))
    refine zn_c [.int ((s.1 82 3) + 1), .ref 82] xo_iadd rfl rfl ?_
    refine zn_putI (a := 82) rfl rfl rfl rfl h.1 rfl rfl rfl ?_
    replace h := h.2
    replace h := h _ rfl
    exact m_73_34_39 hd  h
set_option maxRecDepth 20000 in
theorem m_73_0_39 {d d0 : Nat} (hd : d = d0 + 8)  {a1 : Int32} {s : zS} {Q : Option Value → zS → Prop}  (h : v_73_0 (fun j => Zt d (wd 39 j) j) 39  a1 s Q) : Zn d [] [(39, 98)] ([(82, 0, 39), (82, 1, 40), (82, 2, 43)] : zW) ([(82, 0, 39), (82, 1, 40), (82, 2, 43)] : zW) xL_5 2 (none) xE_73 (xE_73.drop 0) [.ref 82, .int a1, .null, .null] [] s Q := by
  unfold v_73_0 at h
  refine zn_ld rfl rfl rfl ?_
  refine zn_get (v := .ref 39) rfl (zv_C (a := 82) (n := 0) rfl rfl rfl) ?_
  refine zn_get (v := .int (s.1 39 14)) rfl (zv_I (a := 39) rfl rfl) ?_
  refine zn_brN rfl rfl ⟨fun hcn => ?_, fun hcn => ?_⟩
  · replace h := h.1 (fun q => hcn ((i_eq (x := s.1 39 14) (y := 0) rfl (show (0 : Int32).toInt = 0 by decide)).mpr q))
    exact m_73_24_39 hd  h
  · replace h := h.2 ((i_eq (x := s.1 39 14) (y := 0) rfl (show (0 : Int32).toInt = 0 by decide)).mp hcn)
    refine zn_ld rfl rfl rfl ?_
    refine zn_get (v := .ref 43) rfl (zv_C (a := 82) (n := 2) rfl rfl rfl) ?_
    refine zn_ld rfl rfl rfl ?_
    refine zn_get (v := .int (s.1 82 3)) rfl (zv_I (a := 82) rfl rfl) ?_
    refine zn_row (s.1 82 3) [] (a := 43) hd rfl rfl rfl rfl ?_
    change Zn _ _ _ _ _ _ _ _ _ _ _ [.int (zg s 43 (s.1 82 3))] _ _
    refine zn_ld rfl rfl rfl ?_
    refine zn_brP rfl rfl ⟨fun hcn => ?_, fun hcn => ?_⟩
    · replace h := h.1 ((i_eq (x := zg s 43 (s.1 82 3)) (y := a1) rfl rfl).mp hcn)
      exact m_73_24_39 hd  h
    · replace h := h.2 (fun q => hcn ((i_eq (x := zg s 43 (s.1 82 3)) (y := a1) rfl rfl).mpr q))
      refine zn_ld rfl rfl rfl ?_
      refine zn_get (v := .ref 39) rfl (zv_C (a := 82) (n := 0) rfl rfl rfl) ?_
      refine zn_c [.int 1, .ref 39] (xo_push (.int 1)) rfl rfl ?_
      refine zn_c [.int 16, .int 1, .ref 39] (xo_push (.int 16)) rfl rfl ?_
      refine zn_ld rfl rfl rfl ?_
      refine zn_get (v := .ref 40) rfl (zv_C (a := 82) (n := 1) rfl rfl rfl) ?_
      refine zn_get (v := .ref 45) rfl (zv_R (a := 40) rfl rfl) ?_
      refine zn_ld rfl rfl rfl ?_
      refine zn_get (v := .int (s.1 82 3)) rfl (zv_I (a := 82) rfl rfl) ?_
      refine zn_row (s.1 82 3) [.int 16, .int 1, .ref 39] (a := 45) hd rfl rfl rfl rfl ?_
      change Zn _ _ _ _ _ _ _ _ _ _ _ [.int (zg s 45 (s.1 82 3)), .int 16, .int 1, .ref 39] _ _
      replace h := h _ (i_mul (x := 16) (y := zg s 45 (s.1 82 3)) (show (16 : Int32).toInt = 16 by decide) rfl)
      refine zn_c [.int (16 * (zg s 45 (s.1 82 3))), .int 1, .ref 39] xo_imul rfl rfl ?_
      replace h := h _ (i_add (x := 1) (y := (16 * (zg s 45 (s.1 82 3)))) (show (1 : Int32).toInt = 1 by decide) rfl)
      refine zn_c [.int (1 + (16 * (zg s 45 (s.1 82 3)))), .ref 39] xo_iadd rfl rfl ?_
      refine zn_putI (a := 39) rfl rfl rfl rfl ⟨Int32.le_toInt _, Int.le_of_lt_add_one (Int32.toInt_lt _)⟩ rfl rfl rfl ?_
      replace h := h _ rfl
      exact m_73_24_39 hd  h
theorem zq_73_39 {d : Nat} {a1 : Int32} {s : zS} {Q : Option Value → zS → Prop} (h : v_73_0 (fun j => Zt (d + 8) (wd 39 j) j) 39 a1 s Q) : Zt (d + 9) ([(82, 0, 39), (82, 1, 40), (82, 2, 43)] : zW) 73 [.ref 82, .int a1] s Q := zt_of (E := xE_73) (L := xL_5) (ml := 2) (ret := none) rfl rfl rfl (m_73_0_39 rfl h)
theorem zc_73 {d P : Nat} (hP : P = 3 ∨ P = 39) {a1 : Int32} {s : zS} {Q : Option Value → zS → Prop} (h : v_73_0 (fun j => Zt (d + 8) (wd P j) j) P a1 s Q) : Zt (d + 9) (wd P 73) 73 [.ref 82, .int a1] s Q := by
  rcases hP with rfl | rfl
  · exact zq_73_3 h
  · exact zq_73_39 h
/-! FeatherBench$Reader.expectFirst -/
def v_74_60 (T : Nat → List Value → zS → (Option Value → zS → Prop) → Prop) (P : Nat)  (a1 : Int32) (s : zS) (Q : Option Value → zS → Prop) : Prop :=
  Q none s
def v_74_50 (T : Nat → List Value → zS → (Option Value → zS → Prop) → Prop) (P : Nat)  (a1 : Int32) (s : zS) (Q : Option Value → zS → Prop) : Prop :=
  (¬ ((s.1 P 14).toInt = 0) → v_74_60 T P  a1 s Q) ∧ ((s.1 P 14).toInt = 0 → ∀ x1 : Int32, (-2147483648 ≤ (s.1 82 3).toInt + 1 ∧ (s.1 82 3).toInt + 1 ≤ 2147483647 → x1.toInt = (s.1 82 3).toInt + 1) → (0 ≤ x1.toInt ∧ x1.toInt ≤ 5000) ∧ (∀ s2, s2 = zf s 82 3 x1 → v_74_60 T P  a1 s2 Q))
def v_74_26 (T : Nat → List Value → zS → (Option Value → zS → Prop) → Prop) (P : Nat)  (a1 : Int32) (s : zS) (Q : Option Value → zS → Prop) : Prop :=
  (¬ ((s.1 P 14).toInt = 0) → v_74_50 T P  a1 s Q) ∧ ((s.1 P 14).toInt = 0 → ((zg s (P + 4) (s.1 82 3)).toInt = 1 → v_74_50 T P  a1 s Q) ∧ (¬ ((zg s (P + 4) (s.1 82 3)).toInt = 1) → ∀ x1 : Int32, (-2147483648 ≤ 16 * (zg s (P + 6) (s.1 82 3)).toInt ∧ 16 * (zg s (P + 6) (s.1 82 3)).toInt ≤ 2147483647 → x1.toInt = 16 * (zg s (P + 6) (s.1 82 3)).toInt) → ∀ x2 : Int32, (-2147483648 ≤ 1 + x1.toInt ∧ 1 + x1.toInt ≤ 2147483647 → x2.toInt = 1 + x1.toInt) → ∀ s3, s3 = zf s P 14 x2 → v_74_50 T P  a1 s3 Q))
def v_74_0 (T : Nat → List Value → zS → (Option Value → zS → Prop) → Prop) (P : Nat)  (a1 : Int32) (s : zS) (Q : Option Value → zS → Prop) : Prop :=
  (¬ ((s.1 P 14).toInt = 0) → v_74_26 T P  a1 s Q) ∧ ((s.1 P 14).toInt = 0 → (a1.toInt = 0 → v_74_26 T P  a1 s Q) ∧ (¬ (a1.toInt = 0) → (¬ ((zg s (P + 4) (s.1 82 3)).toInt = 1) → v_74_26 T P  a1 s Q) ∧ ((zg s (P + 4) (s.1 82 3)).toInt = 1 → ∀ x1 : Int32, (-2147483648 ≤ 16 * (zg s (P + 6) (s.1 82 3)).toInt ∧ 16 * (zg s (P + 6) (s.1 82 3)).toInt ≤ 2147483647 → x1.toInt = 16 * (zg s (P + 6) (s.1 82 3)).toInt) → ∀ x2 : Int32, (-2147483648 ≤ 5 + x1.toInt ∧ 5 + x1.toInt ≤ 2147483647 → x2.toInt = 5 + x1.toInt) → ∀ s3, s3 = zf s P 14 x2 → v_74_26 T P  a1 s3 Q)))
set_option maxRecDepth 20000 in
theorem m_74_60_3 {d d0 : Nat} (hd : d = d0 + 8)  {a1 : Int32} {s : zS} {Q : Option Value → zS → Prop}  (h : v_74_60 (fun j => Zt d (wd 3 j) j) 3  a1 s Q) : Zn d [] [(3, 98)] ([(82, 0, 3), (82, 1, 4), (82, 2, 7)] : zW) ([(82, 0, 3), (82, 1, 4), (82, 2, 7)] : zW) xL_5 2 (none) xE_74 (xE_74.drop 60) [.ref 82, .int a1, .null, .null] [] s Q := by
  unfold v_74_60 at h
  exact zn_ret0 rfl h
set_option maxRecDepth 20000 in
theorem m_74_50_3 {d d0 : Nat} (hd : d = d0 + 8)  {a1 : Int32} {s : zS} {Q : Option Value → zS → Prop}  (h : v_74_50 (fun j => Zt d (wd 3 j) j) 3  a1 s Q) : Zn d [] [(3, 98)] ([(82, 0, 3), (82, 1, 4), (82, 2, 7)] : zW) ([(82, 0, 3), (82, 1, 4), (82, 2, 7)] : zW) xL_5 2 (none) xE_74 (xE_74.drop 50) [.ref 82, .int a1, .null, .null] [] s Q := by
  unfold v_74_50 at h
  refine zn_ld rfl rfl rfl ?_
  refine zn_get (v := .ref 3) rfl (zv_C (a := 82) (n := 0) rfl rfl rfl) ?_
  refine zn_get (v := .int (s.1 3 14)) rfl (zv_I (a := 3) rfl rfl) ?_
  refine zn_brN rfl rfl ⟨fun hcn => ?_, fun hcn => ?_⟩
  · replace h := h.1 (fun q => hcn ((i_eq (x := s.1 3 14) (y := 0) rfl (show (0 : Int32).toInt = 0 by decide)).mpr q))
    exact m_74_60_3 hd  h
  · replace h := h.2 ((i_eq (x := s.1 3 14) (y := 0) rfl (show (0 : Int32).toInt = 0 by decide)).mp hcn)
    refine zn_ld rfl rfl rfl ?_
    refine zn_c [.ref 82, .ref 82] xo_dup rfl rfl ?_
    refine zn_get (v := .int (s.1 82 3)) rfl (zv_I (a := 82) rfl rfl) ?_
    refine zn_c [.int 1, .int (s.1 82 3), .ref 82] (xo_push (.int 1)) rfl rfl ?_
    replace h := h _ (i_add (x := s.1 82 3) (y := 1) rfl (show (1 : Int32).toInt = 1 by decide))
    refine zn_c [.int ((s.1 82 3) + 1), .ref 82] xo_iadd rfl rfl ?_
    refine zn_putI (a := 82) rfl rfl rfl rfl h.1 rfl rfl rfl ?_
    replace h := h.2
    replace h := h _ rfl
    exact m_74_60_3 hd  h
set_option maxRecDepth 20000 in
theorem m_74_26_3 {d d0 : Nat} (hd : d = d0 + 8)  {a1 : Int32} {s : zS} {Q : Option Value → zS → Prop}  (h : v_74_26 (fun j => Zt d (wd 3 j) j) 3  a1 s Q) : Zn d [] [(3, 98)] ([(82, 0, 3), (82, 1, 4), (82, 2, 7)] : zW) ([(82, 0, 3), (82, 1, 4), (82, 2, 7)] : zW) xL_5 2 (none) xE_74 (xE_74.drop 26) [.ref 82, .int a1, .null, .null] [] s Q := by
  unfold v_74_26 at h
  refine zn_ld rfl rfl rfl ?_
  refine zn_get (v := .ref 3) rfl (zv_C (a := 82) (n := 0) rfl rfl rfl) ?_
  refine zn_get (v := .int (s.1 3 14)) rfl (zv_I (a := 3) rfl rfl) ?_
  refine zn_brN rfl rfl ⟨fun hcn => ?_, fun hcn => ?_⟩
  · replace h := h.1 (fun q => hcn ((i_eq (x := s.1 3 14) (y := 0) rfl (show (0 : Int32).toInt = 0 by decide)).mpr q))
    exact m_74_50_3 hd  h
  · replace h := h.2 ((i_eq (x := s.1 3 14) (y := 0) rfl (show (0 : Int32).toInt = 0 by decide)).mp hcn)
    refine zn_ld rfl rfl rfl ?_
    refine zn_get (v := .ref 7) rfl (zv_C (a := 82) (n := 2) rfl rfl rfl) ?_
    refine zn_ld rfl rfl rfl ?_
    refine zn_get (v := .int (s.1 82 3)) rfl (zv_I (a := 82) rfl rfl) ?_
    refine zn_row (s.1 82 3) [] (a := 7) hd rfl rfl rfl rfl ?_
    change Zn _ _ _ _ _ _ _ _ _ _ _ [.int (zg s 7 (s.1 82 3))] _ _
    refine zn_c [.int 1, .int (zg s 7 (s.1 82 3))] (xo_push (.int 1)) rfl rfl ?_
    refine zn_brP rfl rfl ⟨fun hcn => ?_, fun hcn => ?_⟩
    · replace h := h.1 ((i_eq (x := zg s 7 (s.1 82 3)) (y := 1) rfl (show (1 : Int32).toInt = 1 by decide)).mp hcn)
      exact m_74_50_3 hd  h
    · replace h := h.2 (fun q => hcn ((i_eq (x := zg s 7 (s.1 82 3)) (y := 1) rfl (show (1 : Int32).toInt = 1 by decide)).mpr q))
      refine zn_ld rfl rfl rfl ?_
      refine zn_get (v := .ref 3) rfl (zv_C (a := 82) (n := 0) rfl rfl rfl) ?_
      refine zn_c [.int 1, .ref 3] (xo_push (.int 1)) rfl rfl ?_
      refine zn_c [.int 16, .int 1, .ref 3] (xo_push (.int 16)) rfl rfl ?_
      refine zn_ld rfl rfl rfl ?_
      refine zn_get (v := .ref 4) rfl (zv_C (a := 82) (n := 1) rfl rfl rfl) ?_
      refine zn_get (v := .ref 9) rfl (zv_R (a := 4) rfl rfl) ?_
      refine zn_ld rfl rfl rfl ?_
      refine zn_get (v := .int (s.1 82 3)) rfl (zv_I (a := 82) rfl rfl) ?_
      refine zn_row (s.1 82 3) [.int 16, .int 1, .ref 3] (a := 9) hd rfl rfl rfl rfl ?_
      change Zn _ _ _ _ _ _ _ _ _ _ _ [.int (zg s 9 (s.1 82 3)), .int 16, .int 1, .ref 3] _ _
      replace h := h _ (i_mul (x := 16) (y := zg s 9 (s.1 82 3)) (show (16 : Int32).toInt = 16 by decide) rfl)
      refine zn_c [.int (16 * (zg s 9 (s.1 82 3))), .int 1, .ref 3] xo_imul rfl rfl ?_
      replace h := h _ (i_add (x := 1) (y := (16 * (zg s 9 (s.1 82 3)))) (show (1 : Int32).toInt = 1 by decide) rfl)
      refine zn_c [.int (1 + (16 * (zg s 9 (s.1 82 3)))), .ref 3] xo_iadd rfl rfl ?_
      refine zn_putI (a := 3) rfl rfl rfl rfl ⟨Int32.le_toInt _, Int.le_of_lt_add_one (Int32.toInt_lt _)⟩ rfl rfl rfl ?_
      replace h := h _ rfl
      exact m_74_50_3 hd  h
set_option maxRecDepth 20000 in
theorem m_74_0_3 {d d0 : Nat} (hd : d = d0 + 8)  {a1 : Int32} {s : zS} {Q : Option Value → zS → Prop}  (h : v_74_0 (fun j => Zt d (wd 3 j) j) 3  a1 s Q) : Zn d [] [(3, 98)] ([(82, 0, 3), (82, 1, 4), (82, 2, 7)] : zW) ([(82, 0, 3), (82, 1, 4), (82, 2, 7)] : zW) xL_5 2 (none) xE_74 (xE_74.drop 0) [.ref 82, .int a1, .null, .null] [] s Q := by
  unfold v_74_0 at h
  refine zn_ld rfl rfl rfl ?_
  refine zn_get (v := .ref 3) rfl (zv_C (a := 82) (n := 0) rfl rfl rfl) ?_
  refine zn_get (v := .int (s.1 3 14)) rfl (zv_I (a := 3) rfl rfl) ?_
  refine zn_brN rfl rfl ⟨fun hcn => ?_, fun hcn => ?_⟩
  · replace h := h.1 (fun q => hcn ((i_eq (x := s.1 3 14) (y := 0) rfl (show (0 : Int32).toInt = 0 by decide)).mpr q))
    exact m_74_26_3 hd  h
  · replace h := h.2 ((i_eq (x := s.1 3 14) (y := 0) rfl (show (0 : Int32).toInt = 0 by decide)).mp hcn)
    refine zn_ld rfl rfl rfl ?_
    refine zn_brP rfl rfl ⟨fun hcn => ?_, fun hcn => ?_⟩
    · replace h := h.1 ((i_eq (x := a1) (y := 0) rfl (show (0 : Int32).toInt = 0 by decide)).mp hcn)
      exact m_74_26_3 hd  h
    · replace h := h.2 (fun q => hcn ((i_eq (x := a1) (y := 0) rfl (show (0 : Int32).toInt = 0 by decide)).mpr q))
      refine zn_ld rfl rfl rfl ?_
      refine zn_get (v := .ref 7) rfl (zv_C (a := 82) (n := 2) rfl rfl rfl) ?_
      refine zn_ld rfl rfl rfl ?_
      refine zn_get (v := .int (s.1 82 3)) rfl (zv_I (a := 82) rfl rfl) ?_
      refine zn_row (s.1 82 3) [] (a := 7) hd rfl rfl rfl rfl ?_
      change Zn _ _ _ _ _ _ _ _ _ _ _ [.int (zg s 7 (s.1 82 3))] _ _
      refine zn_c [.int 1, .int (zg s 7 (s.1 82 3))] (xo_push (.int 1)) rfl rfl ?_
      refine zn_brN rfl rfl ⟨fun hcn => ?_, fun hcn => ?_⟩
      · replace h := h.1 (fun q => hcn ((i_eq (x := zg s 7 (s.1 82 3)) (y := 1) rfl (show (1 : Int32).toInt = 1 by decide)).mpr q))
        exact m_74_26_3 hd  h
      · replace h := h.2 ((i_eq (x := zg s 7 (s.1 82 3)) (y := 1) rfl (show (1 : Int32).toInt = 1 by decide)).mp hcn)
        refine zn_ld rfl rfl rfl ?_
        refine zn_get (v := .ref 3) rfl (zv_C (a := 82) (n := 0) rfl rfl rfl) ?_
        refine zn_c [.int 5, .ref 3] (xo_push (.int 5)) rfl rfl ?_
        refine zn_c [.int 16, .int 5, .ref 3] (xo_push (.int 16)) rfl rfl ?_
        refine zn_ld rfl rfl rfl ?_
        refine zn_get (v := .ref 4) rfl (zv_C (a := 82) (n := 1) rfl rfl rfl) ?_
        refine zn_get (v := .ref 9) rfl (zv_R (a := 4) rfl rfl) ?_
        refine zn_ld rfl rfl rfl ?_
        refine zn_get (v := .int (s.1 82 3)) rfl (zv_I (a := 82) rfl rfl) ?_
        refine zn_row (s.1 82 3) [.int 16, .int 5, .ref 3] (a := 9) hd rfl rfl rfl rfl ?_
        change Zn _ _ _ _ _ _ _ _ _ _ _ [.int (zg s 9 (s.1 82 3)), .int 16, .int 5, .ref 3] _ _
        replace h := h _ (i_mul (x := 16) (y := zg s 9 (s.1 82 3)) (show (16 : Int32).toInt = 16 by decide) rfl)
        refine zn_c [.int (16 * (zg s 9 (s.1 82 3))), .int 5, .ref 3] xo_imul rfl rfl ?_
        replace h := h _ (i_add (x := 5) (y := (16 * (zg s 9 (s.1 82 3)))) (show (5 : Int32).toInt = 5 by decide) rfl)
        refine zn_c [.int (5 + (16 * (zg s 9 (s.1 82 3)))), .ref 3] xo_iadd rfl rfl ?_
        refine zn_putI (a := 3) rfl rfl rfl rfl ⟨Int32.le_toInt _, Int.le_of_lt_add_one (Int32.toInt_lt _)⟩ rfl rfl rfl ?_
        replace h := h _ rfl
        exact m_74_26_3 hd  h
theorem zq_74_3 {d : Nat} {a1 : Int32} {s : zS} {Q : Option Value → zS → Prop} (h : v_74_0 (fun j => Zt (d + 8) (wd 3 j) j) 3 a1 s Q) : Zt (d + 9) ([(82, 0, 3), (82, 1, 4), (82, 2, 7)] : zW) 74 [.ref 82, .int a1] s Q := zt_of (E := xE_74) (L := xL_5) (ml := 2) (ret := none) rfl rfl rfl (m_74_0_3 rfl h)
set_option maxRecDepth 20000 in
theorem m_74_60_39 {d d0 : Nat} (hd : d = d0 + 8)  {a1 : Int32} {s : zS} {Q : Option Value → zS → Prop}  (h : v_74_60 (fun j => Zt d (wd 39 j) j) 39  a1 s Q) : Zn d [] [(39, 98)] ([(82, 0, 39), (82, 1, 40), (82, 2, 43)] : zW) ([(82, 0, 39), (82, 1, 40), (82, 2, 43)] : zW) xL_5 2 (none) xE_74 (xE_74.drop 60) [.ref 82, .int a1, .null, .null] [] s Q := by
  unfold v_74_60 at h
  exact zn_ret0 rfl h
set_option maxRecDepth 20000 in
theorem m_74_50_39 {d d0 : Nat} (hd : d = d0 + 8)  {a1 : Int32} {s : zS} {Q : Option Value → zS → Prop}  (h : v_74_50 (fun j => Zt d (wd 39 j) j) 39  a1 s Q) : Zn d [] [(39, 98)] ([(82, 0, 39), (82, 1, 40), (82, 2, 43)] : zW) ([(82, 0, 39), (82, 1, 40), (82, 2, 43)] : zW) xL_5 2 (none) xE_74 (xE_74.drop 50) [.ref 82, .int a1, .null, .null] [] s Q := by
  unfold v_74_50 at h
  refine zn_ld rfl rfl rfl ?_
  refine zn_get (v := .ref 39) rfl (zv_C (a := 82) (n := 0) rfl rfl rfl) ?_
  refine zn_get (v := .int (s.1 39 14)) rfl (zv_I (a := 39) rfl rfl) ?_
  refine zn_brN rfl rfl ⟨fun hcn => ?_, fun hcn => ?_⟩
  · replace h := h.1 (fun q => hcn ((i_eq (x := s.1 39 14) (y := 0) rfl (show (0 : Int32).toInt = 0 by decide)).mpr q))
    exact m_74_60_39 hd  h
  · replace h := h.2 ((i_eq (x := s.1 39 14) (y := 0) rfl (show (0 : Int32).toInt = 0 by decide)).mp hcn)
    refine zn_ld rfl rfl rfl ?_
    refine zn_c [.ref 82, .ref 82] xo_dup rfl rfl ?_
    refine zn_get (v := .int (s.1 82 3)) rfl (zv_I (a := 82) rfl rfl) ?_
    refine zn_c [.int 1, .int (s.1 82 3), .ref 82] (xo_push (.int 1)) rfl rfl ?_
    replace h := h _ (i_add (x := s.1 82 3) (y := 1) rfl (show (1 : Int32).toInt = 1 by decide))
    refine zn_c [.int ((s.1 82 3) + 1), .ref 82] xo_iadd rfl rfl ?_
    refine zn_putI (a := 82) rfl rfl rfl rfl h.1 rfl rfl rfl ?_
    replace h := h.2
    replace h := h _ rfl
    exact m_74_60_39 hd  h
set_option maxRecDepth 20000 in
theorem m_74_26_39 {d d0 : Nat} (hd : d = d0 + 8)  {a1 : Int32} {s : zS} {Q : Option Value → zS → Prop}  (h : v_74_26 (fun j => Zt d (wd 39 j) j) 39  a1 s Q) : Zn d [] [(39, 98)] ([(82, 0, 39), (82, 1, 40), (82, 2, 43)] : zW) ([(82, 0, 39), (82, 1, 40), (82, 2, 43)] : zW) xL_5 2 (none) xE_74 (xE_74.drop 26) [.ref 82, .int a1, .null, .null] [] s Q := by
  unfold v_74_26 at h
  refine zn_ld rfl rfl rfl ?_
  refine zn_get (v := .ref 39) rfl (zv_C (a := 82) (n := 0) rfl rfl rfl) ?_
  refine zn_get (v := .int (s.1 39 14)) rfl (zv_I (a := 39) rfl rfl) ?_
  refine zn_brN rfl rfl ⟨fun hcn => ?_, fun hcn => ?_⟩
  · replace h := h.1 (fun q => hcn ((i_eq (x := s.1 39 14) (y := 0) rfl (show (0 : Int32).toInt = 0 by decide)).mpr q))
    exact m_74_50_39 hd  h
  · replace h := h.2 ((i_eq (x := s.1 39 14) (y := 0) rfl (show (0 : Int32).toInt = 0 by decide)).mp hcn)
    refine zn_ld rfl rfl rfl ?_
    refine zn_get (v := .ref 43) rfl (zv_C (a := 82) (n := 2) rfl rfl rfl) ?_
    refine zn_ld rfl rfl rfl ?_
    refine zn_get (v := .int (s.1 82 3)) rfl (zv_I (a := 82) rfl rfl) ?_
    refine zn_row (s.1 82 3) [] (a := 43) hd rfl rfl rfl rfl ?_
    change Zn _ _ _ _ _ _ _ _ _ _ _ [.int (zg s 43 (s.1 82 3))] _ _
    refine zn_c [.int 1, .int (zg s 43 (s.1 82 3))] (xo_push (.int 1)) rfl rfl ?_
    refine zn_brP rfl rfl ⟨fun hcn => ?_, fun hcn => ?_⟩
    · replace h := h.1 ((i_eq (x := zg s 43 (s.1 82 3)) (y := 1) rfl (show (1 : Int32).toInt = 1 by decide)).mp hcn)
      exact m_74_50_39 hd  h
    · replace h := h.2 (fun q => hcn ((i_eq (x := zg s 43 (s.1 82 3)) (y := 1) rfl (show (1 : Int32).toInt = 1 by decide)).mpr q))
      refine zn_ld rfl rfl rfl ?_
      refine zn_get (v := .ref 39) rfl (zv_C (a := 82) (n := 0) rfl rfl rfl) ?_
      refine zn_c [.int 1, .ref 39] (xo_push (.int 1)) rfl rfl ?_
      refine zn_c [.int 16, .int 1, .ref 39] (xo_push (.int 16)) rfl rfl ?_
      refine zn_ld rfl rfl rfl ?_
      refine zn_get (v := .ref 40) rfl (zv_C (a := 82) (n := 1) rfl rfl rfl) ?_
      refine zn_get (v := .ref 45) rfl (zv_R (a := 40) rfl rfl) ?_
      refine zn_ld rfl rfl rfl ?_
      refine zn_get (v := .int (s.1 82 3)) rfl (zv_I (a := 82) rfl rfl) ?_
      refine zn_row (s.1 82 3) [.int 16, .int 1, .ref 39] (a := 45) hd rfl rfl rfl rfl ?_
      change Zn _ _ _ _ _ _ _ _ _ _ _ [.int (zg s 45 (s.1 82 3)), .int 16, .int 1, .ref 39] _ _
      replace h := h _ (i_mul (x := 16) (y := zg s 45 (s.1 82 3)) (show (16 : Int32).toInt = 16 by decide) rfl)
      refine zn_c [.int (16 * (zg s 45 (s.1 82 3))), .int 1, .ref 39] xo_imul rfl rfl ?_
      replace h := h _ (i_add (x := 1) (y := (16 * (zg s 45 (s.1 82 3)))) (show (1 : Int32).toInt = 1 by decide) rfl)
      refine zn_c [.int (1 + (16 * (zg s 45 (s.1 82 3)))), .ref 39] xo_iadd rfl rfl ?_
      refine zn_putI (a := 39) rfl rfl rfl rfl ⟨Int32.le_toInt _, Int.le_of_lt_add_one (Int32.toInt_lt _)⟩ rfl rfl rfl ?_
      replace h := h _ rfl
      exact m_74_50_39 hd  h
set_option maxRecDepth 20000 in
theorem m_74_0_39 {d d0 : Nat} (hd : d = d0 + 8)  {a1 : Int32} {s : zS} {Q : Option Value → zS → Prop}  (h : v_74_0 (fun j => Zt d (wd 39 j) j) 39  a1 s Q) : Zn d [] [(39, 98)] ([(82, 0, 39), (82, 1, 40), (82, 2, 43)] : zW) ([(82, 0, 39), (82, 1, 40), (82, 2, 43)] : zW) xL_5 2 (none) xE_74 (xE_74.drop 0) [.ref 82, .int a1, .null, .null] [] s Q := by
  unfold v_74_0 at h
  refine zn_ld rfl rfl rfl ?_
  refine zn_get (v := .ref 39) rfl (zv_C (a := 82) (n := 0) rfl rfl rfl) ?_
  refine zn_get (v := .int (s.1 39 14)) rfl (zv_I (a := 39) rfl rfl) ?_
  refine zn_brN rfl rfl ⟨fun hcn => ?_, fun hcn => ?_⟩
  · replace h := h.1 (fun q => hcn ((i_eq (x := s.1 39 14) (y := 0) rfl (show (0 : Int32).toInt = 0 by decide)).mpr q))
    exact m_74_26_39 hd  h
  · replace h := h.2 ((i_eq (x := s.1 39 14) (y := 0) rfl (show (0 : Int32).toInt = 0 by decide)).mp hcn)
    refine zn_ld rfl rfl rfl ?_
    refine zn_brP rfl rfl ⟨fun hcn => ?_, fun hcn => ?_⟩
    · replace h := h.1 ((i_eq (x := a1) (y := 0) rfl (show (0 : Int32).toInt = 0 by decide)).mp hcn)
      exact m_74_26_39 hd  h
    · replace h := h.2 (fun q => hcn ((i_eq (x := a1) (y := 0) rfl (show (0 : Int32).toInt = 0 by decide)).mpr q))
      refine zn_ld rfl rfl rfl ?_
      refine zn_get (v := .ref 43) rfl (zv_C (a := 82) (n := 2) rfl rfl rfl) ?_
      refine zn_ld rfl rfl rfl ?_
      refine zn_get (v := .int (s.1 82 3)) rfl (zv_I (a := 82) rfl rfl) ?_
      refine zn_row (s.1 82 3) [] (a := 43) hd rfl rfl rfl rfl ?_
      change Zn _ _ _ _ _ _ _ _ _ _ _ [.int (zg s 43 (s.1 82 3))] _ _
      refine zn_c [.int 1, .int (zg s 43 (s.1 82 3))] (xo_push (.int 1)) rfl rfl ?_
      refine zn_brN rfl rfl ⟨fun hcn => ?_, fun hcn => ?_⟩
      · replace h := h.1 (fun q => hcn ((i_eq (x := zg s 43 (s.1 82 3)) (y := 1) rfl (show (1 : Int32).toInt = 1 by decide)).mpr q))
        exact m_74_26_39 hd  h
      · replace h := h.2 ((i_eq (x := zg s 43 (s.1 82 3)) (y := 1) rfl (show (1 : Int32).toInt = 1 by decide)).mp hcn)
        refine zn_ld rfl rfl rfl ?_
        refine zn_get (v := .ref 39) rfl (zv_C (a := 82) (n := 0) rfl rfl rfl) ?_
        refine zn_c [.int 5, .ref 39] (xo_push (.int 5)) rfl rfl ?_
        refine zn_c [.int 16, .int 5, .ref 39] (xo_push (.int 16)) rfl rfl ?_
        refine zn_ld rfl rfl rfl ?_
        refine zn_get (v := .ref 40) rfl (zv_C (a := 82) (n := 1) rfl rfl rfl) ?_
        refine zn_get (v := .ref 45) rfl (zv_R (a := 40) rfl rfl) ?_
        refine zn_ld rfl rfl rfl ?_
        refine zn_get (v := .int (s.1 82 3)) rfl (zv_I (a := 82) rfl rfl) ?_
        refine zn_row (s.1 82 3) [.int 16, .int 5, .ref 39] (a := 45) hd rfl rfl rfl rfl ?_
        change Zn _ _ _ _ _ _ _ _ _ _ _ [.int (zg s 45 (s.1 82 3)), .int 16, .int 5, .ref 39] _ _
        replace h := h _ (i_mul (x := 16) (y := zg s 45 (s.1 82 3)) (show (16 : Int32).toInt = 16 by decide) rfl)
        refine zn_c [.int (16 * (zg s 45 (s.1 82 3))), .int 5, .ref 39] xo_imul rfl rfl ?_
        replace h := h _ (i_add (x := 5) (y := (16 * (zg s 45 (s.1 82 3)))) (show (5 : Int32).toInt = 5 by decide) rfl)
        refine zn_c [.int (5 + (16 * (zg s 45 (s.1 82 3)))), .ref 39] xo_iadd rfl rfl ?_
        refine zn_putI (a := 39) rfl rfl rfl rfl ⟨Int32.le_toInt _, Int.le_of_lt_add_one (Int32.toInt_lt _)⟩ rfl rfl rfl ?_
        replace h := h _ rfl
        exact m_74_26_39 hd  h
theorem zq_74_39 {d : Nat} {a1 : Int32} {s : zS} {Q : Option Value → zS → Prop} (h : v_74_0 (fun j => Zt (d + 8) (wd 39 j) j) 39 a1 s Q) : Zt (d + 9) ([(82, 0, 39), (82, 1, 40), (82, 2, 43)] : zW) 74 [.ref 82, .int a1] s Q := zt_of (E := xE_74) (L := xL_5) (ml := 2) (ret := none) rfl rfl rfl (m_74_0_39 rfl h)
theorem zc_74 {d P : Nat} (hP : P = 3 ∨ P = 39) {a1 : Int32} {s : zS} {Q : Option Value → zS → Prop} (h : v_74_0 (fun j => Zt (d + 8) (wd P j) j) P a1 s Q) : Zt (d + 9) (wd P 74) 74 [.ref 82, .int a1] s Q := by
  rcases hP with rfl | rfl
  · exact zq_74_3 h
  · exact zq_74_39 h
/-! FeatherBench$Reader.readParams -/
def v_64_26 (T : Nat → List Value → zS → (Option Value → zS → Prop) → Prop) (P : Nat)  (a1 : Int32) (a2 : Int32) (s : zS) (Q : Option Value → zS → Prop) : Prop :=
  T 73 [.ref 82, .int 93] s (fun v1 s2 => v1 = none ∧ (Q (some (.int a2)) s2))
def v_64_17 (T : Nat → List Value → zS → (Option Value → zS → Prop) → Prop) (P : Nat) (R2 : Int32 → Int32 → zS → Prop) (a1 : Int32) (a2 : Int32) (t1 : Int32) (s : zS) (Q : Option Value → zS → Prop) : Prop :=
  T 74 [.ref 82, .int t1] s (fun v1 s2 => v1 = none ∧ (∀ x3 : Int32, (-2147483648 ≤ a2.toInt + 1 ∧ a2.toInt + 1 ≤ 2147483647 → x3.toInt = a2.toInt + 1) → (6 < x3.toInt → v_64_26 T P  a1 x3 s2 Q) ∧ (¬ (6 < x3.toInt) → T 72 [.ref 82, .int 44] s2 (fun v4 s5 => ∃ x6, v4 = some (.int x6) ∧ ((¬ (x6.toInt = 0) → R2 a1 x3 s5) ∧ (x6.toInt = 0 → v_64_26 T P  a1 x3 s5 Q))))))
def v_64_2 (T : Nat → List Value → zS → (Option Value → zS → Prop) → Prop) (P : Nat) (R2 : Int32 → Int32 → zS → Prop) (a1 : Int32) (a2 : Int32) (s : zS) (Q : Option Value → zS → Prop) : Prop :=
  T 54 [.ref P, .int (s.1 82 3), .int 1, .int (-1), .int a1] s (fun v1 s2 => v1 = none ∧ ((a2.toInt < 6 → v_64_17 T P R2 a1 a2 0 s2 Q) ∧ (¬ (a2.toInt < 6) → v_64_17 T P R2 a1 a2 1 s2 Q)))
def vl_64_2 (T : Nat → List Value → zS → (Option Value → zS → Prop) → Prop) (P : Nat)  (a1 : Int32) (a2 : Int32) (s : zS) (Q : Option Value → zS → Prop) : Prop :=
  ∃ (I : Int32 → Int32 → zS → Prop) (μ : Int32 → Int32 → zS → Nat), I a1 a2 s ∧ ∀ (a1 : Int32) (a2 : Int32) (s : zS), I a1 a2 s → v_64_2 T P (fun a1' a2' s' => I a1' a2' s' ∧ μ a1' a2' s' < μ a1 a2 s) a1 a2 s Q
def v_64_0 (T : Nat → List Value → zS → (Option Value → zS → Prop) → Prop) (P : Nat)  (a1 : Int32) (s : zS) (Q : Option Value → zS → Prop) : Prop :=
  vl_64_2 T P  a1 0 s Q
set_option maxRecDepth 20000 in
theorem m_64_26_3 {d d0 : Nat} (hd : d = d0 + 8)  {a1 : Int32} {a2 : Int32} {s : zS} {Q : Option Value → zS → Prop}  (h : v_64_26 (fun j => Zt d (wd 3 j) j) 3  a1 a2 s Q) : Zn d [] [(3, 99), (3, 98)] ([(82, 0, 3), (82, 1, 4), (82, 2, 7)] : zW) ([(82, 0, 3), (82, 1, 4), (82, 2, 7)] : zW) xL_5 3 (some .int) xE_64 (xE_64.drop 26) [.ref 82, .int a1, .int a2, .null, .null] [] s Q := by
  unfold v_64_26 at h
  refine zn_ld rfl rfl rfl ?_
  refine zn_c [.int 93, .ref 82] (xo_push (.int 93)) rfl rfl ?_
  refine zn_zt [.ref 82, .int 93] [] rfl rfl rfl rfl rfl (Zt.imp h (fun v1 s2 h => ?_))
  obtain ⟨rfl, h⟩ := h
  change Zn _ _ _ _ _ _ _ _ _ _ _ [] _ _
  refine zn_ld rfl rfl rfl ?_
  exact zn_retI rfl h
set_option maxRecDepth 20000 in
theorem m_64_17_3 {d d0 : Nat} (hd : d = d0 + 8) {R2 : Int32 → Int32 → zS → Prop} {a1 : Int32} {a2 : Int32} {t1 : Int32} {s : zS} {Q : Option Value → zS → Prop} (r2 : ∀ a1 a2 s, R2 a1 a2 s → Zn d [] [(3, 99), (3, 98)] ([(82, 0, 3), (82, 1, 4), (82, 2, 7)] : zW) ([(82, 0, 3), (82, 1, 4), (82, 2, 7)] : zW) xL_5 3 (some .int) xE_64 (xE_64.drop 2) [.ref 82, .int a1, .int a2, .null, .null] [] s Q) (h : v_64_17 (fun j => Zt d (wd 3 j) j) 3 R2 a1 a2 t1 s Q) : Zn d [] [(3, 99), (3, 98)] ([(82, 0, 3), (82, 1, 4), (82, 2, 7)] : zW) ([(82, 0, 3), (82, 1, 4), (82, 2, 7)] : zW) xL_5 3 (some .int) xE_64 (xE_64.drop 17) [.ref 82, .int a1, .int a2, .null, .null] [.int t1, .ref 82] s Q := by
  unfold v_64_17 at h
  refine zn_zt [.ref 82, .int t1] [] rfl rfl rfl rfl rfl (Zt.imp h (fun v1 s2 h => ?_))
  obtain ⟨rfl, h⟩ := h
  change Zn _ _ _ _ _ _ _ _ _ _ _ [] _ _
  replace h := h _ (i_add (x := a2) (y := 1) rfl (show (1 : Int32).toInt = 1 by decide))
  refine zn_inc [.ref 82, .int a1, .int (a2 + 1), .null, .null] rfl rfl rfl rfl ?_
  refine zn_ld rfl rfl rfl ?_
  refine zn_c [.int 6, .int (a2 + 1)] (xo_push (.int 6)) rfl rfl ?_
  refine zn_brP rfl rfl ⟨fun hcn => ?_, fun hcn => ?_⟩
  · replace h := h.1 ((i_lt (x := 6) (y := (a2 + 1)) (show (6 : Int32).toInt = 6 by decide) rfl).mp hcn)
    exact m_64_26_3 hd  h
  · replace h := h.2 (fun q => hcn ((i_lt (x := 6) (y := (a2 + 1)) (show (6 : Int32).toInt = 6 by decide) rfl).mpr q))
    refine zn_ld rfl rfl rfl ?_
    refine zn_c [.int 44, .ref 82] (xo_push (.int 44)) rfl rfl ?_
    refine zn_zt [.ref 82, .int 44] [] rfl rfl rfl rfl rfl (Zt.imp h (fun v4 s5 h => ?_))
    obtain ⟨x6, rfl, h⟩ := h
    change Zn _ _ _ _ _ _ _ _ _ _ _ [.int x6] _ _
    refine zn_brN rfl rfl ⟨fun hcn => ?_, fun hcn => ?_⟩
    · replace h := h.1 (fun q => hcn ((i_eq (x := x6) (y := 0) rfl (show (0 : Int32).toInt = 0 by decide)).mpr q))
      exact r2 a1 (a2 + 1) s5 h
    · replace h := h.2 ((i_eq (x := x6) (y := 0) rfl (show (0 : Int32).toInt = 0 by decide)).mp hcn)
      exact m_64_26_3 hd  h
set_option maxRecDepth 20000 in
theorem m_64_2_3 {d d0 : Nat} (hd : d = d0 + 8) {R2 : Int32 → Int32 → zS → Prop} {a1 : Int32} {a2 : Int32} {s : zS} {Q : Option Value → zS → Prop} (r2 : ∀ a1 a2 s, R2 a1 a2 s → Zn d [] [(3, 99), (3, 98)] ([(82, 0, 3), (82, 1, 4), (82, 2, 7)] : zW) ([(82, 0, 3), (82, 1, 4), (82, 2, 7)] : zW) xL_5 3 (some .int) xE_64 (xE_64.drop 2) [.ref 82, .int a1, .int a2, .null, .null] [] s Q) (h : v_64_2 (fun j => Zt d (wd 3 j) j) 3 R2 a1 a2 s Q) : Zn d [] [(3, 99), (3, 98)] ([(82, 0, 3), (82, 1, 4), (82, 2, 7)] : zW) ([(82, 0, 3), (82, 1, 4), (82, 2, 7)] : zW) xL_5 3 (some .int) xE_64 (xE_64.drop 2) [.ref 82, .int a1, .int a2, .null, .null] [] s Q := by
  unfold v_64_2 at h
  refine zn_ld rfl rfl rfl ?_
  refine zn_get (v := .ref 3) rfl (zv_C (a := 82) (n := 0) rfl rfl rfl) ?_
  refine zn_ld rfl rfl rfl ?_
  refine zn_get (v := .int (s.1 82 3)) rfl (zv_I (a := 82) rfl rfl) ?_
  refine zn_c [.int 1, .int (s.1 82 3), .ref 3] (xo_push (.int 1)) rfl rfl ?_
  refine zn_c [.int (-1), .int 1, .int (s.1 82 3), .ref 3] (xo_push (.int (-1))) rfl rfl ?_
  refine zn_ld rfl rfl rfl ?_
  refine zn_zt [.ref 3, .int (s.1 82 3), .int 1, .int (-1), .int a1] [] rfl rfl rfl rfl rfl (Zt.imp h (fun v1 s2 h => ?_))
  obtain ⟨rfl, h⟩ := h
  change Zn _ _ _ _ _ _ _ _ _ _ _ [] _ _
  refine zn_ld rfl rfl rfl ?_
  refine zn_ld rfl rfl rfl ?_
  refine zn_c [.int 6, .int a2, .ref 82] (xo_push (.int 6)) rfl rfl ?_
  refine zn_brP rfl rfl ⟨fun hcn => ?_, fun hcn => ?_⟩
  · replace h := h.1 ((i_lt (x := a2) (y := 6) rfl (show (6 : Int32).toInt = 6 by decide)).mp hcn)
    refine zn_c [.int 0, .ref 82] (xo_push (.int 0)) rfl rfl ?_
    exact m_64_17_3 hd r2 h
  · replace h := h.2 (fun q => hcn ((i_lt (x := a2) (y := 6) rfl (show (6 : Int32).toInt = 6 by decide)).mpr q))
    refine zn_c [.int 1, .ref 82] (xo_push (.int 1)) rfl rfl ?_
    refine zn_go rfl ?_
    exact m_64_17_3 hd r2 h
theorem ml_64_2_3 {d d0 : Nat} (hd : d = d0 + 8)  {a1 : Int32} {a2 : Int32} {s : zS} {Q : Option Value → zS → Prop}  (h : vl_64_2 (fun j => Zt d (wd 3 j) j) 3  a1 a2 s Q) : Zn d [] [(3, 99), (3, 98)] ([(82, 0, 3), (82, 1, 4), (82, 2, 7)] : zW) ([(82, 0, 3), (82, 1, 4), (82, 2, 7)] : zW) xL_5 3 (some .int) xE_64 (xE_64.drop 2) [.ref 82, .int a1, .int a2, .null, .null] [] s Q := by
  obtain ⟨I, μ, h0, h1⟩ := h
  have key : ∀ (n : Nat) (a1 : Int32) (a2 : Int32) (s : zS), μ a1 a2 s = n → I a1 a2 s → Zn d [] [(3, 99), (3, 98)] ([(82, 0, 3), (82, 1, 4), (82, 2, 7)] : zW) ([(82, 0, 3), (82, 1, 4), (82, 2, 7)] : zW) xL_5 3 (some .int) xE_64 (xE_64.drop 2) [.ref 82, .int a1, .int a2, .null, .null] [] s Q := by
    intro n
    induction n using Nat.strongRecOn with
    | ind n ih =>
      intro a1 a2 s e hI
      exact m_64_2_3 hd (fun a1' a2' s' q => ih _ (by rw [← e]; exact q.2) a1' a2' s' rfl q.1) (h1 a1 a2 s hI)
  exact key _ a1 a2 s rfl h0
set_option maxRecDepth 20000 in
theorem m_64_0_3 {d d0 : Nat} (hd : d = d0 + 8)  {a1 : Int32} {s : zS} {Q : Option Value → zS → Prop}  (h : v_64_0 (fun j => Zt d (wd 3 j) j) 3  a1 s Q) : Zn d [] [(3, 99), (3, 98)] ([(82, 0, 3), (82, 1, 4), (82, 2, 7)] : zW) ([(82, 0, 3), (82, 1, 4), (82, 2, 7)] : zW) xL_5 3 (some .int) xE_64 (xE_64.drop 0) [.ref 82, .int a1, .null, .null, .null] [] s Q := by
  unfold v_64_0 at h
  refine zn_c [.int 0] (xo_push (.int 0)) rfl rfl ?_
  refine zn_st [.ref 82, .int a1, .int 0, .null, .null] rfl rfl rfl ?_
  exact ml_64_2_3 hd  h
theorem zq_64_3 {d : Nat} {a1 : Int32} {s : zS} {Q : Option Value → zS → Prop} (h : v_64_0 (fun j => Zt (d + 8) (wd 3 j) j) 3 a1 s Q) : Zt (d + 9) ([(82, 0, 3), (82, 1, 4), (82, 2, 7)] : zW) 64 [.ref 82, .int a1] s Q := zt_of (E := xE_64) (L := xL_5) (ml := 3) (ret := some .int) rfl rfl rfl (m_64_0_3 rfl h)
set_option maxRecDepth 20000 in
theorem m_64_26_39 {d d0 : Nat} (hd : d = d0 + 8)  {a1 : Int32} {a2 : Int32} {s : zS} {Q : Option Value → zS → Prop}  (h : v_64_26 (fun j => Zt d (wd 39 j) j) 39  a1 a2 s Q) : Zn d [] [(39, 99), (39, 98)] ([(82, 0, 39), (82, 1, 40), (82, 2, 43)] : zW) ([(82, 0, 39), (82, 1, 40), (82, 2, 43)] : zW) xL_5 3 (some .int) xE_64 (xE_64.drop 26) [.ref 82, .int a1, .int a2, .null, .null] [] s Q := by
  unfold v_64_26 at h
  refine zn_ld rfl rfl rfl ?_
  refine zn_c [.int 93, .ref 82] (xo_push (.int 93)) rfl rfl ?_
  refine zn_zt [.ref 82, .int 93] [] rfl rfl rfl rfl rfl (Zt.imp h (fun v1 s2 h => ?_))
  obtain ⟨rfl, h⟩ := h
  change Zn _ _ _ _ _ _ _ _ _ _ _ [] _ _
  refine zn_ld rfl rfl rfl ?_
  exact zn_retI rfl h
set_option maxRecDepth 20000 in
theorem m_64_17_39 {d d0 : Nat} (hd : d = d0 + 8) {R2 : Int32 → Int32 → zS → Prop} {a1 : Int32} {a2 : Int32} {t1 : Int32} {s : zS} {Q : Option Value → zS → Prop} (r2 : ∀ a1 a2 s, R2 a1 a2 s → Zn d [] [(39, 99), (39, 98)] ([(82, 0, 39), (82, 1, 40), (82, 2, 43)] : zW) ([(82, 0, 39), (82, 1, 40), (82, 2, 43)] : zW) xL_5 3 (some .int) xE_64 (xE_64.drop 2) [.ref 82, .int a1, .int a2, .null, .null] [] s Q) (h : v_64_17 (fun j => Zt d (wd 39 j) j) 39 R2 a1 a2 t1 s Q) : Zn d [] [(39, 99), (39, 98)] ([(82, 0, 39), (82, 1, 40), (82, 2, 43)] : zW) ([(82, 0, 39), (82, 1, 40), (82, 2, 43)] : zW) xL_5 3 (some .int) xE_64 (xE_64.drop 17) [.ref 82, .int a1, .int a2, .null, .null] [.int t1, .ref 82] s Q := by
  unfold v_64_17 at h
  refine zn_zt [.ref 82, .int t1] [] rfl rfl rfl rfl rfl (Zt.imp h (fun v1 s2 h => ?_))
  obtain ⟨rfl, h⟩ := h
  change Zn _ _ _ _ _ _ _ _ _ _ _ [] _ _
  replace h := h _ (i_add (x := a2) (y := 1) rfl (show (1 : Int32).toInt = 1 by decide))
  refine zn_inc [.ref 82, .int a1, .int (a2 + 1), .null, .null] rfl rfl rfl rfl ?_
  refine zn_ld rfl rfl rfl ?_
  refine zn_c [.int 6, .int (a2 + 1)] (xo_push (.int 6)) rfl rfl ?_
  refine zn_brP rfl rfl ⟨fun hcn => ?_, fun hcn => ?_⟩
  · replace h := h.1 ((i_lt (x := 6) (y := (a2 + 1)) (show (6 : Int32).toInt = 6 by decide) rfl).mp hcn)
    exact m_64_26_39 hd  h
  · replace h := h.2 (fun q => hcn ((i_lt (x := 6) (y := (a2 + 1)) (show (6 : Int32).toInt = 6 by decide) rfl).mpr q))
    refine zn_ld rfl rfl rfl ?_
    refine zn_c [.int 44, .ref 82] (xo_push (.int 44)) rfl rfl ?_
    refine zn_zt [.ref 82, .int 44] [] rfl rfl rfl rfl rfl (Zt.imp h (fun v4 s5 h => ?_))
    obtain ⟨x6, rfl, h⟩ := h
    change Zn _ _ _ _ _ _ _ _ _ _ _ [.int x6] _ _
    refine zn_brN rfl rfl ⟨fun hcn => ?_, fun hcn => ?_⟩
    · replace h := h.1 (fun q => hcn ((i_eq (x := x6) (y := 0) rfl (show (0 : Int32).toInt = 0 by decide)).mpr q))
      exact r2 a1 (a2 + 1) s5 h
    · replace h := h.2 ((i_eq (x := x6) (y := 0) rfl (show (0 : Int32).toInt = 0 by decide)).mp hcn)
      exact m_64_26_39 hd  h
set_option maxRecDepth 20000 in
theorem m_64_2_39 {d d0 : Nat} (hd : d = d0 + 8) {R2 : Int32 → Int32 → zS → Prop} {a1 : Int32} {a2 : Int32} {s : zS} {Q : Option Value → zS → Prop} (r2 : ∀ a1 a2 s, R2 a1 a2 s → Zn d [] [(39, 99), (39, 98)] ([(82, 0, 39), (82, 1, 40), (82, 2, 43)] : zW) ([(82, 0, 39), (82, 1, 40), (82, 2, 43)] : zW) xL_5 3 (some .int) xE_64 (xE_64.drop 2) [.ref 82, .int a1, .int a2, .null, .null] [] s Q) (h : v_64_2 (fun j => Zt d (wd 39 j) j) 39 R2 a1 a2 s Q) : Zn d [] [(39, 99), (39, 98)] ([(82, 0, 39), (82, 1, 40), (82, 2, 43)] : zW) ([(82, 0, 39), (82, 1, 40), (82, 2, 43)] : zW) xL_5 3 (some .int) xE_64 (xE_64.drop 2) [.ref 82, .int a1, .int a2, .null, .null] [] s Q := by
  unfold v_64_2 at h
  refine zn_ld rfl rfl rfl ?_
  refine zn_get (v := .ref 39) rfl (zv_C (a := 82) (n := 0) rfl rfl rfl) ?_
  refine zn_ld rfl rfl rfl ?_
  refine zn_get (v := .int (s.1 82 3)) rfl (zv_I (a := 82) rfl rfl) ?_
  refine zn_c [.int 1, .int (s.1 82 3), .ref 39] (xo_push (.int 1)) rfl rfl ?_
  refine zn_c [.int (-1), .int 1, .int (s.1 82 3), .ref 39] (xo_push (.int (-1))) rfl rfl ?_
  refine zn_ld rfl rfl rfl ?_
  refine zn_zt [.ref 39, .int (s.1 82 3), .int 1, .int (-1), .int a1] [] rfl rfl rfl rfl rfl (Zt.imp h (fun v1 s2 h => ?_))
  obtain ⟨rfl, h⟩ := h
  change Zn _ _ _ _ _ _ _ _ _ _ _ [] _ _
  refine zn_ld rfl rfl rfl ?_
  refine zn_ld rfl rfl rfl ?_
  refine zn_c [.int 6, .int a2, .ref 82] (xo_push (.int 6)) rfl rfl ?_
  refine zn_brP rfl rfl ⟨fun hcn => ?_, fun hcn => ?_⟩
  · replace h := h.1 ((i_lt (x := a2) (y := 6) rfl (show (6 : Int32).toInt = 6 by decide)).mp hcn)
    refine zn_c [.int 0, .ref 82] (xo_push (.int 0)) rfl rfl ?_
    exact m_64_17_39 hd r2 h
  · replace h := h.2 (fun q => hcn ((i_lt (x := a2) (y := 6) rfl (show (6 : Int32).toInt = 6 by decide)).mpr q))
    refine zn_c [.int 1, .ref 82] (xo_push (.int 1)) rfl rfl ?_
    refine zn_go rfl ?_
    exact m_64_17_39 hd r2 h
theorem ml_64_2_39 {d d0 : Nat} (hd : d = d0 + 8)  {a1 : Int32} {a2 : Int32} {s : zS} {Q : Option Value → zS → Prop}  (h : vl_64_2 (fun j => Zt d (wd 39 j) j) 39  a1 a2 s Q) : Zn d [] [(39, 99), (39, 98)] ([(82, 0, 39), (82, 1, 40), (82, 2, 43)] : zW) ([(82, 0, 39), (82, 1, 40), (82, 2, 43)] : zW) xL_5 3 (some .int) xE_64 (xE_64.drop 2) [.ref 82, .int a1, .int a2, .null, .null] [] s Q := by
  obtain ⟨I, μ, h0, h1⟩ := h
  have key : ∀ (n : Nat) (a1 : Int32) (a2 : Int32) (s : zS), μ a1 a2 s = n → I a1 a2 s → Zn d [] [(39, 99), (39, 98)] ([(82, 0, 39), (82, 1, 40), (82, 2, 43)] : zW) ([(82, 0, 39), (82, 1, 40), (82, 2, 43)] : zW) xL_5 3 (some .int) xE_64 (xE_64.drop 2) [.ref 82, .int a1, .int a2, .null, .null] [] s Q := by
    intro n
    induction n using Nat.strongRecOn with
    | ind n ih =>
      intro a1 a2 s e hI
      exact m_64_2_39 hd (fun a1' a2' s' q => ih _ (by rw [← e]; exact q.2) a1' a2' s' rfl q.1) (h1 a1 a2 s hI)
  exact key _ a1 a2 s rfl h0
set_option maxRecDepth 20000 in
theorem m_64_0_39 {d d0 : Nat} (hd : d = d0 + 8)  {a1 : Int32} {s : zS} {Q : Option Value → zS → Prop}  (h : v_64_0 (fun j => Zt d (wd 39 j) j) 39  a1 s Q) : Zn d [] [(39, 99), (39, 98)] ([(82, 0, 39), (82, 1, 40), (82, 2, 43)] : zW) ([(82, 0, 39), (82, 1, 40), (82, 2, 43)] : zW) xL_5 3 (some .int) xE_64 (xE_64.drop 0) [.ref 82, .int a1, .null, .null, .null] [] s Q := by
  unfold v_64_0 at h
  refine zn_c [.int 0] (xo_push (.int 0)) rfl rfl ?_
  refine zn_st [.ref 82, .int a1, .int 0, .null, .null] rfl rfl rfl ?_
  exact ml_64_2_39 hd  h
theorem zq_64_39 {d : Nat} {a1 : Int32} {s : zS} {Q : Option Value → zS → Prop} (h : v_64_0 (fun j => Zt (d + 8) (wd 39 j) j) 39 a1 s Q) : Zt (d + 9) ([(82, 0, 39), (82, 1, 40), (82, 2, 43)] : zW) 64 [.ref 82, .int a1] s Q := zt_of (E := xE_64) (L := xL_5) (ml := 3) (ret := some .int) rfl rfl rfl (m_64_0_39 rfl h)
theorem zc_64 {d P : Nat} (hP : P = 3 ∨ P = 39) {a1 : Int32} {s : zS} {Q : Option Value → zS → Prop} (h : v_64_0 (fun j => Zt (d + 8) (wd P j) j) P a1 s Q) : Zt (d + 9) (wd P 64) 64 [.ref 82, .int a1] s Q := by
  rcases hP with rfl | rfl
  · exact zq_64_3 h
  · exact zq_64_39 h
/-! FeatherBench$Reader.readNamed -/
def v_65_33 (T : Nat → List Value → zS → (Option Value → zS → Prop) → Prop) (P : Nat)  (a1 : Int32) (a2 : Int32) (a3 : Int32) (a4 : Int32) (a5 : Int32) (s : zS) (Q : Option Value → zS → Prop) : Prop :=
  T 73 [.ref 82, .int a1] s (fun v1 s2 => v1 = none ∧ (Q (some (.int a4)) s2))
def v_65_12 (T : Nat → List Value → zS → (Option Value → zS → Prop) → Prop) (P : Nat) (R2 : Int32 → Int32 → Int32 → Int32 → zS → Prop) (a1 : Int32) (a2 : Int32) (a3 : Int32) (a4 : Int32) (a5 : Int32) (t1 : Int32) (s : zS) (Q : Option Value → zS → Prop) : Prop :=
  T 74 [.ref 82, .int t1] s (fun v1 s2 => v1 = none ∧ (T 54 [.ref P, .int a5, .int a2, .int (s2.1 82 3), .int a3] s2 (fun v3 s4 => v3 = none ∧ (T 67 [.ref 82, .int 1, .int 0] s4 (fun v5 s6 => v5 = none ∧ (∀ x7 : Int32, (-2147483648 ≤ a4.toInt + 1 ∧ a4.toInt + 1 ≤ 2147483647 → x7.toInt = a4.toInt + 1) → (6 < x7.toInt → v_65_33 T P  a1 a2 a3 x7 a5 s6 Q) ∧ (¬ (6 < x7.toInt) → T 72 [.ref 82, .int 44] s6 (fun v8 s9 => ∃ x10, v8 = some (.int x10) ∧ ((¬ (x10.toInt = 0) → R2 a1 a2 a3 x7 s9) ∧ (x10.toInt = 0 → v_65_33 T P  a1 a2 a3 x7 a5 s9 Q))))))))))
def v_65_2 (T : Nat → List Value → zS → (Option Value → zS → Prop) → Prop) (P : Nat) (R2 : Int32 → Int32 → Int32 → Int32 → zS → Prop) (a1 : Int32) (a2 : Int32) (a3 : Int32) (a4 : Int32) (s : zS) (Q : Option Value → zS → Prop) : Prop :=
  (a4.toInt < 6 → v_65_12 T P R2 a1 a2 a3 a4 (s.1 82 3) 0 s Q) ∧ (¬ (a4.toInt < 6) → v_65_12 T P R2 a1 a2 a3 a4 (s.1 82 3) 1 s Q)
def vl_65_2 (T : Nat → List Value → zS → (Option Value → zS → Prop) → Prop) (P : Nat)  (a1 : Int32) (a2 : Int32) (a3 : Int32) (a4 : Int32) (s : zS) (Q : Option Value → zS → Prop) : Prop :=
  ∃ (I : Int32 → Int32 → Int32 → Int32 → zS → Prop) (μ : Int32 → Int32 → Int32 → Int32 → zS → Nat), I a1 a2 a3 a4 s ∧ ∀ (a1 : Int32) (a2 : Int32) (a3 : Int32) (a4 : Int32) (s : zS), I a1 a2 a3 a4 s → v_65_2 T P (fun a1' a2' a3' a4' s' => I a1' a2' a3' a4' s' ∧ μ a1' a2' a3' a4' s' < μ a1 a2 a3 a4 s) a1 a2 a3 a4 s Q
def v_65_0 (T : Nat → List Value → zS → (Option Value → zS → Prop) → Prop) (P : Nat)  (a1 : Int32) (a2 : Int32) (a3 : Int32) (s : zS) (Q : Option Value → zS → Prop) : Prop :=
  vl_65_2 T P  a1 a2 a3 0 s Q
set_option maxRecDepth 20000 in
theorem m_65_33_3 {d d0 : Nat} (hd : d = d0 + 8)  {a1 : Int32} {a2 : Int32} {a3 : Int32} {a4 : Int32} {a5 : Int32} {s : zS} {Q : Option Value → zS → Prop}  (h : v_65_33 (fun j => Zt d (wd 3 j) j) 3  a1 a2 a3 a4 a5 s Q) : Zn d [] [(3, 99), (3, 98)] ([(82, 0, 3), (82, 1, 4), (82, 2, 7)] : zW) ([(82, 0, 3), (82, 1, 4), (82, 2, 7)] : zW) xL_5 6 (some .int) xE_65 (xE_65.drop 33) [.ref 82, .int a1, .int a2, .int a3, .int a4, .int a5, .null, .null, .null, .null] [] s Q := by
  unfold v_65_33 at h
  refine zn_ld rfl rfl rfl ?_
  refine zn_ld rfl rfl rfl ?_
  refine zn_zt [.ref 82, .int a1] [] rfl rfl rfl rfl rfl (Zt.imp h (fun v1 s2 h => ?_))
  obtain ⟨rfl, h⟩ := h
  change Zn _ _ _ _ _ _ _ _ _ _ _ [] _ _
  refine zn_ld rfl rfl rfl ?_
  exact zn_retI rfl h
set_option maxRecDepth 20000 in
theorem m_65_12_3 {d d0 : Nat} (hd : d = d0 + 8) {R2 : Int32 → Int32 → Int32 → Int32 → zS → Prop} {a1 : Int32} {a2 : Int32} {a3 : Int32} {a4 : Int32} {a5 : Int32} {t1 : Int32} {s : zS} {Q : Option Value → zS → Prop} (r2 : ∀ a1 a2 a3 a4 s, R2 a1 a2 a3 a4 s → Zn d [] [(3, 99), (3, 98)] ([(82, 0, 3), (82, 1, 4), (82, 2, 7)] : zW) ([(82, 0, 3), (82, 1, 4), (82, 2, 7)] : zW) xL_5 6 (some .int) xE_65 (xE_65.drop 2) [.ref 82, .int a1, .int a2, .int a3, .int a4, .null, .null, .null, .null, .null] [] s Q) (h : v_65_12 (fun j => Zt d (wd 3 j) j) 3 R2 a1 a2 a3 a4 a5 t1 s Q) : Zn d [] [(3, 99), (3, 98)] ([(82, 0, 3), (82, 1, 4), (82, 2, 7)] : zW) ([(82, 0, 3), (82, 1, 4), (82, 2, 7)] : zW) xL_5 6 (some .int) xE_65 (xE_65.drop 12) [.ref 82, .int a1, .int a2, .int a3, .int a4, .int a5, .null, .null, .null, .null] [.int t1, .ref 82] s Q := by
  unfold v_65_12 at h
  refine zn_zt [.ref 82, .int t1] [] rfl rfl rfl rfl rfl (Zt.imp h (fun v1 s2 h => ?_))
  obtain ⟨rfl, h⟩ := h
  change Zn _ _ _ _ _ _ _ _ _ _ _ [] _ _
  refine zn_ld rfl rfl rfl ?_
  refine zn_get (v := .ref 3) rfl (zv_C (a := 82) (n := 0) rfl rfl rfl) ?_
  refine zn_ld rfl rfl rfl ?_
  refine zn_ld rfl rfl rfl ?_
  refine zn_ld rfl rfl rfl ?_
  refine zn_get (v := .int (s2.1 82 3)) rfl (zv_I (a := 82) rfl rfl) ?_
  refine zn_ld rfl rfl rfl ?_
  refine zn_zt [.ref 3, .int a5, .int a2, .int (s2.1 82 3), .int a3] [] rfl rfl rfl rfl rfl (Zt.imp h (fun v3 s4 h => ?_))
  obtain ⟨rfl, h⟩ := h
  change Zn _ _ _ _ _ _ _ _ _ _ _ [] _ _
  refine zn_ld rfl rfl rfl ?_
  refine zn_c [.int 1, .ref 82] (xo_push (.int 1)) rfl rfl ?_
  refine zn_c [.int 0, .int 1, .ref 82] (xo_push (.int 0)) rfl rfl ?_
  refine zn_zt [.ref 82, .int 1, .int 0] [] rfl rfl rfl rfl rfl (Zt.imp h (fun v5 s6 h => ?_))
  obtain ⟨rfl, h⟩ := h
  change Zn _ _ _ _ _ _ _ _ _ _ _ [] _ _
  replace h := h _ (i_add (x := a4) (y := 1) rfl (show (1 : Int32).toInt = 1 by decide))
  refine zn_inc [.ref 82, .int a1, .int a2, .int a3, .int (a4 + 1), .int a5, .null, .null, .null, .null] rfl rfl rfl rfl ?_
  refine zn_ld rfl rfl rfl ?_
  refine zn_c [.int 6, .int (a4 + 1)] (xo_push (.int 6)) rfl rfl ?_
  refine zn_brP rfl rfl ⟨fun hcn => ?_, fun hcn => ?_⟩
  · replace h := h.1 ((i_lt (x := 6) (y := (a4 + 1)) (show (6 : Int32).toInt = 6 by decide) rfl).mp hcn)
    exact m_65_33_3 hd  h
  · replace h := h.2 (fun q => hcn ((i_lt (x := 6) (y := (a4 + 1)) (show (6 : Int32).toInt = 6 by decide) rfl).mpr q))
    refine zn_ld rfl rfl rfl ?_
    refine zn_c [.int 44, .ref 82] (xo_push (.int 44)) rfl rfl ?_
    refine zn_zt [.ref 82, .int 44] [] rfl rfl rfl rfl rfl (Zt.imp h (fun v8 s9 h => ?_))
    obtain ⟨x10, rfl, h⟩ := h
    change Zn _ _ _ _ _ _ _ _ _ _ _ [.int x10] _ _
    refine zn_brN rfl rfl ⟨fun hcn => ?_, fun hcn => ?_⟩
    · replace h := h.1 (fun q => hcn ((i_eq (x := x10) (y := 0) rfl (show (0 : Int32).toInt = 0 by decide)).mpr q))
      refine zn_fg 5 ?_
      exact r2 a1 a2 a3 (a4 + 1) s9 h
    · replace h := h.2 ((i_eq (x := x10) (y := 0) rfl (show (0 : Int32).toInt = 0 by decide)).mp hcn)
      exact m_65_33_3 hd  h
set_option maxRecDepth 20000 in
theorem m_65_2_3 {d d0 : Nat} (hd : d = d0 + 8) {R2 : Int32 → Int32 → Int32 → Int32 → zS → Prop} {a1 : Int32} {a2 : Int32} {a3 : Int32} {a4 : Int32} {s : zS} {Q : Option Value → zS → Prop} (r2 : ∀ a1 a2 a3 a4 s, R2 a1 a2 a3 a4 s → Zn d [] [(3, 99), (3, 98)] ([(82, 0, 3), (82, 1, 4), (82, 2, 7)] : zW) ([(82, 0, 3), (82, 1, 4), (82, 2, 7)] : zW) xL_5 6 (some .int) xE_65 (xE_65.drop 2) [.ref 82, .int a1, .int a2, .int a3, .int a4, .null, .null, .null, .null, .null] [] s Q) (h : v_65_2 (fun j => Zt d (wd 3 j) j) 3 R2 a1 a2 a3 a4 s Q) : Zn d [] [(3, 99), (3, 98)] ([(82, 0, 3), (82, 1, 4), (82, 2, 7)] : zW) ([(82, 0, 3), (82, 1, 4), (82, 2, 7)] : zW) xL_5 6 (some .int) xE_65 (xE_65.drop 2) [.ref 82, .int a1, .int a2, .int a3, .int a4, .null, .null, .null, .null, .null] [] s Q := by
  unfold v_65_2 at h
  refine zn_ld rfl rfl rfl ?_
  refine zn_get (v := .int (s.1 82 3)) rfl (zv_I (a := 82) rfl rfl) ?_
  refine zn_st [.ref 82, .int a1, .int a2, .int a3, .int a4, .int (s.1 82 3), .null, .null, .null, .null] rfl rfl rfl ?_
  refine zn_ld rfl rfl rfl ?_
  refine zn_ld rfl rfl rfl ?_
  refine zn_c [.int 6, .int a4, .ref 82] (xo_push (.int 6)) rfl rfl ?_
  refine zn_brP rfl rfl ⟨fun hcn => ?_, fun hcn => ?_⟩
  · replace h := h.1 ((i_lt (x := a4) (y := 6) rfl (show (6 : Int32).toInt = 6 by decide)).mp hcn)
    refine zn_c [.int 0, .ref 82] (xo_push (.int 0)) rfl rfl ?_
    exact m_65_12_3 hd r2 h
  · replace h := h.2 (fun q => hcn ((i_lt (x := a4) (y := 6) rfl (show (6 : Int32).toInt = 6 by decide)).mpr q))
    refine zn_c [.int 1, .ref 82] (xo_push (.int 1)) rfl rfl ?_
    refine zn_go rfl ?_
    exact m_65_12_3 hd r2 h
theorem ml_65_2_3 {d d0 : Nat} (hd : d = d0 + 8)  {a1 : Int32} {a2 : Int32} {a3 : Int32} {a4 : Int32} {s : zS} {Q : Option Value → zS → Prop}  (h : vl_65_2 (fun j => Zt d (wd 3 j) j) 3  a1 a2 a3 a4 s Q) : Zn d [] [(3, 99), (3, 98)] ([(82, 0, 3), (82, 1, 4), (82, 2, 7)] : zW) ([(82, 0, 3), (82, 1, 4), (82, 2, 7)] : zW) xL_5 6 (some .int) xE_65 (xE_65.drop 2) [.ref 82, .int a1, .int a2, .int a3, .int a4, .null, .null, .null, .null, .null] [] s Q := by
  obtain ⟨I, μ, h0, h1⟩ := h
  have key : ∀ (n : Nat) (a1 : Int32) (a2 : Int32) (a3 : Int32) (a4 : Int32) (s : zS), μ a1 a2 a3 a4 s = n → I a1 a2 a3 a4 s → Zn d [] [(3, 99), (3, 98)] ([(82, 0, 3), (82, 1, 4), (82, 2, 7)] : zW) ([(82, 0, 3), (82, 1, 4), (82, 2, 7)] : zW) xL_5 6 (some .int) xE_65 (xE_65.drop 2) [.ref 82, .int a1, .int a2, .int a3, .int a4, .null, .null, .null, .null, .null] [] s Q := by
    intro n
    induction n using Nat.strongRecOn with
    | ind n ih =>
      intro a1 a2 a3 a4 s e hI
      exact m_65_2_3 hd (fun a1' a2' a3' a4' s' q => ih _ (by rw [← e]; exact q.2) a1' a2' a3' a4' s' rfl q.1) (h1 a1 a2 a3 a4 s hI)
  exact key _ a1 a2 a3 a4 s rfl h0
set_option maxRecDepth 20000 in
theorem m_65_0_3 {d d0 : Nat} (hd : d = d0 + 8)  {a1 : Int32} {a2 : Int32} {a3 : Int32} {s : zS} {Q : Option Value → zS → Prop}  (h : v_65_0 (fun j => Zt d (wd 3 j) j) 3  a1 a2 a3 s Q) : Zn d [] [(3, 99), (3, 98)] ([(82, 0, 3), (82, 1, 4), (82, 2, 7)] : zW) ([(82, 0, 3), (82, 1, 4), (82, 2, 7)] : zW) xL_5 6 (some .int) xE_65 (xE_65.drop 0) [.ref 82, .int a1, .int a2, .int a3, .null, .null, .null, .null, .null, .null] [] s Q := by
  unfold v_65_0 at h
  refine zn_c [.int 0] (xo_push (.int 0)) rfl rfl ?_
  refine zn_st [.ref 82, .int a1, .int a2, .int a3, .int 0, .null, .null, .null, .null, .null] rfl rfl rfl ?_
  exact ml_65_2_3 hd  h
theorem zq_65_3 {d : Nat} {a1 : Int32} {a2 : Int32} {a3 : Int32} {s : zS} {Q : Option Value → zS → Prop} (h : v_65_0 (fun j => Zt (d + 8) (wd 3 j) j) 3 a1 a2 a3 s Q) : Zt (d + 9) ([(82, 0, 3), (82, 1, 4), (82, 2, 7)] : zW) 65 [.ref 82, .int a1, .int a2, .int a3] s Q := zt_of (E := xE_65) (L := xL_5) (ml := 6) (ret := some .int) rfl rfl rfl (m_65_0_3 rfl h)
set_option maxRecDepth 20000 in
theorem m_65_33_39 {d d0 : Nat} (hd : d = d0 + 8)  {a1 : Int32} {a2 : Int32} {a3 : Int32} {a4 : Int32} {a5 : Int32} {s : zS} {Q : Option Value → zS → Prop}  (h : v_65_33 (fun j => Zt d (wd 39 j) j) 39  a1 a2 a3 a4 a5 s Q) : Zn d [] [(39, 99), (39, 98)] ([(82, 0, 39), (82, 1, 40), (82, 2, 43)] : zW) ([(82, 0, 39), (82, 1, 40), (82, 2, 43)] : zW) xL_5 6 (some .int) xE_65 (xE_65.drop 33) [.ref 82, .int a1, .int a2, .int a3, .int a4, .int a5, .null, .null, .null, .null] [] s Q := by
  unfold v_65_33 at h
  refine zn_ld rfl rfl rfl ?_
  refine zn_ld rfl rfl rfl ?_
  refine zn_zt [.ref 82, .int a1] [] rfl rfl rfl rfl rfl (Zt.imp h (fun v1 s2 h => ?_))
  obtain ⟨rfl, h⟩ := h
  change Zn _ _ _ _ _ _ _ _ _ _ _ [] _ _
  refine zn_ld rfl rfl rfl ?_
  exact zn_retI rfl h
set_option maxRecDepth 20000 in
theorem m_65_12_39 {d d0 : Nat} (hd : d = d0 + 8) {R2 : Int32 → Int32 → Int32 → Int32 → zS → Prop} {a1 : Int32} {a2 : Int32} {a3 : Int32} {a4 : Int32} {a5 : Int32} {t1 : Int32} {s : zS} {Q : Option Value → zS → Prop} (r2 : ∀ a1 a2 a3 a4 s, R2 a1 a2 a3 a4 s → Zn d [] [(39, 99), (39, 98)] ([(82, 0, 39), (82, 1, 40), (82, 2, 43)] : zW) ([(82, 0, 39), (82, 1, 40), (82, 2, 43)] : zW) xL_5 6 (some .int) xE_65 (xE_65.drop 2) [.ref 82, .int a1, .int a2, .int a3, .int a4, .null, .null, .null, .null, .null] [] s Q) (h : v_65_12 (fun j => Zt d (wd 39 j) j) 39 R2 a1 a2 a3 a4 a5 t1 s Q) : Zn d [] [(39, 99), (39, 98)] ([(82, 0, 39), (82, 1, 40), (82, 2, 43)] : zW) ([(82, 0, 39), (82, 1, 40), (82, 2, 43)] : zW) xL_5 6 (some .int) xE_65 (xE_65.drop 12) [.ref 82, .int a1, .int a2, .int a3, .int a4, .int a5, .null, .null, .null, .null] [.int t1, .ref 82] s Q := by
  unfold v_65_12 at h
  refine zn_zt [.ref 82, .int t1] [] rfl rfl rfl rfl rfl (Zt.imp h (fun v1 s2 h => ?_))
  obtain ⟨rfl, h⟩ := h
  change Zn _ _ _ _ _ _ _ _ _ _ _ [] _ _
  refine zn_ld rfl rfl rfl ?_
  refine zn_get (v := .ref 39) rfl (zv_C (a := 82) (n := 0) rfl rfl rfl) ?_
  refine zn_ld rfl rfl rfl ?_
  refine zn_ld rfl rfl rfl ?_
  refine zn_ld rfl rfl rfl ?_
  refine zn_get (v := .int (s2.1 82 3)) rfl (zv_I (a := 82) rfl rfl) ?_
  refine zn_ld rfl rfl rfl ?_
  refine zn_zt [.ref 39, .int a5, .int a2, .int (s2.1 82 3), .int a3] [] rfl rfl rfl rfl rfl (Zt.imp h (fun v3 s4 h => ?_))
  obtain ⟨rfl, h⟩ := h
  change Zn _ _ _ _ _ _ _ _ _ _ _ [] _ _
  refine zn_ld rfl rfl rfl ?_
  refine zn_c [.int 1, .ref 82] (xo_push (.int 1)) rfl rfl ?_
  refine zn_c [.int 0, .int 1, .ref 82] (xo_push (.int 0)) rfl rfl ?_
  refine zn_zt [.ref 82, .int 1, .int 0] [] rfl rfl rfl rfl rfl (Zt.imp h (fun v5 s6 h => ?_))
  obtain ⟨rfl, h⟩ := h
  change Zn _ _ _ _ _ _ _ _ _ _ _ [] _ _
  replace h := h _ (i_add (x := a4) (y := 1) rfl (show (1 : Int32).toInt = 1 by decide))
  refine zn_inc [.ref 82, .int a1, .int a2, .int a3, .int (a4 + 1), .int a5, .null, .null, .null, .null] rfl rfl rfl rfl ?_
  refine zn_ld rfl rfl rfl ?_
  refine zn_c [.int 6, .int (a4 + 1)] (xo_push (.int 6)) rfl rfl ?_
  refine zn_brP rfl rfl ⟨fun hcn => ?_, fun hcn => ?_⟩
  · replace h := h.1 ((i_lt (x := 6) (y := (a4 + 1)) (show (6 : Int32).toInt = 6 by decide) rfl).mp hcn)
    exact m_65_33_39 hd  h
  · replace h := h.2 (fun q => hcn ((i_lt (x := 6) (y := (a4 + 1)) (show (6 : Int32).toInt = 6 by decide) rfl).mpr q))
    refine zn_ld rfl rfl rfl ?_
    refine zn_c [.int 44, .ref 82] (xo_push (.int 44)) rfl rfl ?_
    refine zn_zt [.ref 82, .int 44] [] rfl rfl rfl rfl rfl (Zt.imp h (fun v8 s9 h => ?_))
    obtain ⟨x10, rfl, h⟩ := h
    change Zn _ _ _ _ _ _ _ _ _ _ _ [.int x10] _ _
    refine zn_brN rfl rfl ⟨fun hcn => ?_, fun hcn => ?_⟩
    · replace h := h.1 (fun q => hcn ((i_eq (x := x10) (y := 0) rfl (show (0 : Int32).toInt = 0 by decide)).mpr q))
      refine zn_fg 5 ?_
      exact r2 a1 a2 a3 (a4 + 1) s9 h
    · replace h := h.2 ((i_eq (x := x10) (y := 0) rfl (show (0 : Int32).toInt = 0 by decide)).mp hcn)
      exact m_65_33_39 hd  h
set_option maxRecDepth 20000 in
theorem m_65_2_39 {d d0 : Nat} (hd : d = d0 + 8) {R2 : Int32 → Int32 → Int32 → Int32 → zS → Prop} {a1 : Int32} {a2 : Int32} {a3 : Int32} {a4 : Int32} {s : zS} {Q : Option Value → zS → Prop} (r2 : ∀ a1 a2 a3 a4 s, R2 a1 a2 a3 a4 s → Zn d [] [(39, 99), (39, 98)] ([(82, 0, 39), (82, 1, 40), (82, 2, 43)] : zW) ([(82, 0, 39), (82, 1, 40), (82, 2, 43)] : zW) xL_5 6 (some .int) xE_65 (xE_65.drop 2) [.ref 82, .int a1, .int a2, .int a3, .int a4, .null, .null, .null, .null, .null] [] s Q) (h : v_65_2 (fun j => Zt d (wd 39 j) j) 39 R2 a1 a2 a3 a4 s Q) : Zn d [] [(39, 99), (39, 98)] ([(82, 0, 39), (82, 1, 40), (82, 2, 43)] : zW) ([(82, 0, 39), (82, 1, 40), (82, 2, 43)] : zW) xL_5 6 (some .int) xE_65 (xE_65.drop 2) [.ref 82, .int a1, .int a2, .int a3, .int a4, .null, .null, .null, .null, .null] [] s Q := by
  unfold v_65_2 at h
  refine zn_ld rfl rfl rfl ?_
  refine zn_get (v := .int (s.1 82 3)) rfl (zv_I (a := 82) rfl rfl) ?_
  refine zn_st [.ref 82, .int a1, .int a2, .int a3, .int a4, .int (s.1 82 3), .null, .null, .null, .null] rfl rfl rfl ?_
  refine zn_ld rfl rfl rfl ?_
  refine zn_ld rfl rfl rfl ?_
  refine zn_c [.int 6, .int a4, .ref 82] (xo_push (.int 6)) rfl rfl ?_
  refine zn_brP rfl rfl ⟨fun hcn => ?_, fun hcn => ?_⟩
  · replace h := h.1 ((i_lt (x := a4) (y := 6) rfl (show (6 : Int32).toInt = 6 by decide)).mp hcn)
    refine zn_c [.int 0, .ref 82] (xo_push (.int 0)) rfl rfl ?_
    exact m_65_12_39 hd r2 h
  · replace h := h.2 (fun q => hcn ((i_lt (x := a4) (y := 6) rfl (show (6 : Int32).toInt = 6 by decide)).mpr q))
    refine zn_c [.int 1, .ref 82] (xo_push (.int 1)) rfl rfl ?_
    refine zn_go rfl ?_
    exact m_65_12_39 hd r2 h
theorem ml_65_2_39 {d d0 : Nat} (hd : d = d0 + 8)  {a1 : Int32} {a2 : Int32} {a3 : Int32} {a4 : Int32} {s : zS} {Q : Option Value → zS → Prop}  (h : vl_65_2 (fun j => Zt d (wd 39 j) j) 39  a1 a2 a3 a4 s Q) : Zn d [] [(39, 99), (39, 98)] ([(82, 0, 39), (82, 1, 40), (82, 2, 43)] : zW) ([(82, 0, 39), (82, 1, 40), (82, 2, 43)] : zW) xL_5 6 (some .int) xE_65 (xE_65.drop 2) [.ref 82, .int a1, .int a2, .int a3, .int a4, .null, .null, .null, .null, .null] [] s Q := by
  obtain ⟨I, μ, h0, h1⟩ := h
  have key : ∀ (n : Nat) (a1 : Int32) (a2 : Int32) (a3 : Int32) (a4 : Int32) (s : zS), μ a1 a2 a3 a4 s = n → I a1 a2 a3 a4 s → Zn d [] [(39, 99), (39, 98)] ([(82, 0, 39), (82, 1, 40), (82, 2, 43)] : zW) ([(82, 0, 39), (82, 1, 40), (82, 2, 43)] : zW) xL_5 6 (some .int) xE_65 (xE_65.drop 2) [.ref 82, .int a1, .int a2, .int a3, .int a4, .null, .null, .null, .null, .null] [] s Q := by
    intro n
    induction n using Nat.strongRecOn with
    | ind n ih =>
      intro a1 a2 a3 a4 s e hI
      exact m_65_2_39 hd (fun a1' a2' a3' a4' s' q => ih _ (by rw [← e]; exact q.2) a1' a2' a3' a4' s' rfl q.1) (h1 a1 a2 a3 a4 s hI)
  exact key _ a1 a2 a3 a4 s rfl h0
set_option maxRecDepth 20000 in
theorem m_65_0_39 {d d0 : Nat} (hd : d = d0 + 8)  {a1 : Int32} {a2 : Int32} {a3 : Int32} {s : zS} {Q : Option Value → zS → Prop}  (h : v_65_0 (fun j => Zt d (wd 39 j) j) 39  a1 a2 a3 s Q) : Zn d [] [(39, 99), (39, 98)] ([(82, 0, 39), (82, 1, 40), (82, 2, 43)] : zW) ([(82, 0, 39), (82, 1, 40), (82, 2, 43)] : zW) xL_5 6 (some .int) xE_65 (xE_65.drop 0) [.ref 82, .int a1, .int a2, .int a3, .null, .null, .null, .null, .null, .null] [] s Q := by
  unfold v_65_0 at h
  refine zn_c [.int 0] (xo_push (.int 0)) rfl rfl ?_
  refine zn_st [.ref 82, .int a1, .int a2, .int a3, .int 0, .null, .null, .null, .null, .null] rfl rfl rfl ?_
  exact ml_65_2_39 hd  h
theorem zq_65_39 {d : Nat} {a1 : Int32} {a2 : Int32} {a3 : Int32} {s : zS} {Q : Option Value → zS → Prop} (h : v_65_0 (fun j => Zt (d + 8) (wd 39 j) j) 39 a1 a2 a3 s Q) : Zt (d + 9) ([(82, 0, 39), (82, 1, 40), (82, 2, 43)] : zW) 65 [.ref 82, .int a1, .int a2, .int a3] s Q := zt_of (E := xE_65) (L := xL_5) (ml := 6) (ret := some .int) rfl rfl rfl (m_65_0_39 rfl h)
theorem zc_65 {d P : Nat} (hP : P = 3 ∨ P = 39) {a1 : Int32} {a2 : Int32} {a3 : Int32} {s : zS} {Q : Option Value → zS → Prop} (h : v_65_0 (fun j => Zt (d + 8) (wd P j) j) P a1 a2 a3 s Q) : Zt (d + 9) (wd P 65) 65 [.ref 82, .int a1, .int a2, .int a3] s Q := by
  rcases hP with rfl | rfl
  · exact zq_65_3 h
  · exact zq_65_39 h
/-! FeatherBench$Reader.readHead -/
def v_66_34 (T : Nat → List Value → zS → (Option Value → zS → Prop) → Prop) (P : Nat)  (a1 : Int32) (a2 : Int32) (a3 : Int32) (a4 : Int32) (t0 : Int32) (s : zS) (Q : Option Value → zS → Prop) : Prop :=
  T 54 [.ref P, .int (-1), .int 4, .int (s.1 82 3), .int a2] s (fun v1 s2 => v1 = none ∧ (T 67 [.ref 82, .int 1, .int 0] s2 (fun v3 s4 => v3 = none ∧ (T 55 [.ref P, .int a1, .int a3, .int a4, .int t0] s4 (fun v5 s6 => v5 = none ∧ (Q none s6))))))
def v_66_19 (T : Nat → List Value → zS → (Option Value → zS → Prop) → Prop) (P : Nat)  (a1 : Int32) (a2 : Int32) (a3 : Int32) (t0 : Int32) (s : zS) (Q : Option Value → zS → Prop) : Prop :=
  T 73 [.ref 82, .int 40] s (fun v1 s2 => v1 = none ∧ (T 72 [.ref 82, .int 41] s2 (fun v3 s4 => ∃ x5, v3 = some (.int x5) ∧ ((x5.toInt = 0 → T 65 [.ref 82, .int 41, .int 3, .int a2] s4 (fun v6 s7 => ∃ x8, v6 = some (.int x8) ∧ (v_66_34 T P  a1 a2 a3 t0 x8 s7 Q))) ∧ (¬ (x5.toInt = 0) → v_66_34 T P  a1 a2 a3 t0 0 s4 Q)))))
def v_66_0 (T : Nat → List Value → zS → (Option Value → zS → Prop) → Prop) (P : Nat)  (a1 : Int32) (s : zS) (Q : Option Value → zS → Prop) : Prop :=
  T 72 [.ref 82, .int 91] s (fun v1 s2 => ∃ x3, v1 = some (.int x3) ∧ ((x3.toInt = 0 → v_66_19 T P  a1 (s.1 (P + 28) 2 / 5) (s.1 (P + 30) 2 / 5) 0 s2 Q) ∧ (¬ (x3.toInt = 0) → T 65 [.ref 82, .int 93, .int 0, .int (s.1 (P + 28) 2 / 5)] s2 (fun v4 s5 => ∃ x6, v4 = some (.int x6) ∧ (v_66_19 T P  a1 (s.1 (P + 28) 2 / 5) (s.1 (P + 30) 2 / 5) x6 s5 Q)))))
set_option maxRecDepth 20000 in
theorem m_66_34_3 {d d0 : Nat} (hd : d = d0 + 8)  {a1 : Int32} {a2 : Int32} {a3 : Int32} {a4 : Int32} {t0 : Int32} {s : zS} {Q : Option Value → zS → Prop}  (h : v_66_34 (fun j => Zt d (wd 3 j) j) 3  a1 a2 a3 a4 t0 s Q) : Zn d [] [(3, 99), (3, 98)] ([(82, 0, 3), (82, 1, 4), (82, 2, 7)] : zW) ([(82, 0, 3), (82, 1, 4), (82, 2, 7)] : zW) xL_5 6 (none) xE_66 (xE_66.drop 34) [.ref 82, .int a1, .int a2, .int a3, .int a4, .null, .null, .null] [.int t0] s Q := by
  unfold v_66_34 at h
  refine zn_st [.ref 82, .int a1, .int a2, .int a3, .int a4, .int t0, .null, .null] rfl rfl rfl ?_
  refine zn_ld rfl rfl rfl ?_
  refine zn_get (v := .ref 3) rfl (zv_C (a := 82) (n := 0) rfl rfl rfl) ?_
  refine zn_c [.int (-1), .ref 3] (xo_push (.int (-1))) rfl rfl ?_
  refine zn_c [.int 4, .int (-1), .ref 3] (xo_push (.int 4)) rfl rfl ?_
  refine zn_ld rfl rfl rfl ?_
  refine zn_get (v := .int (s.1 82 3)) rfl (zv_I (a := 82) rfl rfl) ?_
  refine zn_ld rfl rfl rfl ?_
  refine zn_zt [.ref 3, .int (-1), .int 4, .int (s.1 82 3), .int a2] [] rfl rfl rfl rfl rfl (Zt.imp h (fun v1 s2 h => ?_))
  obtain ⟨rfl, h⟩ := h
  change Zn _ _ _ _ _ _ _ _ _ _ _ [] _ _
  refine zn_ld rfl rfl rfl ?_
  refine zn_c [.int 1, .ref 82] (xo_push (.int 1)) rfl rfl ?_
  refine zn_c [.int 0, .int 1, .ref 82] (xo_push (.int 0)) rfl rfl ?_
  refine zn_zt [.ref 82, .int 1, .int 0] [] rfl rfl rfl rfl rfl (Zt.imp h (fun v3 s4 h => ?_))
  obtain ⟨rfl, h⟩ := h
  change Zn _ _ _ _ _ _ _ _ _ _ _ [] _ _
  refine zn_ld rfl rfl rfl ?_
  refine zn_get (v := .ref 3) rfl (zv_C (a := 82) (n := 0) rfl rfl rfl) ?_
  refine zn_ld rfl rfl rfl ?_
  refine zn_ld rfl rfl rfl ?_
  refine zn_ld rfl rfl rfl ?_
  refine zn_ld rfl rfl rfl ?_
  refine zn_zt [.ref 3, .int a1, .int a3, .int a4, .int t0] [] rfl rfl rfl rfl rfl (Zt.imp h (fun v5 s6 h => ?_))
  obtain ⟨rfl, h⟩ := h
  change Zn _ _ _ _ _ _ _ _ _ _ _ [] _ _
  exact zn_ret0 rfl h
set_option maxRecDepth 20000 in
theorem m_66_19_3 {d d0 : Nat} (hd : d = d0 + 8)  {a1 : Int32} {a2 : Int32} {a3 : Int32} {t0 : Int32} {s : zS} {Q : Option Value → zS → Prop}  (h : v_66_19 (fun j => Zt d (wd 3 j) j) 3  a1 a2 a3 t0 s Q) : Zn d [] [(3, 99), (3, 98)] ([(82, 0, 3), (82, 1, 4), (82, 2, 7)] : zW) ([(82, 0, 3), (82, 1, 4), (82, 2, 7)] : zW) xL_5 6 (none) xE_66 (xE_66.drop 19) [.ref 82, .int a1, .int a2, .int a3, .null, .null, .null, .null] [.int t0] s Q := by
  unfold v_66_19 at h
  refine zn_st [.ref 82, .int a1, .int a2, .int a3, .int t0, .null, .null, .null] rfl rfl rfl ?_
  refine zn_ld rfl rfl rfl ?_
  refine zn_c [.int 40, .ref 82] (xo_push (.int 40)) rfl rfl ?_
  refine zn_zt [.ref 82, .int 40] [] rfl rfl rfl rfl rfl (Zt.imp h (fun v1 s2 h => ?_))
  obtain ⟨rfl, h⟩ := h
  change Zn _ _ _ _ _ _ _ _ _ _ _ [] _ _
  refine zn_ld rfl rfl rfl ?_
  refine zn_c [.int 41, .ref 82] (xo_push (.int 41)) rfl rfl ?_
  refine zn_zt [.ref 82, .int 41] [] rfl rfl rfl rfl rfl (Zt.imp h (fun v3 s4 h => ?_))
  obtain ⟨x5, rfl, h⟩ := h
  change Zn _ _ _ _ _ _ _ _ _ _ _ [.int x5] _ _
  refine zn_brP rfl rfl ⟨fun hcn => ?_, fun hcn => ?_⟩
  · replace h := h.1 ((i_eq (x := x5) (y := 0) rfl (show (0 : Int32).toInt = 0 by decide)).mp hcn)
    refine zn_ld rfl rfl rfl ?_
    refine zn_c [.int 41, .ref 82] (xo_push (.int 41)) rfl rfl ?_
    refine zn_c [.int 3, .int 41, .ref 82] (xo_push (.int 3)) rfl rfl ?_
    refine zn_ld rfl rfl rfl ?_
    refine zn_zt [.ref 82, .int 41, .int 3, .int a2] [] rfl rfl rfl rfl rfl (Zt.imp h (fun v6 s7 h => ?_))
    obtain ⟨x8, rfl, h⟩ := h
    change Zn _ _ _ _ _ _ _ _ _ _ _ [.int x8] _ _
    exact m_66_34_3 hd  h
  · replace h := h.2 (fun q => hcn ((i_eq (x := x5) (y := 0) rfl (show (0 : Int32).toInt = 0 by decide)).mpr q))
    refine zn_c [.int 0] (xo_push (.int 0)) rfl rfl ?_
    refine zn_go rfl ?_
    exact m_66_34_3 hd  h
set_option maxRecDepth 20000 in
theorem m_66_0_3 {d d0 : Nat} (hd : d = d0 + 8)  {a1 : Int32} {s : zS} {Q : Option Value → zS → Prop}  (h : v_66_0 (fun j => Zt d (wd 3 j) j) 3  a1 s Q) : Zn d [] [(3, 99), (3, 98)] ([(82, 0, 3), (82, 1, 4), (82, 2, 7)] : zW) ([(82, 0, 3), (82, 1, 4), (82, 2, 7)] : zW) xL_5 6 (none) xE_66 (xE_66.drop 0) [.ref 82, .int a1, .null, .null, .null, .null, .null, .null] [] s Q := by
  unfold v_66_0 at h
  refine zn_ld rfl rfl rfl ?_
  refine zn_get (v := .ref 3) rfl (zv_C (a := 82) (n := 0) rfl rfl rfl) ?_
  refine zn_zt [.ref 3] [] (c := []) rfl rfl rfl rfl rfl (Zt.imp (zp_46 hd (Or.inl rfl)) (fun vq sq hq => ?_))
  obtain ⟨rfl, hq⟩ := hq
  rw [hq]
  change Zn _ _ _ _ _ _ _ _ _ _ _ [.int (s.1 31 2 / 5)] _ _
  refine zn_st [.ref 82, .int a1, .int (s.1 31 2 / 5), .null, .null, .null, .null, .null] rfl rfl rfl ?_
  refine zn_ld rfl rfl rfl ?_
  refine zn_get (v := .ref 3) rfl (zv_C (a := 82) (n := 0) rfl rfl rfl) ?_
  refine zn_zt [.ref 3] [] (c := []) rfl rfl rfl rfl rfl (Zt.imp (zp_47 hd (Or.inl rfl)) (fun vq sq hq => ?_))
  obtain ⟨rfl, hq⟩ := hq
  rw [hq]
  change Zn _ _ _ _ _ _ _ _ _ _ _ [.int (s.1 33 2 / 5)] _ _
  refine zn_st [.ref 82, .int a1, .int (s.1 31 2 / 5), .int (s.1 33 2 / 5), .null, .null, .null, .null] rfl rfl rfl ?_
  refine zn_ld rfl rfl rfl ?_
  refine zn_c [.int 91, .ref 82] (xo_push (.int 91)) rfl rfl ?_
  refine zn_zt [.ref 82, .int 91] [] rfl rfl rfl rfl rfl (Zt.imp h (fun v1 s2 h => ?_))
  obtain ⟨x3, rfl, h⟩ := h
  change Zn _ _ _ _ _ _ _ _ _ _ _ [.int x3] _ _
  refine zn_brP rfl rfl ⟨fun hcn => ?_, fun hcn => ?_⟩
  · replace h := h.1 ((i_eq (x := x3) (y := 0) rfl (show (0 : Int32).toInt = 0 by decide)).mp hcn)
    refine zn_c [.int 0] (xo_push (.int 0)) rfl rfl ?_
    exact m_66_19_3 hd  h
  · replace h := h.2 (fun q => hcn ((i_eq (x := x3) (y := 0) rfl (show (0 : Int32).toInt = 0 by decide)).mpr q))
    refine zn_ld rfl rfl rfl ?_
    refine zn_c [.int 93, .ref 82] (xo_push (.int 93)) rfl rfl ?_
    refine zn_c [.int 0, .int 93, .ref 82] (xo_push (.int 0)) rfl rfl ?_
    refine zn_ld rfl rfl rfl ?_
    refine zn_zt [.ref 82, .int 93, .int 0, .int (s.1 31 2 / 5)] [] rfl rfl rfl rfl rfl (Zt.imp h (fun v4 s5 h => ?_))
    obtain ⟨x6, rfl, h⟩ := h
    change Zn _ _ _ _ _ _ _ _ _ _ _ [.int x6] _ _
    refine zn_go rfl ?_
    exact m_66_19_3 hd  h
theorem zq_66_3 {d : Nat} {a1 : Int32} {s : zS} {Q : Option Value → zS → Prop} (h : v_66_0 (fun j => Zt (d + 8) (wd 3 j) j) 3 a1 s Q) : Zt (d + 9) ([(82, 0, 3), (82, 1, 4), (82, 2, 7)] : zW) 66 [.ref 82, .int a1] s Q := zt_of (E := xE_66) (L := xL_5) (ml := 6) (ret := none) rfl rfl rfl (m_66_0_3 rfl h)
set_option maxRecDepth 20000 in
theorem m_66_34_39 {d d0 : Nat} (hd : d = d0 + 8)  {a1 : Int32} {a2 : Int32} {a3 : Int32} {a4 : Int32} {t0 : Int32} {s : zS} {Q : Option Value → zS → Prop}  (h : v_66_34 (fun j => Zt d (wd 39 j) j) 39  a1 a2 a3 a4 t0 s Q) : Zn d [] [(39, 99), (39, 98)] ([(82, 0, 39), (82, 1, 40), (82, 2, 43)] : zW) ([(82, 0, 39), (82, 1, 40), (82, 2, 43)] : zW) xL_5 6 (none) xE_66 (xE_66.drop 34) [.ref 82, .int a1, .int a2, .int a3, .int a4, .null, .null, .null] [.int t0] s Q := by
  unfold v_66_34 at h
  refine zn_st [.ref 82, .int a1, .int a2, .int a3, .int a4, .int t0, .null, .null] rfl rfl rfl ?_
  refine zn_ld rfl rfl rfl ?_
  refine zn_get (v := .ref 39) rfl (zv_C (a := 82) (n := 0) rfl rfl rfl) ?_
  refine zn_c [.int (-1), .ref 39] (xo_push (.int (-1))) rfl rfl ?_
  refine zn_c [.int 4, .int (-1), .ref 39] (xo_push (.int 4)) rfl rfl ?_
  refine zn_ld rfl rfl rfl ?_
  refine zn_get (v := .int (s.1 82 3)) rfl (zv_I (a := 82) rfl rfl) ?_
  refine zn_ld rfl rfl rfl ?_
  refine zn_zt [.ref 39, .int (-1), .int 4, .int (s.1 82 3), .int a2] [] rfl rfl rfl rfl rfl (Zt.imp h (fun v1 s2 h => ?_))
  obtain ⟨rfl, h⟩ := h
  change Zn _ _ _ _ _ _ _ _ _ _ _ [] _ _
  refine zn_ld rfl rfl rfl ?_
  refine zn_c [.int 1, .ref 82] (xo_push (.int 1)) rfl rfl ?_
  refine zn_c [.int 0, .int 1, .ref 82] (xo_push (.int 0)) rfl rfl ?_
  refine zn_zt [.ref 82, .int 1, .int 0] [] rfl rfl rfl rfl rfl (Zt.imp h (fun v3 s4 h => ?_))
  obtain ⟨rfl, h⟩ := h
  change Zn _ _ _ _ _ _ _ _ _ _ _ [] _ _
  refine zn_ld rfl rfl rfl ?_
  refine zn_get (v := .ref 39) rfl (zv_C (a := 82) (n := 0) rfl rfl rfl) ?_
  refine zn_ld rfl rfl rfl ?_
  refine zn_ld rfl rfl rfl ?_
  refine zn_ld rfl rfl rfl ?_
  refine zn_ld rfl rfl rfl ?_
  refine zn_zt [.ref 39, .int a1, .int a3, .int a4, .int t0] [] rfl rfl rfl rfl rfl (Zt.imp h (fun v5 s6 h => ?_))
  obtain ⟨rfl, h⟩ := h
  change Zn _ _ _ _ _ _ _ _ _ _ _ [] _ _
  exact zn_ret0 rfl h
set_option maxRecDepth 20000 in
theorem m_66_19_39 {d d0 : Nat} (hd : d = d0 + 8)  {a1 : Int32} {a2 : Int32} {a3 : Int32} {t0 : Int32} {s : zS} {Q : Option Value → zS → Prop}  (h : v_66_19 (fun j => Zt d (wd 39 j) j) 39  a1 a2 a3 t0 s Q) : Zn d [] [(39, 99), (39, 98)] ([(82, 0, 39), (82, 1, 40), (82, 2, 43)] : zW) ([(82, 0, 39), (82, 1, 40), (82, 2, 43)] : zW) xL_5 6 (none) xE_66 (xE_66.drop 19) [.ref 82, .int a1, .int a2, .int a3, .null, .null, .null, .null] [.int t0] s Q := by
  unfold v_66_19 at h
  refine zn_st [.ref 82, .int a1, .int a2, .int a3, .int t0, .null, .null, .null] rfl rfl rfl ?_
  refine zn_ld rfl rfl rfl ?_
  refine zn_c [.int 40, .ref 82] (xo_push (.int 40)) rfl rfl ?_
  refine zn_zt [.ref 82, .int 40] [] rfl rfl rfl rfl rfl (Zt.imp h (fun v1 s2 h => ?_))
  obtain ⟨rfl, h⟩ := h
  change Zn _ _ _ _ _ _ _ _ _ _ _ [] _ _
  refine zn_ld rfl rfl rfl ?_
  refine zn_c [.int 41, .ref 82] (xo_push (.int 41)) rfl rfl ?_
  refine zn_zt [.ref 82, .int 41] [] rfl rfl rfl rfl rfl (Zt.imp h (fun v3 s4 h => ?_))
  obtain ⟨x5, rfl, h⟩ := h
  change Zn _ _ _ _ _ _ _ _ _ _ _ [.int x5] _ _
  refine zn_brP rfl rfl ⟨fun hcn => ?_, fun hcn => ?_⟩
  · replace h := h.1 ((i_eq (x := x5) (y := 0) rfl (show (0 : Int32).toInt = 0 by decide)).mp hcn)
    refine zn_ld rfl rfl rfl ?_
    refine zn_c [.int 41, .ref 82] (xo_push (.int 41)) rfl rfl ?_
    refine zn_c [.int 3, .int 41, .ref 82] (xo_push (.int 3)) rfl rfl ?_
    refine zn_ld rfl rfl rfl ?_
    refine zn_zt [.ref 82, .int 41, .int 3, .int a2] [] rfl rfl rfl rfl rfl (Zt.imp h (fun v6 s7 h => ?_))
    obtain ⟨x8, rfl, h⟩ := h
    change Zn _ _ _ _ _ _ _ _ _ _ _ [.int x8] _ _
    exact m_66_34_39 hd  h
  · replace h := h.2 (fun q => hcn ((i_eq (x := x5) (y := 0) rfl (show (0 : Int32).toInt = 0 by decide)).mpr q))
    refine zn_c [.int 0] (xo_push (.int 0)) rfl rfl ?_
    refine zn_go rfl ?_
    exact m_66_34_39 hd  h
set_option maxRecDepth 20000 in
theorem m_66_0_39 {d d0 : Nat} (hd : d = d0 + 8)  {a1 : Int32} {s : zS} {Q : Option Value → zS → Prop}  (h : v_66_0 (fun j => Zt d (wd 39 j) j) 39  a1 s Q) : Zn d [] [(39, 99), (39, 98)] ([(82, 0, 39), (82, 1, 40), (82, 2, 43)] : zW) ([(82, 0, 39), (82, 1, 40), (82, 2, 43)] : zW) xL_5 6 (none) xE_66 (xE_66.drop 0) [.ref 82, .int a1, .null, .null, .null, .null, .null, .null] [] s Q := by
  unfold v_66_0 at h
  refine zn_ld rfl rfl rfl ?_
  refine zn_get (v := .ref 39) rfl (zv_C (a := 82) (n := 0) rfl rfl rfl) ?_
  refine zn_zt [.ref 39] [] (c := []) rfl rfl rfl rfl rfl (Zt.imp (zp_46 hd (Or.inr rfl)) (fun vq sq hq => ?_))
  obtain ⟨rfl, hq⟩ := hq
  rw [hq]
  change Zn _ _ _ _ _ _ _ _ _ _ _ [.int (s.1 67 2 / 5)] _ _
  refine zn_st [.ref 82, .int a1, .int (s.1 67 2 / 5), .null, .null, .null, .null, .null] rfl rfl rfl ?_
  refine zn_ld rfl rfl rfl ?_
  refine zn_get (v := .ref 39) rfl (zv_C (a := 82) (n := 0) rfl rfl rfl) ?_
  refine zn_zt [.ref 39] [] (c := []) rfl rfl rfl rfl rfl (Zt.imp (zp_47 hd (Or.inr rfl)) (fun vq sq hq => ?_))
  obtain ⟨rfl, hq⟩ := hq
  rw [hq]
  change Zn _ _ _ _ _ _ _ _ _ _ _ [.int (s.1 69 2 / 5)] _ _
  refine zn_st [.ref 82, .int a1, .int (s.1 67 2 / 5), .int (s.1 69 2 / 5), .null, .null, .null, .null] rfl rfl rfl ?_
  refine zn_ld rfl rfl rfl ?_
  refine zn_c [.int 91, .ref 82] (xo_push (.int 91)) rfl rfl ?_
  refine zn_zt [.ref 82, .int 91] [] rfl rfl rfl rfl rfl (Zt.imp h (fun v1 s2 h => ?_))
  obtain ⟨x3, rfl, h⟩ := h
  change Zn _ _ _ _ _ _ _ _ _ _ _ [.int x3] _ _
  refine zn_brP rfl rfl ⟨fun hcn => ?_, fun hcn => ?_⟩
  · replace h := h.1 ((i_eq (x := x3) (y := 0) rfl (show (0 : Int32).toInt = 0 by decide)).mp hcn)
    refine zn_c [.int 0] (xo_push (.int 0)) rfl rfl ?_
    exact m_66_19_39 hd  h
  · replace h := h.2 (fun q => hcn ((i_eq (x := x3) (y := 0) rfl (show (0 : Int32).toInt = 0 by decide)).mpr q))
    refine zn_ld rfl rfl rfl ?_
    refine zn_c [.int 93, .ref 82] (xo_push (.int 93)) rfl rfl ?_
    refine zn_c [.int 0, .int 93, .ref 82] (xo_push (.int 0)) rfl rfl ?_
    refine zn_ld rfl rfl rfl ?_
    refine zn_zt [.ref 82, .int 93, .int 0, .int (s.1 67 2 / 5)] [] rfl rfl rfl rfl rfl (Zt.imp h (fun v4 s5 h => ?_))
    obtain ⟨x6, rfl, h⟩ := h
    change Zn _ _ _ _ _ _ _ _ _ _ _ [.int x6] _ _
    refine zn_go rfl ?_
    exact m_66_19_39 hd  h
theorem zq_66_39 {d : Nat} {a1 : Int32} {s : zS} {Q : Option Value → zS → Prop} (h : v_66_0 (fun j => Zt (d + 8) (wd 39 j) j) 39 a1 s Q) : Zt (d + 9) ([(82, 0, 39), (82, 1, 40), (82, 2, 43)] : zW) 66 [.ref 82, .int a1] s Q := zt_of (E := xE_66) (L := xL_5) (ml := 6) (ret := none) rfl rfl rfl (m_66_0_39 rfl h)
theorem zc_66 {d P : Nat} (hP : P = 3 ∨ P = 39) {a1 : Int32} {s : zS} {Q : Option Value → zS → Prop} (h : v_66_0 (fun j => Zt (d + 8) (wd P j) j) P a1 s Q) : Zt (d + 9) (wd P 66) 66 [.ref 82, .int a1] s Q := by
  rcases hP with rfl | rfl
  · exact zq_66_3 h
  · exact zq_66_39 h
/-! FeatherBench$Reader.passType -/
def v_67_25 (T : Nat → List Value → zS → (Option Value → zS → Prop) → Prop) (P : Nat)  (a1 : Int32) (a2 : Int32) (s : zS) (Q : Option Value → zS → Prop) : Prop :=
  Q none s
def v_67_10 (T : Nat → List Value → zS → (Option Value → zS → Prop) → Prop) (P : Nat)  (a1 : Int32) (a2 : Int32) (t1 : Int32) (s : zS) (Q : Option Value → zS → Prop) : Prop :=
  T 74 [.ref 82, .int t1] s (fun v1 s2 => v1 = none ∧ ((¬ ((s2.1 P 14).toInt = 0) → v_67_25 T P  a1 a2 s2 Q) ∧ ((s2.1 P 14).toInt = 0 → (¬ ((zg s2 (P + 4) (s2.1 82 3)).toInt = 91) → v_67_25 T P  a1 a2 s2 Q) ∧ ((zg s2 (P + 4) (s2.1 82 3)).toInt = 91 → T 68 [.ref 82, .int a1] s2 (fun v3 s4 => v3 = none ∧ (v_67_25 T P  a1 a2 s4 Q))))))
def v_67_7 (T : Nat → List Value → zS → (Option Value → zS → Prop) → Prop) (P : Nat)  (a1 : Int32) (a2 : Int32) (s : zS) (Q : Option Value → zS → Prop) : Prop :=
  v_67_10 T P  a1 a2 1 s Q
def v_67_0 (T : Nat → List Value → zS → (Option Value → zS → Prop) → Prop) (P : Nat)  (a1 : Int32) (a2 : Int32) (s : zS) (Q : Option Value → zS → Prop) : Prop :=
  (10 < a1.toInt → v_67_7 T P  a1 a2 s Q) ∧ (¬ (10 < a1.toInt) → (a2.toInt < 6 → v_67_10 T P  a1 a2 0 s Q) ∧ (¬ (a2.toInt < 6) → v_67_7 T P  a1 a2 s Q))
set_option maxRecDepth 20000 in
theorem m_67_25_3 {d d0 : Nat} (hd : d = d0 + 8)  {a1 : Int32} {a2 : Int32} {s : zS} {Q : Option Value → zS → Prop}  (h : v_67_25 (fun j => Zt d (wd 3 j) j) 3  a1 a2 s Q) : Zn d [] [(3, 99), (3, 98)] ([(82, 0, 3), (82, 1, 4), (82, 2, 7)] : zW) ([(82, 0, 3), (82, 1, 4), (82, 2, 7)] : zW) xL_5 3 (none) xE_67 (xE_67.drop 25) [.ref 82, .int a1, .int a2, .null, .null, .null] [] s Q := by
  unfold v_67_25 at h
  exact zn_ret0 rfl h
set_option maxRecDepth 20000 in
theorem m_67_10_3 {d d0 : Nat} (hd : d = d0 + 8)  {a1 : Int32} {a2 : Int32} {t1 : Int32} {s : zS} {Q : Option Value → zS → Prop}  (h : v_67_10 (fun j => Zt d (wd 3 j) j) 3  a1 a2 t1 s Q) : Zn d [] [(3, 99), (3, 98)] ([(82, 0, 3), (82, 1, 4), (82, 2, 7)] : zW) ([(82, 0, 3), (82, 1, 4), (82, 2, 7)] : zW) xL_5 3 (none) xE_67 (xE_67.drop 10) [.ref 82, .int a1, .int a2, .null, .null, .null] [.int t1, .ref 82] s Q := by
  unfold v_67_10 at h
  refine zn_zt [.ref 82, .int t1] [] rfl rfl rfl rfl rfl (Zt.imp h (fun v1 s2 h => ?_))
  obtain ⟨rfl, h⟩ := h
  change Zn _ _ _ _ _ _ _ _ _ _ _ [] _ _
  refine zn_ld rfl rfl rfl ?_
  refine zn_get (v := .ref 3) rfl (zv_C (a := 82) (n := 0) rfl rfl rfl) ?_
  refine zn_get (v := .int (s2.1 3 14)) rfl (zv_I (a := 3) rfl rfl) ?_
  refine zn_brN rfl rfl ⟨fun hcn => ?_, fun hcn => ?_⟩
  · replace h := h.1 (fun q => hcn ((i_eq (x := s2.1 3 14) (y := 0) rfl (show (0 : Int32).toInt = 0 by decide)).mpr q))
    exact m_67_25_3 hd  h
  · replace h := h.2 ((i_eq (x := s2.1 3 14) (y := 0) rfl (show (0 : Int32).toInt = 0 by decide)).mp hcn)
    refine zn_ld rfl rfl rfl ?_
    refine zn_get (v := .ref 7) rfl (zv_C (a := 82) (n := 2) rfl rfl rfl) ?_
    refine zn_ld rfl rfl rfl ?_
    refine zn_get (v := .int (s2.1 82 3)) rfl (zv_I (a := 82) rfl rfl) ?_
    refine zn_row (s2.1 82 3) [] (a := 7) hd rfl rfl rfl rfl ?_
    change Zn _ _ _ _ _ _ _ _ _ _ _ [.int (zg s2 7 (s2.1 82 3))] _ _
    refine zn_c [.int 91, .int (zg s2 7 (s2.1 82 3))] (xo_push (.int 91)) rfl rfl ?_
    refine zn_brN rfl rfl ⟨fun hcn => ?_, fun hcn => ?_⟩
    · replace h := h.1 (fun q => hcn ((i_eq (x := zg s2 7 (s2.1 82 3)) (y := 91) rfl (show (91 : Int32).toInt = 91 by decide)).mpr q))
      exact m_67_25_3 hd  h
    · replace h := h.2 ((i_eq (x := zg s2 7 (s2.1 82 3)) (y := 91) rfl (show (91 : Int32).toInt = 91 by decide)).mp hcn)
      refine zn_ld rfl rfl rfl ?_
      refine zn_ld rfl rfl rfl ?_
      refine zn_zt [.ref 82, .int a1] [] rfl rfl rfl rfl rfl (Zt.imp h (fun v3 s4 h => ?_))
      obtain ⟨rfl, h⟩ := h
      change Zn _ _ _ _ _ _ _ _ _ _ _ [] _ _
      exact m_67_25_3 hd  h
set_option maxRecDepth 20000 in
theorem m_67_7_3 {d d0 : Nat} (hd : d = d0 + 8)  {a1 : Int32} {a2 : Int32} {s : zS} {Q : Option Value → zS → Prop}  (h : v_67_7 (fun j => Zt d (wd 3 j) j) 3  a1 a2 s Q) : Zn d [] [(3, 99), (3, 98)] ([(82, 0, 3), (82, 1, 4), (82, 2, 7)] : zW) ([(82, 0, 3), (82, 1, 4), (82, 2, 7)] : zW) xL_5 3 (none) xE_67 (xE_67.drop 7) [.ref 82, .int a1, .int a2, .null, .null, .null] [.ref 82] s Q := by
  unfold v_67_7 at h
  refine zn_c [.int 1, .ref 82] (xo_push (.int 1)) rfl rfl ?_
  refine zn_go rfl ?_
  exact m_67_10_3 hd  h
set_option maxRecDepth 20000 in
theorem m_67_0_3 {d d0 : Nat} (hd : d = d0 + 8)  {a1 : Int32} {a2 : Int32} {s : zS} {Q : Option Value → zS → Prop}  (h : v_67_0 (fun j => Zt d (wd 3 j) j) 3  a1 a2 s Q) : Zn d [] [(3, 99), (3, 98)] ([(82, 0, 3), (82, 1, 4), (82, 2, 7)] : zW) ([(82, 0, 3), (82, 1, 4), (82, 2, 7)] : zW) xL_5 3 (none) xE_67 (xE_67.drop 0) [.ref 82, .int a1, .int a2, .null, .null, .null] [] s Q := by
  unfold v_67_0 at h
  refine zn_ld rfl rfl rfl ?_
  refine zn_ld rfl rfl rfl ?_
  refine zn_c [.int 10, .int a1, .ref 82] (xo_push (.int 10)) rfl rfl ?_
  refine zn_brP rfl rfl ⟨fun hcn => ?_, fun hcn => ?_⟩
  · replace h := h.1 ((i_lt (x := 10) (y := a1) (show (10 : Int32).toInt = 10 by decide) rfl).mp hcn)
    exact m_67_7_3 hd  h
  · replace h := h.2 (fun q => hcn ((i_lt (x := 10) (y := a1) (show (10 : Int32).toInt = 10 by decide) rfl).mpr q))
    refine zn_ld rfl rfl rfl ?_
    refine zn_c [.int 6, .int a2, .ref 82] (xo_push (.int 6)) rfl rfl ?_
    refine zn_brP rfl rfl ⟨fun hcn => ?_, fun hcn => ?_⟩
    · replace h := h.1 ((i_lt (x := a2) (y := 6) rfl (show (6 : Int32).toInt = 6 by decide)).mp hcn)
      refine zn_c [.int 0, .ref 82] (xo_push (.int 0)) rfl rfl ?_
      exact m_67_10_3 hd  h
    · replace h := h.2 (fun q => hcn ((i_lt (x := a2) (y := 6) rfl (show (6 : Int32).toInt = 6 by decide)).mpr q))
      exact m_67_7_3 hd  h
theorem zq_67_3 {d : Nat} {a1 : Int32} {a2 : Int32} {s : zS} {Q : Option Value → zS → Prop} (h : v_67_0 (fun j => Zt (d + 8) (wd 3 j) j) 3 a1 a2 s Q) : Zt (d + 9) ([(82, 0, 3), (82, 1, 4), (82, 2, 7)] : zW) 67 [.ref 82, .int a1, .int a2] s Q := zt_of (E := xE_67) (L := xL_5) (ml := 3) (ret := none) rfl rfl rfl (m_67_0_3 rfl h)
set_option maxRecDepth 20000 in
theorem m_67_25_39 {d d0 : Nat} (hd : d = d0 + 8)  {a1 : Int32} {a2 : Int32} {s : zS} {Q : Option Value → zS → Prop}  (h : v_67_25 (fun j => Zt d (wd 39 j) j) 39  a1 a2 s Q) : Zn d [] [(39, 99), (39, 98)] ([(82, 0, 39), (82, 1, 40), (82, 2, 43)] : zW) ([(82, 0, 39), (82, 1, 40), (82, 2, 43)] : zW) xL_5 3 (none) xE_67 (xE_67.drop 25) [.ref 82, .int a1, .int a2, .null, .null, .null] [] s Q := by
  unfold v_67_25 at h
  exact zn_ret0 rfl h
set_option maxRecDepth 20000 in
theorem m_67_10_39 {d d0 : Nat} (hd : d = d0 + 8)  {a1 : Int32} {a2 : Int32} {t1 : Int32} {s : zS} {Q : Option Value → zS → Prop}  (h : v_67_10 (fun j => Zt d (wd 39 j) j) 39  a1 a2 t1 s Q) : Zn d [] [(39, 99), (39, 98)] ([(82, 0, 39), (82, 1, 40), (82, 2, 43)] : zW) ([(82, 0, 39), (82, 1, 40), (82, 2, 43)] : zW) xL_5 3 (none) xE_67 (xE_67.drop 10) [.ref 82, .int a1, .int a2, .null, .null, .null] [.int t1, .ref 82] s Q := by
  unfold v_67_10 at h
  refine zn_zt [.ref 82, .int t1] [] rfl rfl rfl rfl rfl (Zt.imp h (fun v1 s2 h => ?_))
  obtain ⟨rfl, h⟩ := h
  change Zn _ _ _ _ _ _ _ _ _ _ _ [] _ _
  refine zn_ld rfl rfl rfl ?_
  refine zn_get (v := .ref 39) rfl (zv_C (a := 82) (n := 0) rfl rfl rfl) ?_
  refine zn_get (v := .int (s2.1 39 14)) rfl (zv_I (a := 39) rfl rfl) ?_
  refine zn_brN rfl rfl ⟨fun hcn => ?_, fun hcn => ?_⟩
  · replace h := h.1 (fun q => hcn ((i_eq (x := s2.1 39 14) (y := 0) rfl (show (0 : Int32).toInt = 0 by decide)).mpr q))
    exact m_67_25_39 hd  h
  · replace h := h.2 ((i_eq (x := s2.1 39 14) (y := 0) rfl (show (0 : Int32).toInt = 0 by decide)).mp hcn)
    refine zn_ld rfl rfl rfl ?_
    refine zn_get (v := .ref 43) rfl (zv_C (a := 82) (n := 2) rfl rfl rfl) ?_
    refine zn_ld rfl rfl rfl ?_
    refine zn_get (v := .int (s2.1 82 3)) rfl (zv_I (a := 82) rfl rfl) ?_
    refine zn_row (s2.1 82 3) [] (a := 43) hd rfl rfl rfl rfl ?_
    change Zn _ _ _ _ _ _ _ _ _ _ _ [.int (zg s2 43 (s2.1 82 3))] _ _
    refine zn_c [.int 91, .int (zg s2 43 (s2.1 82 3))] (xo_push (.int 91)) rfl rfl ?_
    refine zn_brN rfl rfl ⟨fun hcn => ?_, fun hcn => ?_⟩
    · replace h := h.1 (fun q => hcn ((i_eq (x := zg s2 43 (s2.1 82 3)) (y := 91) rfl (show (91 : Int32).toInt = 91 by decide)).mpr q))
      exact m_67_25_39 hd  h
    · replace h := h.2 ((i_eq (x := zg s2 43 (s2.1 82 3)) (y := 91) rfl (show (91 : Int32).toInt = 91 by decide)).mp hcn)
      refine zn_ld rfl rfl rfl ?_
      refine zn_ld rfl rfl rfl ?_
      refine zn_zt [.ref 82, .int a1] [] rfl rfl rfl rfl rfl (Zt.imp h (fun v3 s4 h => ?_))
      obtain ⟨rfl, h⟩ := h
      change Zn _ _ _ _ _ _ _ _ _ _ _ [] _ _
      exact m_67_25_39 hd  h
set_option maxRecDepth 20000 in
theorem m_67_7_39 {d d0 : Nat} (hd : d = d0 + 8)  {a1 : Int32} {a2 : Int32} {s : zS} {Q : Option Value → zS → Prop}  (h : v_67_7 (fun j => Zt d (wd 39 j) j) 39  a1 a2 s Q) : Zn d [] [(39, 99), (39, 98)] ([(82, 0, 39), (82, 1, 40), (82, 2, 43)] : zW) ([(82, 0, 39), (82, 1, 40), (82, 2, 43)] : zW) xL_5 3 (none) xE_67 (xE_67.drop 7) [.ref 82, .int a1, .int a2, .null, .null, .null] [.ref 82] s Q := by
  unfold v_67_7 at h
  refine zn_c [.int 1, .ref 82] (xo_push (.int 1)) rfl rfl ?_
  refine zn_go rfl ?_
  exact m_67_10_39 hd  h
set_option maxRecDepth 20000 in
theorem m_67_0_39 {d d0 : Nat} (hd : d = d0 + 8)  {a1 : Int32} {a2 : Int32} {s : zS} {Q : Option Value → zS → Prop}  (h : v_67_0 (fun j => Zt d (wd 39 j) j) 39  a1 a2 s Q) : Zn d [] [(39, 99), (39, 98)] ([(82, 0, 39), (82, 1, 40), (82, 2, 43)] : zW) ([(82, 0, 39), (82, 1, 40), (82, 2, 43)] : zW) xL_5 3 (none) xE_67 (xE_67.drop 0) [.ref 82, .int a1, .int a2, .null, .null, .null] [] s Q := by
  unfold v_67_0 at h
  refine zn_ld rfl rfl rfl ?_
  refine zn_ld rfl rfl rfl ?_
  refine zn_c [.int 10, .int a1, .ref 82] (xo_push (.int 10)) rfl rfl ?_
  refine zn_brP rfl rfl ⟨fun hcn => ?_, fun hcn => ?_⟩
  · replace h := h.1 ((i_lt (x := 10) (y := a1) (show (10 : Int32).toInt = 10 by decide) rfl).mp hcn)
    exact m_67_7_39 hd  h
  · replace h := h.2 (fun q => hcn ((i_lt (x := 10) (y := a1) (show (10 : Int32).toInt = 10 by decide) rfl).mpr q))
    refine zn_ld rfl rfl rfl ?_
    refine zn_c [.int 6, .int a2, .ref 82] (xo_push (.int 6)) rfl rfl ?_
    refine zn_brP rfl rfl ⟨fun hcn => ?_, fun hcn => ?_⟩
    · replace h := h.1 ((i_lt (x := a2) (y := 6) rfl (show (6 : Int32).toInt = 6 by decide)).mp hcn)
      refine zn_c [.int 0, .ref 82] (xo_push (.int 0)) rfl rfl ?_
      exact m_67_10_39 hd  h
    · replace h := h.2 (fun q => hcn ((i_lt (x := a2) (y := 6) rfl (show (6 : Int32).toInt = 6 by decide)).mpr q))
      exact m_67_7_39 hd  h
theorem zq_67_39 {d : Nat} {a1 : Int32} {a2 : Int32} {s : zS} {Q : Option Value → zS → Prop} (h : v_67_0 (fun j => Zt (d + 8) (wd 39 j) j) 39 a1 a2 s Q) : Zt (d + 9) ([(82, 0, 39), (82, 1, 40), (82, 2, 43)] : zW) 67 [.ref 82, .int a1, .int a2] s Q := zt_of (E := xE_67) (L := xL_5) (ml := 3) (ret := none) rfl rfl rfl (m_67_0_39 rfl h)
theorem zc_67 {d P : Nat} (hP : P = 3 ∨ P = 39) {a1 : Int32} {a2 : Int32} {s : zS} {Q : Option Value → zS → Prop} (h : v_67_0 (fun j => Zt (d + 8) (wd P j) j) P a1 a2 s Q) : Zt (d + 9) (wd P 67) 67 [.ref 82, .int a1, .int a2] s Q := by
  rcases hP with rfl | rfl
  · exact zq_67_3 h
  · exact zq_67_39 h
/-! FeatherBench$Reader.passTypes -/
def v_68_22 (T : Nat → List Value → zS → (Option Value → zS → Prop) → Prop) (P : Nat)  (a1 : Int32) (a2 : Int32) (a3 : Int32) (s : zS) (Q : Option Value → zS → Prop) : Prop :=
  T 73 [.ref 82, .int 93] s (fun v1 s2 => v1 = none ∧ ((0 ≤ a3.toInt ∧ a3.toInt ≤ 7) ∧ (∀ s3, s3 = zt s2 (P + 12) a2 a3 → Q none s3)))
def v_68_8 (T : Nat → List Value → zS → (Option Value → zS → Prop) → Prop) (P : Nat) (R8 : Int32 → Int32 → Int32 → zS → Prop) (a1 : Int32) (a2 : Int32) (a3 : Int32) (s : zS) (Q : Option Value → zS → Prop) : Prop :=
  ∀ x1 : Int32, (-2147483648 ≤ a1.toInt + 1 ∧ a1.toInt + 1 ≤ 2147483647 → x1.toInt = a1.toInt + 1) → T 67 [.ref 82, .int x1, .int a3] s (fun v2 s3 => v2 = none ∧ (∀ x4 : Int32, (-2147483648 ≤ a3.toInt + 1 ∧ a3.toInt + 1 ≤ 2147483647 → x4.toInt = a3.toInt + 1) → (6 < x4.toInt → v_68_22 T P  a1 a2 x4 s3 Q) ∧ (¬ (6 < x4.toInt) → T 72 [.ref 82, .int 44] s3 (fun v5 s6 => ∃ x7, v5 = some (.int x7) ∧ ((¬ (x7.toInt = 0) → R8 a1 a2 x4 s6) ∧ (x7.toInt = 0 → v_68_22 T P  a1 a2 x4 s6 Q))))))
def vl_68_8 (T : Nat → List Value → zS → (Option Value → zS → Prop) → Prop) (P : Nat)  (a1 : Int32) (a2 : Int32) (a3 : Int32) (s : zS) (Q : Option Value → zS → Prop) : Prop :=
  ∃ (I : Int32 → Int32 → Int32 → zS → Prop) (μ : Int32 → Int32 → Int32 → zS → Nat), I a1 a2 a3 s ∧ ∀ (a1 : Int32) (a2 : Int32) (a3 : Int32) (s : zS), I a1 a2 a3 s → v_68_8 T P (fun a1' a2' a3' s' => I a1' a2' a3' s' ∧ μ a1' a2' a3' s' < μ a1 a2 a3 s) a1 a2 a3 s Q
def v_68_0 (T : Nat → List Value → zS → (Option Value → zS → Prop) → Prop) (P : Nat)  (a1 : Int32) (s : zS) (Q : Option Value → zS → Prop) : Prop :=
  T 73 [.ref 82, .int 91] s (fun v1 s2 => v1 = none ∧ (vl_68_8 T P  a1 (s.1 82 3) 0 s2 Q))
set_option maxRecDepth 20000 in
theorem m_68_22_3 {d d0 : Nat} (hd : d = d0 + 8)  {a1 : Int32} {a2 : Int32} {a3 : Int32} {s : zS} {Q : Option Value → zS → Prop}  (h : v_68_22 (fun j => Zt d (wd 3 j) j) 3  a1 a2 a3 s Q) : Zn d [] [(3, 99), (3, 98)] ([(82, 0, 3), (82, 1, 4), (82, 2, 7)] : zW) ([(82, 0, 3), (82, 1, 4), (82, 2, 7)] : zW) xL_5 4 (none) xE_68 (xE_68.drop 22) [.ref 82, .int a1, .int a2, .int a3, .null, .null] [] s Q := by
  unfold v_68_22 at h
  refine zn_ld rfl rfl rfl ?_
  refine zn_c [.int 93, .ref 82] (xo_push (.int 93)) rfl rfl ?_
  refine zn_zt [.ref 82, .int 93] [] rfl rfl rfl rfl rfl (Zt.imp h (fun v1 s2 h => ?_))
  obtain ⟨rfl, h⟩ := h
  change Zn _ _ _ _ _ _ _ _ _ _ _ [] _ _
  refine zn_ld rfl rfl rfl ?_
  refine zn_get (v := .ref 4) rfl (zv_C (a := 82) (n := 1) rfl rfl rfl) ?_
  refine zn_get (v := .ref 15) rfl (zv_R (a := 4) rfl rfl) ?_
  refine zn_ld rfl rfl rfl ?_
  refine zn_ld rfl rfl rfl ?_
  refine zn_set a2 a3 [] (a := 15) hd rfl rfl rfl rfl h.1 rfl rfl ?_
  replace h := h.2
  replace h := h _ rfl
  exact zn_ret0 rfl h
set_option maxRecDepth 20000 in
theorem m_68_8_3 {d d0 : Nat} (hd : d = d0 + 8) {R8 : Int32 → Int32 → Int32 → zS → Prop} {a1 : Int32} {a2 : Int32} {a3 : Int32} {s : zS} {Q : Option Value → zS → Prop} (r8 : ∀ a1 a2 a3 s, R8 a1 a2 a3 s → Zn d [] [(3, 99), (3, 98)] ([(82, 0, 3), (82, 1, 4), (82, 2, 7)] : zW) ([(82, 0, 3), (82, 1, 4), (82, 2, 7)] : zW) xL_5 4 (none) xE_68 (xE_68.drop 8) [.ref 82, .int a1, .int a2, .int a3, .null, .null] [] s Q) (h : v_68_8 (fun j => Zt d (wd 3 j) j) 3 R8 a1 a2 a3 s Q) : Zn d [] [(3, 99), (3, 98)] ([(82, 0, 3), (82, 1, 4), (82, 2, 7)] : zW) ([(82, 0, 3), (82, 1, 4), (82, 2, 7)] : zW) xL_5 4 (none) xE_68 (xE_68.drop 8) [.ref 82, .int a1, .int a2, .int a3, .null, .null] [] s Q := by
  unfold v_68_8 at h
  refine zn_ld rfl rfl rfl ?_
  refine zn_ld rfl rfl rfl ?_
  refine zn_c [.int 1, .int a1, .ref 82] (xo_push (.int 1)) rfl rfl ?_
  replace h := h _ (i_add (x := a1) (y := 1) rfl (show (1 : Int32).toInt = 1 by decide))
  refine zn_c [.int (a1 + 1), .ref 82] xo_iadd rfl rfl ?_
  refine zn_ld rfl rfl rfl ?_
  refine zn_zt [.ref 82, .int (a1 + 1), .int a3] [] rfl rfl rfl rfl rfl (Zt.imp h (fun v2 s3 h => ?_))
  obtain ⟨rfl, h⟩ := h
  change Zn _ _ _ _ _ _ _ _ _ _ _ [] _ _
  replace h := h _ (i_add (x := a3) (y := 1) rfl (show (1 : Int32).toInt = 1 by decide))
  refine zn_inc [.ref 82, .int a1, .int a2, .int (a3 + 1), .null, .null] rfl rfl rfl rfl ?_
  refine zn_ld rfl rfl rfl ?_
  refine zn_c [.int 6, .int (a3 + 1)] (xo_push (.int 6)) rfl rfl ?_
  refine zn_brP rfl rfl ⟨fun hcn => ?_, fun hcn => ?_⟩
  · replace h := h.1 ((i_lt (x := 6) (y := (a3 + 1)) (show (6 : Int32).toInt = 6 by decide) rfl).mp hcn)
    exact m_68_22_3 hd  h
  · replace h := h.2 (fun q => hcn ((i_lt (x := 6) (y := (a3 + 1)) (show (6 : Int32).toInt = 6 by decide) rfl).mpr q))
    refine zn_ld rfl rfl rfl ?_
    refine zn_c [.int 44, .ref 82] (xo_push (.int 44)) rfl rfl ?_
    refine zn_zt [.ref 82, .int 44] [] rfl rfl rfl rfl rfl (Zt.imp h (fun v5 s6 h => ?_))
    obtain ⟨x7, rfl, h⟩ := h
    change Zn _ _ _ _ _ _ _ _ _ _ _ [.int x7] _ _
    refine zn_brN rfl rfl ⟨fun hcn => ?_, fun hcn => ?_⟩
    · replace h := h.1 (fun q => hcn ((i_eq (x := x7) (y := 0) rfl (show (0 : Int32).toInt = 0 by decide)).mpr q))
      exact r8 a1 a2 (a3 + 1) s6 h
    · replace h := h.2 ((i_eq (x := x7) (y := 0) rfl (show (0 : Int32).toInt = 0 by decide)).mp hcn)
      exact m_68_22_3 hd  h
theorem ml_68_8_3 {d d0 : Nat} (hd : d = d0 + 8)  {a1 : Int32} {a2 : Int32} {a3 : Int32} {s : zS} {Q : Option Value → zS → Prop}  (h : vl_68_8 (fun j => Zt d (wd 3 j) j) 3  a1 a2 a3 s Q) : Zn d [] [(3, 99), (3, 98)] ([(82, 0, 3), (82, 1, 4), (82, 2, 7)] : zW) ([(82, 0, 3), (82, 1, 4), (82, 2, 7)] : zW) xL_5 4 (none) xE_68 (xE_68.drop 8) [.ref 82, .int a1, .int a2, .int a3, .null, .null] [] s Q := by
  obtain ⟨I, μ, h0, h1⟩ := h
  have key : ∀ (n : Nat) (a1 : Int32) (a2 : Int32) (a3 : Int32) (s : zS), μ a1 a2 a3 s = n → I a1 a2 a3 s → Zn d [] [(3, 99), (3, 98)] ([(82, 0, 3), (82, 1, 4), (82, 2, 7)] : zW) ([(82, 0, 3), (82, 1, 4), (82, 2, 7)] : zW) xL_5 4 (none) xE_68 (xE_68.drop 8) [.ref 82, .int a1, .int a2, .int a3, .null, .null] [] s Q := by
    intro n
    induction n using Nat.strongRecOn with
    | ind n ih =>
      intro a1 a2 a3 s e hI
      exact m_68_8_3 hd (fun a1' a2' a3' s' q => ih _ (by rw [← e]; exact q.2) a1' a2' a3' s' rfl q.1) (h1 a1 a2 a3 s hI)
  exact key _ a1 a2 a3 s rfl h0
set_option maxRecDepth 20000 in
theorem m_68_0_3 {d d0 : Nat} (hd : d = d0 + 8)  {a1 : Int32} {s : zS} {Q : Option Value → zS → Prop}  (h : v_68_0 (fun j => Zt d (wd 3 j) j) 3  a1 s Q) : Zn d [] [(3, 99), (3, 98)] ([(82, 0, 3), (82, 1, 4), (82, 2, 7)] : zW) ([(82, 0, 3), (82, 1, 4), (82, 2, 7)] : zW) xL_5 4 (none) xE_68 (xE_68.drop 0) [.ref 82, .int a1, .null, .null, .null, .null] [] s Q := by
  unfold v_68_0 at h
  refine zn_ld rfl rfl rfl ?_
  refine zn_get (v := .int (s.1 82 3)) rfl (zv_I (a := 82) rfl rfl) ?_
  refine zn_st [.ref 82, .int a1, .int (s.1 82 3), .null, .null, .null] rfl rfl rfl ?_
  refine zn_ld rfl rfl rfl ?_
  refine zn_c [.int 91, .ref 82] (xo_push (.int 91)) rfl rfl ?_
  refine zn_zt [.ref 82, .int 91] [] rfl rfl rfl rfl rfl (Zt.imp h (fun v1 s2 h => ?_))
  obtain ⟨rfl, h⟩ := h
  change Zn _ _ _ _ _ _ _ _ _ _ _ [] _ _
  refine zn_c [.int 0] (xo_push (.int 0)) rfl rfl ?_
  refine zn_st [.ref 82, .int a1, .int (s.1 82 3), .int 0, .null, .null] rfl rfl rfl ?_
  exact ml_68_8_3 hd  h
theorem zq_68_3 {d : Nat} {a1 : Int32} {s : zS} {Q : Option Value → zS → Prop} (h : v_68_0 (fun j => Zt (d + 8) (wd 3 j) j) 3 a1 s Q) : Zt (d + 9) ([(82, 0, 3), (82, 1, 4), (82, 2, 7)] : zW) 68 [.ref 82, .int a1] s Q := zt_of (E := xE_68) (L := xL_5) (ml := 4) (ret := none) rfl rfl rfl (m_68_0_3 rfl h)
set_option maxRecDepth 20000 in
theorem m_68_22_39 {d d0 : Nat} (hd : d = d0 + 8)  {a1 : Int32} {a2 : Int32} {a3 : Int32} {s : zS} {Q : Option Value → zS → Prop}  (h : v_68_22 (fun j => Zt d (wd 39 j) j) 39  a1 a2 a3 s Q) : Zn d [] [(39, 99), (39, 98)] ([(82, 0, 39), (82, 1, 40), (82, 2, 43)] : zW) ([(82, 0, 39), (82, 1, 40), (82, 2, 43)] : zW) xL_5 4 (none) xE_68 (xE_68.drop 22) [.ref 82, .int a1, .int a2, .int a3, .null, .null] [] s Q := by
  unfold v_68_22 at h
  refine zn_ld rfl rfl rfl ?_
  refine zn_c [.int 93, .ref 82] (xo_push (.int 93)) rfl rfl ?_
  refine zn_zt [.ref 82, .int 93] [] rfl rfl rfl rfl rfl (Zt.imp h (fun v1 s2 h => ?_))
  obtain ⟨rfl, h⟩ := h
  change Zn _ _ _ _ _ _ _ _ _ _ _ [] _ _
  refine zn_ld rfl rfl rfl ?_
  refine zn_get (v := .ref 40) rfl (zv_C (a := 82) (n := 1) rfl rfl rfl) ?_
  refine zn_get (v := .ref 51) rfl (zv_R (a := 40) rfl rfl) ?_
  refine zn_ld rfl rfl rfl ?_
  refine zn_ld rfl rfl rfl ?_
  refine zn_set a2 a3 [] (a := 51) hd rfl rfl rfl rfl h.1 rfl rfl ?_
  replace h := h.2
  replace h := h _ rfl
  exact zn_ret0 rfl h
set_option maxRecDepth 20000 in
theorem m_68_8_39 {d d0 : Nat} (hd : d = d0 + 8) {R8 : Int32 → Int32 → Int32 → zS → Prop} {a1 : Int32} {a2 : Int32} {a3 : Int32} {s : zS} {Q : Option Value → zS → Prop} (r8 : ∀ a1 a2 a3 s, R8 a1 a2 a3 s → Zn d [] [(39, 99), (39, 98)] ([(82, 0, 39), (82, 1, 40), (82, 2, 43)] : zW) ([(82, 0, 39), (82, 1, 40), (82, 2, 43)] : zW) xL_5 4 (none) xE_68 (xE_68.drop 8) [.ref 82, .int a1, .int a2, .int a3, .null, .null] [] s Q) (h : v_68_8 (fun j => Zt d (wd 39 j) j) 39 R8 a1 a2 a3 s Q) : Zn d [] [(39, 99), (39, 98)] ([(82, 0, 39), (82, 1, 40), (82, 2, 43)] : zW) ([(82, 0, 39), (82, 1, 40), (82, 2, 43)] : zW) xL_5 4 (none) xE_68 (xE_68.drop 8) [.ref 82, .int a1, .int a2, .int a3, .null, .null] [] s Q := by
  unfold v_68_8 at h
  refine zn_ld rfl rfl rfl ?_
  refine zn_ld rfl rfl rfl ?_
  refine zn_c [.int 1, .int a1, .ref 82] (xo_push (.int 1)) rfl rfl ?_
  replace h := h _ (i_add (x := a1) (y := 1) rfl (show (1 : Int32).toInt = 1 by decide))
  refine zn_c [.int (a1 + 1), .ref 82] xo_iadd rfl rfl ?_
  refine zn_ld rfl rfl rfl ?_
  refine zn_zt [.ref 82, .int (a1 + 1), .int a3] [] rfl rfl rfl rfl rfl (Zt.imp h (fun v2 s3 h => ?_))
  obtain ⟨rfl, h⟩ := h
  change Zn _ _ _ _ _ _ _ _ _ _ _ [] _ _
  replace h := h _ (i_add (x := a3) (y := 1) rfl (show (1 : Int32).toInt = 1 by decide))
  refine zn_inc [.ref 82, .int a1, .int a2, .int (a3 + 1), .null, .null] rfl rfl rfl rfl ?_
  refine zn_ld rfl rfl rfl ?_
  refine zn_c [.int 6, .int (a3 + 1)] (xo_push (.int 6)) rfl rfl ?_
  refine zn_brP rfl rfl ⟨fun hcn => ?_, fun hcn => ?_⟩
  · replace h := h.1 ((i_lt (x := 6) (y := (a3 + 1)) (show (6 : Int32).toInt = 6 by decide) rfl).mp hcn)
    exact m_68_22_39 hd  h
  · replace h := h.2 (fun q => hcn ((i_lt (x := 6) (y := (a3 + 1)) (show (6 : Int32).toInt = 6 by decide) rfl).mpr q))
    refine zn_ld rfl rfl rfl ?_
    refine zn_c [.int 44, .ref 82] (xo_push (.int 44)) rfl rfl ?_
    refine zn_zt [.ref 82, .int 44] [] rfl rfl rfl rfl rfl (Zt.imp h (fun v5 s6 h => ?_))
    obtain ⟨x7, rfl, h⟩ := h
    change Zn _ _ _ _ _ _ _ _ _ _ _ [.int x7] _ _
    refine zn_brN rfl rfl ⟨fun hcn => ?_, fun hcn => ?_⟩
    · replace h := h.1 (fun q => hcn ((i_eq (x := x7) (y := 0) rfl (show (0 : Int32).toInt = 0 by decide)).mpr q))
      exact r8 a1 a2 (a3 + 1) s6 h
    · replace h := h.2 ((i_eq (x := x7) (y := 0) rfl (show (0 : Int32).toInt = 0 by decide)).mp hcn)
      exact m_68_22_39 hd  h
theorem ml_68_8_39 {d d0 : Nat} (hd : d = d0 + 8)  {a1 : Int32} {a2 : Int32} {a3 : Int32} {s : zS} {Q : Option Value → zS → Prop}  (h : vl_68_8 (fun j => Zt d (wd 39 j) j) 39  a1 a2 a3 s Q) : Zn d [] [(39, 99), (39, 98)] ([(82, 0, 39), (82, 1, 40), (82, 2, 43)] : zW) ([(82, 0, 39), (82, 1, 40), (82, 2, 43)] : zW) xL_5 4 (none) xE_68 (xE_68.drop 8) [.ref 82, .int a1, .int a2, .int a3, .null, .null] [] s Q := by
  obtain ⟨I, μ, h0, h1⟩ := h
  have key : ∀ (n : Nat) (a1 : Int32) (a2 : Int32) (a3 : Int32) (s : zS), μ a1 a2 a3 s = n → I a1 a2 a3 s → Zn d [] [(39, 99), (39, 98)] ([(82, 0, 39), (82, 1, 40), (82, 2, 43)] : zW) ([(82, 0, 39), (82, 1, 40), (82, 2, 43)] : zW) xL_5 4 (none) xE_68 (xE_68.drop 8) [.ref 82, .int a1, .int a2, .int a3, .null, .null] [] s Q := by
    intro n
    induction n using Nat.strongRecOn with
    | ind n ih =>
      intro a1 a2 a3 s e hI
      exact m_68_8_39 hd (fun a1' a2' a3' s' q => ih _ (by rw [← e]; exact q.2) a1' a2' a3' s' rfl q.1) (h1 a1 a2 a3 s hI)
  exact key _ a1 a2 a3 s rfl h0
set_option maxRecDepth 20000 in
theorem m_68_0_39 {d d0 : Nat} (hd : d = d0 + 8)  {a1 : Int32} {s : zS} {Q : Option Value → zS → Prop}  (h : v_68_0 (fun j => Zt d (wd 39 j) j) 39  a1 s Q) : Zn d [] [(39, 99), (39, 98)] ([(82, 0, 39), (82, 1, 40), (82, 2, 43)] : zW) ([(82, 0, 39), (82, 1, 40), (82, 2, 43)] : zW) xL_5 4 (none) xE_68 (xE_68.drop 0) [.ref 82, .int a1, .null, .null, .null, .null] [] s Q := by
  unfold v_68_0 at h
  refine zn_ld rfl rfl rfl ?_
  refine zn_get (v := .int (s.1 82 3)) rfl (zv_I (a := 82) rfl rfl) ?_
  refine zn_st [.ref 82, .int a1, .int (s.1 82 3), .null, .null, .null] rfl rfl rfl ?_
  refine zn_ld rfl rfl rfl ?_
  refine zn_c [.int 91, .ref 82] (xo_push (.int 91)) rfl rfl ?_
  refine zn_zt [.ref 82, .int 91] [] rfl rfl rfl rfl rfl (Zt.imp h (fun v1 s2 h => ?_))
  obtain ⟨rfl, h⟩ := h
  change Zn _ _ _ _ _ _ _ _ _ _ _ [] _ _
  refine zn_c [.int 0] (xo_push (.int 0)) rfl rfl ?_
  refine zn_st [.ref 82, .int a1, .int (s.1 82 3), .int 0, .null, .null] rfl rfl rfl ?_
  exact ml_68_8_39 hd  h
theorem zq_68_39 {d : Nat} {a1 : Int32} {s : zS} {Q : Option Value → zS → Prop} (h : v_68_0 (fun j => Zt (d + 8) (wd 39 j) j) 39 a1 s Q) : Zt (d + 9) ([(82, 0, 39), (82, 1, 40), (82, 2, 43)] : zW) 68 [.ref 82, .int a1] s Q := zt_of (E := xE_68) (L := xL_5) (ml := 4) (ret := none) rfl rfl rfl (m_68_0_39 rfl h)
theorem zc_68 {d P : Nat} (hP : P = 3 ∨ P = 39) {a1 : Int32} {s : zS} {Q : Option Value → zS → Prop} (h : v_68_0 (fun j => Zt (d + 8) (wd P j) j) P a1 s Q) : Zt (d + 9) (wd P 68) 68 [.ref 82, .int a1] s Q := by
  rcases hP with rfl | rfl
  · exact zq_68_3 h
  · exact zq_68_39 h
/-! FeatherBench$Reader.passValue -/
def v_69_79 (T : Nat → List Value → zS → (Option Value → zS → Prop) → Prop) (P : Nat)  (a1 : Int32) (a2 : Int32) (a3 : Int32) (a4 : Int32) (s : zS) (Q : Option Value → zS → Prop) : Prop :=
  Q none s
def v_69_77 (T : Nat → List Value → zS → (Option Value → zS → Prop) → Prop) (P : Nat) (R50 : Int32 → Int32 → Int32 → Int32 → zS → Prop) (a1 : Int32) (a2 : Int32) (a3 : Int32) (a4 : Int32) (s : zS) (Q : Option Value → zS → Prop) : Prop :=
  ∀ x1 : Int32, (-2147483648 ≤ a4.toInt + 1 ∧ a4.toInt + 1 ≤ 2147483647 → x1.toInt = a4.toInt + 1) → R50 a1 a2 a3 x1 s
def v_69_50 (T : Nat → List Value → zS → (Option Value → zS → Prop) → Prop) (P : Nat) (R50 : Int32 → Int32 → Int32 → Int32 → zS → Prop) (a1 : Int32) (a2 : Int32) (a3 : Int32) (a4 : Int32) (s : zS) (Q : Option Value → zS → Prop) : Prop :=
  (20 < a4.toInt → v_69_79 T P  a1 a2 a3 a4 s Q) ∧ (¬ (20 < a4.toInt) → (¬ ((s.1 P 14).toInt = 0) → v_69_79 T P  a1 a2 a3 a4 s Q) ∧ ((s.1 P 14).toInt = 0 → (¬ ((zg s (P + 4) (s.1 82 3)).toInt = 46) → v_69_79 T P  a1 a2 a3 a4 s Q) ∧ ((zg s (P + 4) (s.1 82 3)).toInt = 46 → (¬ (a4.toInt = 20) → T 70 [.ref 82, .int a1] s (fun v1 s2 => v1 = none ∧ (v_69_77 T P R50 a1 a2 a3 a4 s2 Q))) ∧ (a4.toInt = 20 → T 38 [.ref P, .int 5, .int (s.1 82 3)] s (fun v3 s4 => v3 = none ∧ (v_69_77 T P R50 a1 a2 a3 a4 s4 Q))))))
def vl_69_50 (T : Nat → List Value → zS → (Option Value → zS → Prop) → Prop) (P : Nat)  (a1 : Int32) (a2 : Int32) (a3 : Int32) (a4 : Int32) (s : zS) (Q : Option Value → zS → Prop) : Prop :=
  ∃ (I : Int32 → Int32 → Int32 → Int32 → zS → Prop) (μ : Int32 → Int32 → Int32 → Int32 → zS → Nat), I a1 a2 a3 a4 s ∧ ∀ (a1 : Int32) (a2 : Int32) (a3 : Int32) (a4 : Int32) (s : zS), I a1 a2 a3 a4 s → v_69_50 T P (fun a1' a2' a3' a4' s' => I a1' a2' a3' a4' s' ∧ μ a1' a2' a3' a4' s' < μ a1 a2 a3 a4 s) a1 a2 a3 a4 s Q
def v_69_48 (T : Nat → List Value → zS → (Option Value → zS → Prop) → Prop) (P : Nat)  (a1 : Int32) (a2 : Int32) (a3 : Int32) (s : zS) (Q : Option Value → zS → Prop) : Prop :=
  vl_69_50 T P  a1 a2 a3 0 s Q
def v_69_32 (T : Nat → List Value → zS → (Option Value → zS → Prop) → Prop) (P : Nat)  (a1 : Int32) (a2 : Int32) (a3 : Int32) (s : zS) (Q : Option Value → zS → Prop) : Prop :=
  (0 ≤ a3.toInt ∧ a3.toInt ≤ 5000) ∧ (∀ s1, s1 = zf s 82 3 a3 → ∀ x2 : Int32, (-2147483648 ≤ a1.toInt + 1 ∧ a1.toInt + 1 ≤ 2147483647 → x2.toInt = a1.toInt + 1) → T 67 [.ref 82, .int x2, .int 0] s1 (fun v3 s4 => v3 = none ∧ (T 71 [.ref 82, .int 123, .int 125, .int (s4.1 82 3), .int a1] s4 (fun v5 s6 => v5 = none ∧ (v_69_48 T P  a1 a2 a3 s6 Q)))))
def v_69_13 (T : Nat → List Value → zS → (Option Value → zS → Prop) → Prop) (P : Nat)  (a1 : Int32) (a2 : Int32) (a3 : Int32) (t1 : Int32) (s : zS) (Q : Option Value → zS → Prop) : Prop :=
  T 74 [.ref 82, .int t1] s (fun v1 s2 => v1 = none ∧ ((¬ ((s2.1 P 14).toInt = 0) → v_69_48 T P  a1 a2 a3 s2 Q) ∧ ((s2.1 P 14).toInt = 0 → ((zg s2 (P + 4) (s2.1 82 3)).toInt = 123 → v_69_32 T P  a1 a2 a3 s2 Q) ∧ (¬ ((zg s2 (P + 4) (s2.1 82 3)).toInt = 123) → (¬ ((zg s2 (P + 4) (s2.1 82 3)).toInt = 91) → v_69_48 T P  a1 a2 a3 s2 Q) ∧ ((zg s2 (P + 4) (s2.1 82 3)).toInt = 91 → v_69_32 T P  a1 a2 a3 s2 Q)))))
def v_69_10 (T : Nat → List Value → zS → (Option Value → zS → Prop) → Prop) (P : Nat)  (a1 : Int32) (a2 : Int32) (a3 : Int32) (s : zS) (Q : Option Value → zS → Prop) : Prop :=
  v_69_13 T P  a1 a2 a3 1 s Q
def v_69_0 (T : Nat → List Value → zS → (Option Value → zS → Prop) → Prop) (P : Nat)  (a1 : Int32) (a2 : Int32) (s : zS) (Q : Option Value → zS → Prop) : Prop :=
  (10 < a1.toInt → v_69_10 T P  a1 a2 (s.1 82 3) s Q) ∧ (¬ (10 < a1.toInt) → (a2.toInt < 6 → v_69_13 T P  a1 a2 (s.1 82 3) 0 s Q) ∧ (¬ (a2.toInt < 6) → v_69_10 T P  a1 a2 (s.1 82 3) s Q))
set_option maxRecDepth 20000 in
theorem m_69_79_3 {d d0 : Nat} (hd : d = d0 + 8)  {a1 : Int32} {a2 : Int32} {a3 : Int32} {a4 : Int32} {s : zS} {Q : Option Value → zS → Prop}  (h : v_69_79 (fun j => Zt d (wd 3 j) j) 3  a1 a2 a3 a4 s Q) : Zn d [] [(3, 99), (3, 98)] ([(82, 0, 3), (82, 1, 4), (82, 2, 7)] : zW) ([(82, 0, 3), (82, 1, 4), (82, 2, 7)] : zW) xL_5 5 (none) xE_69 (xE_69.drop 79) [.ref 82, .int a1, .int a2, .int a3, .int a4, .null, .null, .null] [] s Q := by
  unfold v_69_79 at h
  exact zn_ret0 rfl h
set_option maxRecDepth 20000 in
theorem m_69_77_3 {d d0 : Nat} (hd : d = d0 + 8) {R50 : Int32 → Int32 → Int32 → Int32 → zS → Prop} {a1 : Int32} {a2 : Int32} {a3 : Int32} {a4 : Int32} {s : zS} {Q : Option Value → zS → Prop} (r50 : ∀ a1 a2 a3 a4 s, R50 a1 a2 a3 a4 s → Zn d [] [(3, 99), (3, 98)] ([(82, 0, 3), (82, 1, 4), (82, 2, 7)] : zW) ([(82, 0, 3), (82, 1, 4), (82, 2, 7)] : zW) xL_5 5 (none) xE_69 (xE_69.drop 50) [.ref 82, .int a1, .int a2, .int a3, .int a4, .null, .null, .null] [] s Q) (h : v_69_77 (fun j => Zt d (wd 3 j) j) 3 R50 a1 a2 a3 a4 s Q) : Zn d [] [(3, 99), (3, 98)] ([(82, 0, 3), (82, 1, 4), (82, 2, 7)] : zW) ([(82, 0, 3), (82, 1, 4), (82, 2, 7)] : zW) xL_5 5 (none) xE_69 (xE_69.drop 77) [.ref 82, .int a1, .int a2, .int a3, .int a4, .null, .null, .null] [] s Q := by
  unfold v_69_77 at h
  replace h := h _ (i_add (x := a4) (y := 1) rfl (show (1 : Int32).toInt = 1 by decide))
  refine zn_inc [.ref 82, .int a1, .int a2, .int a3, .int (a4 + 1), .null, .null, .null] rfl rfl rfl rfl ?_
  refine zn_go rfl ?_
  exact r50 a1 a2 a3 (a4 + 1) s h
set_option maxRecDepth 20000 in
theorem m_69_50_3 {d d0 : Nat} (hd : d = d0 + 8) {R50 : Int32 → Int32 → Int32 → Int32 → zS → Prop} {a1 : Int32} {a2 : Int32} {a3 : Int32} {a4 : Int32} {s : zS} {Q : Option Value → zS → Prop} (r50 : ∀ a1 a2 a3 a4 s, R50 a1 a2 a3 a4 s → Zn d [] [(3, 99), (3, 98)] ([(82, 0, 3), (82, 1, 4), (82, 2, 7)] : zW) ([(82, 0, 3), (82, 1, 4), (82, 2, 7)] : zW) xL_5 5 (none) xE_69 (xE_69.drop 50) [.ref 82, .int a1, .int a2, .int a3, .int a4, .null, .null, .null] [] s Q) (h : v_69_50 (fun j => Zt d (wd 3 j) j) 3 R50 a1 a2 a3 a4 s Q) : Zn d [] [(3, 99), (3, 98)] ([(82, 0, 3), (82, 1, 4), (82, 2, 7)] : zW) ([(82, 0, 3), (82, 1, 4), (82, 2, 7)] : zW) xL_5 5 (none) xE_69 (xE_69.drop 50) [.ref 82, .int a1, .int a2, .int a3, .int a4, .null, .null, .null] [] s Q := by
  unfold v_69_50 at h
  refine zn_ld rfl rfl rfl ?_
  refine zn_c [.int 20, .int a4] (xo_push (.int 20)) rfl rfl ?_
  refine zn_brP rfl rfl ⟨fun hcn => ?_, fun hcn => ?_⟩
  · replace h := h.1 ((i_lt (x := 20) (y := a4) (show (20 : Int32).toInt = 20 by decide) rfl).mp hcn)
    exact m_69_79_3 hd  h
  · replace h := h.2 (fun q => hcn ((i_lt (x := 20) (y := a4) (show (20 : Int32).toInt = 20 by decide) rfl).mpr q))
    refine zn_ld rfl rfl rfl ?_
    refine zn_get (v := .ref 3) rfl (zv_C (a := 82) (n := 0) rfl rfl rfl) ?_
    refine zn_get (v := .int (s.1 3 14)) rfl (zv_I (a := 3) rfl rfl) ?_
    refine zn_brN rfl rfl ⟨fun hcn => ?_, fun hcn => ?_⟩
    · replace h := h.1 (fun q => hcn ((i_eq (x := s.1 3 14) (y := 0) rfl (show (0 : Int32).toInt = 0 by decide)).mpr q))
      exact m_69_79_3 hd  h
    · replace h := h.2 ((i_eq (x := s.1 3 14) (y := 0) rfl (show (0 : Int32).toInt = 0 by decide)).mp hcn)
      refine zn_ld rfl rfl rfl ?_
      refine zn_get (v := .ref 7) rfl (zv_C (a := 82) (n := 2) rfl rfl rfl) ?_
      refine zn_ld rfl rfl rfl ?_
      refine zn_get (v := .int (s.1 82 3)) rfl (zv_I (a := 82) rfl rfl) ?_
      refine zn_row (s.1 82 3) [] (a := 7) hd rfl rfl rfl rfl ?_
      change Zn _ _ _ _ _ _ _ _ _ _ _ [.int (zg s 7 (s.1 82 3))] _ _
      refine zn_c [.int 46, .int (zg s 7 (s.1 82 3))] (xo_push (.int 46)) rfl rfl ?_
      refine zn_brN rfl rfl ⟨fun hcn => ?_, fun hcn => ?_⟩
      · replace h := h.1 (fun q => hcn ((i_eq (x := zg s 7 (s.1 82 3)) (y := 46) rfl (show (46 : Int32).toInt = 46 by decide)).mpr q))
        exact m_69_79_3 hd  h
      · replace h := h.2 ((i_eq (x := zg s 7 (s.1 82 3)) (y := 46) rfl (show (46 : Int32).toInt = 46 by decide)).mp hcn)
        refine zn_ld rfl rfl rfl ?_
        refine zn_c [.int 20, .int a4] (xo_push (.int 20)) rfl rfl ?_
        refine zn_brN rfl rfl ⟨fun hcn => ?_, fun hcn => ?_⟩
        · replace h := h.1 (fun q => hcn ((i_eq (x := a4) (y := 20) rfl (show (20 : Int32).toInt = 20 by decide)).mpr q))
          refine zn_ld rfl rfl rfl ?_
          refine zn_ld rfl rfl rfl ?_
          refine zn_zt [.ref 82, .int a1] [] rfl rfl rfl rfl rfl (Zt.imp h (fun v1 s2 h => ?_))
          obtain ⟨rfl, h⟩ := h
          change Zn _ _ _ _ _ _ _ _ _ _ _ [] _ _
          exact m_69_77_3 hd r50 h
        · replace h := h.2 ((i_eq (x := a4) (y := 20) rfl (show (20 : Int32).toInt = 20 by decide)).mp hcn)
          refine zn_ld rfl rfl rfl ?_
          refine zn_get (v := .ref 3) rfl (zv_C (a := 82) (n := 0) rfl rfl rfl) ?_
          refine zn_c [.int 5, .ref 3] (xo_push (.int 5)) rfl rfl ?_
          refine zn_ld rfl rfl rfl ?_
          refine zn_get (v := .int (s.1 82 3)) rfl (zv_I (a := 82) rfl rfl) ?_
          refine zn_zt [.ref 3, .int 5, .int (s.1 82 3)] [] rfl rfl rfl rfl rfl (Zt.imp h (fun v3 s4 h => ?_))
          obtain ⟨rfl, h⟩ := h
          change Zn _ _ _ _ _ _ _ _ _ _ _ [] _ _
          refine zn_go rfl ?_
          exact m_69_77_3 hd r50 h
theorem ml_69_50_3 {d d0 : Nat} (hd : d = d0 + 8)  {a1 : Int32} {a2 : Int32} {a3 : Int32} {a4 : Int32} {s : zS} {Q : Option Value → zS → Prop}  (h : vl_69_50 (fun j => Zt d (wd 3 j) j) 3  a1 a2 a3 a4 s Q) : Zn d [] [(3, 99), (3, 98)] ([(82, 0, 3), (82, 1, 4), (82, 2, 7)] : zW) ([(82, 0, 3), (82, 1, 4), (82, 2, 7)] : zW) xL_5 5 (none) xE_69 (xE_69.drop 50) [.ref 82, .int a1, .int a2, .int a3, .int a4, .null, .null, .null] [] s Q := by
  obtain ⟨I, μ, h0, h1⟩ := h
  have key : ∀ (n : Nat) (a1 : Int32) (a2 : Int32) (a3 : Int32) (a4 : Int32) (s : zS), μ a1 a2 a3 a4 s = n → I a1 a2 a3 a4 s → Zn d [] [(3, 99), (3, 98)] ([(82, 0, 3), (82, 1, 4), (82, 2, 7)] : zW) ([(82, 0, 3), (82, 1, 4), (82, 2, 7)] : zW) xL_5 5 (none) xE_69 (xE_69.drop 50) [.ref 82, .int a1, .int a2, .int a3, .int a4, .null, .null, .null] [] s Q := by
    intro n
    induction n using Nat.strongRecOn with
    | ind n ih =>
      intro a1 a2 a3 a4 s e hI
      exact m_69_50_3 hd (fun a1' a2' a3' a4' s' q => ih _ (by rw [← e]; exact q.2) a1' a2' a3' a4' s' rfl q.1) (h1 a1 a2 a3 a4 s hI)
  exact key _ a1 a2 a3 a4 s rfl h0
set_option maxRecDepth 20000 in
theorem m_69_48_3 {d d0 : Nat} (hd : d = d0 + 8)  {a1 : Int32} {a2 : Int32} {a3 : Int32} {s : zS} {Q : Option Value → zS → Prop}  (h : v_69_48 (fun j => Zt d (wd 3 j) j) 3  a1 a2 a3 s Q) : Zn d [] [(3, 99), (3, 98)] ([(82, 0, 3), (82, 1, 4), (82, 2, 7)] : zW) ([(82, 0, 3), (82, 1, 4), (82, 2, 7)] : zW) xL_5 5 (none) xE_69 (xE_69.drop 48) [.ref 82, .int a1, .int a2, .int a3, .null, .null, .null, .null] [] s Q := by
  unfold v_69_48 at h
  refine zn_c [.int 0] (xo_push (.int 0)) rfl rfl ?_
  refine zn_st [.ref 82, .int a1, .int a2, .int a3, .int 0, .null, .null, .null] rfl rfl rfl ?_
  exact ml_69_50_3 hd  h
set_option maxRecDepth 20000 in
theorem m_69_32_3 {d d0 : Nat} (hd : d = d0 + 8)  {a1 : Int32} {a2 : Int32} {a3 : Int32} {s : zS} {Q : Option Value → zS → Prop}  (h : v_69_32 (fun j => Zt d (wd 3 j) j) 3  a1 a2 a3 s Q) : Zn d [] [(3, 99), (3, 98)] ([(82, 0, 3), (82, 1, 4), (82, 2, 7)] : zW) ([(82, 0, 3), (82, 1, 4), (82, 2, 7)] : zW) xL_5 5 (none) xE_69 (xE_69.drop 32) [.ref 82, .int a1, .int a2, .int a3, .null, .null, .null, .null] [] s Q := by
  unfold v_69_32 at h
  refine zn_ld rfl rfl rfl ?_
  refine zn_ld rfl rfl rfl ?_
  refine zn_putI (a := 82) rfl rfl rfl rfl h.1 rfl rfl rfl ?_
  replace h := h.2
  replace h := h _ rfl
  refine zn_ld rfl rfl rfl ?_
  refine zn_ld rfl rfl rfl ?_
  refine zn_c [.int 1, .int a1, .ref 82] (xo_push (.int 1)) rfl rfl ?_
  replace h := h _ (i_add (x := a1) (y := 1) rfl (show (1 : Int32).toInt = 1 by decide))
  refine zn_c [.int (a1 + 1), .ref 82] xo_iadd rfl rfl ?_
  refine zn_c [.int 0, .int (a1 + 1), .ref 82] (xo_push (.int 0)) rfl rfl ?_
  refine zn_zt [.ref 82, .int (a1 + 1), .int 0] [] rfl rfl rfl rfl rfl (Zt.imp h (fun v3 s4 h => ?_))
  obtain ⟨rfl, h⟩ := h
  change Zn _ _ _ _ _ _ _ _ _ _ _ [] _ _
  refine zn_ld rfl rfl rfl ?_
  refine zn_c [.int 123, .ref 82] (xo_push (.int 123)) rfl rfl ?_
  refine zn_c [.int 125, .int 123, .ref 82] (xo_push (.int 125)) rfl rfl ?_
  refine zn_ld rfl rfl rfl ?_
  refine zn_get (v := .int (s4.1 82 3)) rfl (zv_I (a := 82) rfl rfl) ?_
  refine zn_ld rfl rfl rfl ?_
  refine zn_zt [.ref 82, .int 123, .int 125, .int (s4.1 82 3), .int a1] [] rfl rfl rfl rfl rfl (Zt.imp h (fun v5 s6 h => ?_))
  obtain ⟨rfl, h⟩ := h
  change Zn _ _ _ _ _ _ _ _ _ _ _ [] _ _
  exact m_69_48_3 hd  h
set_option maxRecDepth 20000 in
theorem m_69_13_3 {d d0 : Nat} (hd : d = d0 + 8)  {a1 : Int32} {a2 : Int32} {a3 : Int32} {t1 : Int32} {s : zS} {Q : Option Value → zS → Prop}  (h : v_69_13 (fun j => Zt d (wd 3 j) j) 3  a1 a2 a3 t1 s Q) : Zn d [] [(3, 99), (3, 98)] ([(82, 0, 3), (82, 1, 4), (82, 2, 7)] : zW) ([(82, 0, 3), (82, 1, 4), (82, 2, 7)] : zW) xL_5 5 (none) xE_69 (xE_69.drop 13) [.ref 82, .int a1, .int a2, .int a3, .null, .null, .null, .null] [.int t1, .ref 82] s Q := by
  unfold v_69_13 at h
  refine zn_zt [.ref 82, .int t1] [] rfl rfl rfl rfl rfl (Zt.imp h (fun v1 s2 h => ?_))
  obtain ⟨rfl, h⟩ := h
  change Zn _ _ _ _ _ _ _ _ _ _ _ [] _ _
  refine zn_ld rfl rfl rfl ?_
  refine zn_get (v := .ref 3) rfl (zv_C (a := 82) (n := 0) rfl rfl rfl) ?_
  refine zn_get (v := .int (s2.1 3 14)) rfl (zv_I (a := 3) rfl rfl) ?_
  refine zn_brN rfl rfl ⟨fun hcn => ?_, fun hcn => ?_⟩
  · replace h := h.1 (fun q => hcn ((i_eq (x := s2.1 3 14) (y := 0) rfl (show (0 : Int32).toInt = 0 by decide)).mpr q))
    exact m_69_48_3 hd  h
  · replace h := h.2 ((i_eq (x := s2.1 3 14) (y := 0) rfl (show (0 : Int32).toInt = 0 by decide)).mp hcn)
    refine zn_ld rfl rfl rfl ?_
    refine zn_get (v := .ref 7) rfl (zv_C (a := 82) (n := 2) rfl rfl rfl) ?_
    refine zn_ld rfl rfl rfl ?_
    refine zn_get (v := .int (s2.1 82 3)) rfl (zv_I (a := 82) rfl rfl) ?_
    refine zn_row (s2.1 82 3) [] (a := 7) hd rfl rfl rfl rfl ?_
    change Zn _ _ _ _ _ _ _ _ _ _ _ [.int (zg s2 7 (s2.1 82 3))] _ _
    refine zn_c [.int 123, .int (zg s2 7 (s2.1 82 3))] (xo_push (.int 123)) rfl rfl ?_
    refine zn_brP rfl rfl ⟨fun hcn => ?_, fun hcn => ?_⟩
    · replace h := h.1 ((i_eq (x := zg s2 7 (s2.1 82 3)) (y := 123) rfl (show (123 : Int32).toInt = 123 by decide)).mp hcn)
      exact m_69_32_3 hd  h
    · replace h := h.2 (fun q => hcn ((i_eq (x := zg s2 7 (s2.1 82 3)) (y := 123) rfl (show (123 : Int32).toInt = 123 by decide)).mpr q))
      refine zn_ld rfl rfl rfl ?_
      refine zn_get (v := .ref 7) rfl (zv_C (a := 82) (n := 2) rfl rfl rfl) ?_
      refine zn_ld rfl rfl rfl ?_
      refine zn_get (v := .int (s2.1 82 3)) rfl (zv_I (a := 82) rfl rfl) ?_
      refine zn_row (s2.1 82 3) [] (a := 7) hd rfl rfl rfl rfl ?_
      change Zn _ _ _ _ _ _ _ _ _ _ _ [.int (zg s2 7 (s2.1 82 3))] _ _
      refine zn_c [.int 91, .int (zg s2 7 (s2.1 82 3))] (xo_push (.int 91)) rfl rfl ?_
      refine zn_brN rfl rfl ⟨fun hcn => ?_, fun hcn => ?_⟩
      · replace h := h.1 (fun q => hcn ((i_eq (x := zg s2 7 (s2.1 82 3)) (y := 91) rfl (show (91 : Int32).toInt = 91 by decide)).mpr q))
        exact m_69_48_3 hd  h
      · replace h := h.2 ((i_eq (x := zg s2 7 (s2.1 82 3)) (y := 91) rfl (show (91 : Int32).toInt = 91 by decide)).mp hcn)
        exact m_69_32_3 hd  h
set_option maxRecDepth 20000 in
theorem m_69_10_3 {d d0 : Nat} (hd : d = d0 + 8)  {a1 : Int32} {a2 : Int32} {a3 : Int32} {s : zS} {Q : Option Value → zS → Prop}  (h : v_69_10 (fun j => Zt d (wd 3 j) j) 3  a1 a2 a3 s Q) : Zn d [] [(3, 99), (3, 98)] ([(82, 0, 3), (82, 1, 4), (82, 2, 7)] : zW) ([(82, 0, 3), (82, 1, 4), (82, 2, 7)] : zW) xL_5 5 (none) xE_69 (xE_69.drop 10) [.ref 82, .int a1, .int a2, .int a3, .null, .null, .null, .null] [.ref 82] s Q := by
  unfold v_69_10 at h
  refine zn_c [.int 1, .ref 82] (xo_push (.int 1)) rfl rfl ?_
  refine zn_go rfl ?_
  exact m_69_13_3 hd  h
set_option maxRecDepth 20000 in
theorem m_69_0_3 {d d0 : Nat} (hd : d = d0 + 8)  {a1 : Int32} {a2 : Int32} {s : zS} {Q : Option Value → zS → Prop}  (h : v_69_0 (fun j => Zt d (wd 3 j) j) 3  a1 a2 s Q) : Zn d [] [(3, 99), (3, 98)] ([(82, 0, 3), (82, 1, 4), (82, 2, 7)] : zW) ([(82, 0, 3), (82, 1, 4), (82, 2, 7)] : zW) xL_5 5 (none) xE_69 (xE_69.drop 0) [.ref 82, .int a1, .int a2, .null, .null, .null, .null, .null] [] s Q := by
  unfold v_69_0 at h
  refine zn_ld rfl rfl rfl ?_
  refine zn_get (v := .int (s.1 82 3)) rfl (zv_I (a := 82) rfl rfl) ?_
  refine zn_st [.ref 82, .int a1, .int a2, .int (s.1 82 3), .null, .null, .null, .null] rfl rfl rfl ?_
  refine zn_ld rfl rfl rfl ?_
  refine zn_ld rfl rfl rfl ?_
  refine zn_c [.int 10, .int a1, .ref 82] (xo_push (.int 10)) rfl rfl ?_
  refine zn_brP rfl rfl ⟨fun hcn => ?_, fun hcn => ?_⟩
  · replace h := h.1 ((i_lt (x := 10) (y := a1) (show (10 : Int32).toInt = 10 by decide) rfl).mp hcn)
    exact m_69_10_3 hd  h
  · replace h := h.2 (fun q => hcn ((i_lt (x := 10) (y := a1) (show (10 : Int32).toInt = 10 by decide) rfl).mpr q))
    refine zn_ld rfl rfl rfl ?_
    refine zn_c [.int 6, .int a2, .ref 82] (xo_push (.int 6)) rfl rfl ?_
    refine zn_brP rfl rfl ⟨fun hcn => ?_, fun hcn => ?_⟩
    · replace h := h.1 ((i_lt (x := a2) (y := 6) rfl (show (6 : Int32).toInt = 6 by decide)).mp hcn)
      refine zn_c [.int 0, .ref 82] (xo_push (.int 0)) rfl rfl ?_
      exact m_69_13_3 hd  h
    · replace h := h.2 (fun q => hcn ((i_lt (x := a2) (y := 6) rfl (show (6 : Int32).toInt = 6 by decide)).mpr q))
      exact m_69_10_3 hd  h
theorem zq_69_3 {d : Nat} {a1 : Int32} {a2 : Int32} {s : zS} {Q : Option Value → zS → Prop} (h : v_69_0 (fun j => Zt (d + 8) (wd 3 j) j) 3 a1 a2 s Q) : Zt (d + 9) ([(82, 0, 3), (82, 1, 4), (82, 2, 7)] : zW) 69 [.ref 82, .int a1, .int a2] s Q := zt_of (E := xE_69) (L := xL_5) (ml := 5) (ret := none) rfl rfl rfl (m_69_0_3 rfl h)
set_option maxRecDepth 20000 in
theorem m_69_79_39 {d d0 : Nat} (hd : d = d0 + 8)  {a1 : Int32} {a2 : Int32} {a3 : Int32} {a4 : Int32} {s : zS} {Q : Option Value → zS → Prop}  (h : v_69_79 (fun j => Zt d (wd 39 j) j) 39  a1 a2 a3 a4 s Q) : Zn d [] [(39, 99), (39, 98)] ([(82, 0, 39), (82, 1, 40), (82, 2, 43)] : zW) ([(82, 0, 39), (82, 1, 40), (82, 2, 43)] : zW) xL_5 5 (none) xE_69 (xE_69.drop 79) [.ref 82, .int a1, .int a2, .int a3, .int a4, .null, .null, .null] [] s Q := by
  unfold v_69_79 at h
  exact zn_ret0 rfl h
set_option maxRecDepth 20000 in
theorem m_69_77_39 {d d0 : Nat} (hd : d = d0 + 8) {R50 : Int32 → Int32 → Int32 → Int32 → zS → Prop} {a1 : Int32} {a2 : Int32} {a3 : Int32} {a4 : Int32} {s : zS} {Q : Option Value → zS → Prop} (r50 : ∀ a1 a2 a3 a4 s, R50 a1 a2 a3 a4 s → Zn d [] [(39, 99), (39, 98)] ([(82, 0, 39), (82, 1, 40), (82, 2, 43)] : zW) ([(82, 0, 39), (82, 1, 40), (82, 2, 43)] : zW) xL_5 5 (none) xE_69 (xE_69.drop 50) [.ref 82, .int a1, .int a2, .int a3, .int a4, .null, .null, .null] [] s Q) (h : v_69_77 (fun j => Zt d (wd 39 j) j) 39 R50 a1 a2 a3 a4 s Q) : Zn d [] [(39, 99), (39, 98)] ([(82, 0, 39), (82, 1, 40), (82, 2, 43)] : zW) ([(82, 0, 39), (82, 1, 40), (82, 2, 43)] : zW) xL_5 5 (none) xE_69 (xE_69.drop 77) [.ref 82, .int a1, .int a2, .int a3, .int a4, .null, .null, .null] [] s Q := by
  unfold v_69_77 at h
  replace h := h _ (i_add (x := a4) (y := 1) rfl (show (1 : Int32).toInt = 1 by decide))
  refine zn_inc [.ref 82, .int a1, .int a2, .int a3, .int (a4 + 1), .null, .null, .null] rfl rfl rfl rfl ?_
  refine zn_go rfl ?_
  exact r50 a1 a2 a3 (a4 + 1) s h
set_option maxRecDepth 20000 in
theorem m_69_50_39 {d d0 : Nat} (hd : d = d0 + 8) {R50 : Int32 → Int32 → Int32 → Int32 → zS → Prop} {a1 : Int32} {a2 : Int32} {a3 : Int32} {a4 : Int32} {s : zS} {Q : Option Value → zS → Prop} (r50 : ∀ a1 a2 a3 a4 s, R50 a1 a2 a3 a4 s → Zn d [] [(39, 99), (39, 98)] ([(82, 0, 39), (82, 1, 40), (82, 2, 43)] : zW) ([(82, 0, 39), (82, 1, 40), (82, 2, 43)] : zW) xL_5 5 (none) xE_69 (xE_69.drop 50) [.ref 82, .int a1, .int a2, .int a3, .int a4, .null, .null, .null] [] s Q) (h : v_69_50 (fun j => Zt d (wd 39 j) j) 39 R50 a1 a2 a3 a4 s Q) : Zn d [] [(39, 99), (39, 98)] ([(82, 0, 39), (82, 1, 40), (82, 2, 43)] : zW) ([(82, 0, 39), (82, 1, 40), (82, 2, 43)] : zW) xL_5 5 (none) xE_69 (xE_69.drop 50) [.ref 82, .int a1, .int a2, .int a3, .int a4, .null, .null, .null] [] s Q := by
  unfold v_69_50 at h
  refine zn_ld rfl rfl rfl ?_
  refine zn_c [.int 20, .int a4] (xo_push (.int 20)) rfl rfl ?_
  refine zn_brP rfl rfl ⟨fun hcn => ?_, fun hcn => ?_⟩
  · replace h := h.1 ((i_lt (x := 20) (y := a4) (show (20 : Int32).toInt = 20 by decide) rfl).mp hcn)
    exact m_69_79_39 hd  h
  · replace h := h.2 (fun q => hcn ((i_lt (x := 20) (y := a4) (show (20 : Int32).toInt = 20 by decide) rfl).mpr q))
    refine zn_ld rfl rfl rfl ?_
    refine zn_get (v := .ref 39) rfl (zv_C (a := 82) (n := 0) rfl rfl rfl) ?_
    refine zn_get (v := .int (s.1 39 14)) rfl (zv_I (a := 39) rfl rfl) ?_
    refine zn_brN rfl rfl ⟨fun hcn => ?_, fun hcn => ?_⟩
    · replace h := h.1 (fun q => hcn ((i_eq (x := s.1 39 14) (y := 0) rfl (show (0 : Int32).toInt = 0 by decide)).mpr q))
      exact m_69_79_39 hd  h
    · replace h := h.2 ((i_eq (x := s.1 39 14) (y := 0) rfl (show (0 : Int32).toInt = 0 by decide)).mp hcn)
      refine zn_ld rfl rfl rfl ?_
      refine zn_get (v := .ref 43) rfl (zv_C (a := 82) (n := 2) rfl rfl rfl) ?_
      refine zn_ld rfl rfl rfl ?_
      refine zn_get (v := .int (s.1 82 3)) rfl (zv_I (a := 82) rfl rfl) ?_
      refine zn_row (s.1 82 3) [] (a := 43) hd rfl rfl rfl rfl ?_
      change Zn _ _ _ _ _ _ _ _ _ _ _ [.int (zg s 43 (s.1 82 3))] _ _
      refine zn_c [.int 46, .int (zg s 43 (s.1 82 3))] (xo_push (.int 46)) rfl rfl ?_
      refine zn_brN rfl rfl ⟨fun hcn => ?_, fun hcn => ?_⟩
      · replace h := h.1 (fun q => hcn ((i_eq (x := zg s 43 (s.1 82 3)) (y := 46) rfl (show (46 : Int32).toInt = 46 by decide)).mpr q))
        exact m_69_79_39 hd  h
      · replace h := h.2 ((i_eq (x := zg s 43 (s.1 82 3)) (y := 46) rfl (show (46 : Int32).toInt = 46 by decide)).mp hcn)
        refine zn_ld rfl rfl rfl ?_
        refine zn_c [.int 20, .int a4] (xo_push (.int 20)) rfl rfl ?_
        refine zn_brN rfl rfl ⟨fun hcn => ?_, fun hcn => ?_⟩
        · replace h := h.1 (fun q => hcn ((i_eq (x := a4) (y := 20) rfl (show (20 : Int32).toInt = 20 by decide)).mpr q))
          refine zn_ld rfl rfl rfl ?_
          refine zn_ld rfl rfl rfl ?_
          refine zn_zt [.ref 82, .int a1] [] rfl rfl rfl rfl rfl (Zt.imp h (fun v1 s2 h => ?_))
          obtain ⟨rfl, h⟩ := h
          change Zn _ _ _ _ _ _ _ _ _ _ _ [] _ _
          exact m_69_77_39 hd r50 h
        · replace h := h.2 ((i_eq (x := a4) (y := 20) rfl (show (20 : Int32).toInt = 20 by decide)).mp hcn)
          refine zn_ld rfl rfl rfl ?_
          refine zn_get (v := .ref 39) rfl (zv_C (a := 82) (n := 0) rfl rfl rfl) ?_
          refine zn_c [.int 5, .ref 39] (xo_push (.int 5)) rfl rfl ?_
          refine zn_ld rfl rfl rfl ?_
          refine zn_get (v := .int (s.1 82 3)) rfl (zv_I (a := 82) rfl rfl) ?_
          refine zn_zt [.ref 39, .int 5, .int (s.1 82 3)] [] rfl rfl rfl rfl rfl (Zt.imp h (fun v3 s4 h => ?_))
          obtain ⟨rfl, h⟩ := h
          change Zn _ _ _ _ _ _ _ _ _ _ _ [] _ _
          refine zn_go rfl ?_
          exact m_69_77_39 hd r50 h
theorem ml_69_50_39 {d d0 : Nat} (hd : d = d0 + 8)  {a1 : Int32} {a2 : Int32} {a3 : Int32} {a4 : Int32} {s : zS} {Q : Option Value → zS → Prop}  (h : vl_69_50 (fun j => Zt d (wd 39 j) j) 39  a1 a2 a3 a4 s Q) : Zn d [] [(39, 99), (39, 98)] ([(82, 0, 39), (82, 1, 40), (82, 2, 43)] : zW) ([(82, 0, 39), (82, 1, 40), (82, 2, 43)] : zW) xL_5 5 (none) xE_69 (xE_69.drop 50) [.ref 82, .int a1, .int a2, .int a3, .int a4, .null, .null, .null] [] s Q := by
  obtain ⟨I, μ, h0, h1⟩ := h
  have key : ∀ (n : Nat) (a1 : Int32) (a2 : Int32) (a3 : Int32) (a4 : Int32) (s : zS), μ a1 a2 a3 a4 s = n → I a1 a2 a3 a4 s → Zn d [] [(39, 99), (39, 98)] ([(82, 0, 39), (82, 1, 40), (82, 2, 43)] : zW) ([(82, 0, 39), (82, 1, 40), (82, 2, 43)] : zW) xL_5 5 (none) xE_69 (xE_69.drop 50) [.ref 82, .int a1, .int a2, .int a3, .int a4, .null, .null, .null] [] s Q := by
    intro n
    induction n using Nat.strongRecOn with
    | ind n ih =>
      intro a1 a2 a3 a4 s e hI
      exact m_69_50_39 hd (fun a1' a2' a3' a4' s' q => ih _ (by rw [← e]; exact q.2) a1' a2' a3' a4' s' rfl q.1) (h1 a1 a2 a3 a4 s hI)
  exact key _ a1 a2 a3 a4 s rfl h0
set_option maxRecDepth 20000 in
theorem m_69_48_39 {d d0 : Nat} (hd : d = d0 + 8)  {a1 : Int32} {a2 : Int32} {a3 : Int32} {s : zS} {Q : Option Value → zS → Prop}  (h : v_69_48 (fun j => Zt d (wd 39 j) j) 39  a1 a2 a3 s Q) : Zn d [] [(39, 99), (39, 98)] ([(82, 0, 39), (82, 1, 40), (82, 2, 43)] : zW) ([(82, 0, 39), (82, 1, 40), (82, 2, 43)] : zW) xL_5 5 (none) xE_69 (xE_69.drop 48) [.ref 82, .int a1, .int a2, .int a3, .null, .null, .null, .null] [] s Q := by
  unfold v_69_48 at h
  refine zn_c [.int 0] (xo_push (.int 0)) rfl rfl ?_
  refine zn_st [.ref 82, .int a1, .int a2, .int a3, .int 0, .null, .null, .null] rfl rfl rfl ?_
  exact ml_69_50_39 hd  h
set_option maxRecDepth 20000 in
theorem m_69_32_39 {d d0 : Nat} (hd : d = d0 + 8)  {a1 : Int32} {a2 : Int32} {a3 : Int32} {s : zS} {Q : Option Value → zS → Prop}  (h : v_69_32 (fun j => Zt d (wd 39 j) j) 39  a1 a2 a3 s Q) : Zn d [] [(39, 99), (39, 98)] ([(82, 0, 39), (82, 1, 40), (82, 2, 43)] : zW) ([(82, 0, 39), (82, 1, 40), (82, 2, 43)] : zW) xL_5 5 (none) xE_69 (xE_69.drop 32) [.ref 82, .int a1, .int a2, .int a3, .null, .null, .null, .null] [] s Q := by
  unfold v_69_32 at h
  refine zn_ld rfl rfl rfl ?_
  refine zn_ld rfl rfl rfl ?_
  refine zn_putI (a := 82) rfl rfl rfl rfl h.1 rfl rfl rfl ?_
  replace h := h.2
  replace h := h _ rfl
  refine zn_ld rfl rfl rfl ?_
  refine zn_ld rfl rfl rfl ?_
  refine zn_c [.int 1, .int a1, .ref 82] (xo_push (.int 1)) rfl rfl ?_
  replace h := h _ (i_add (x := a1) (y := 1) rfl (show (1 : Int32).toInt = 1 by decide))
  refine zn_c [.int (a1 + 1), .ref 82] xo_iadd rfl rfl ?_
  refine zn_c [.int 0, .int (a1 + 1), .ref 82] (xo_push (.int 0)) rfl rfl ?_
  refine zn_zt [.ref 82, .int (a1 + 1), .int 0] [] rfl rfl rfl rfl rfl (Zt.imp h (fun v3 s4 h => ?_))
  obtain ⟨rfl, h⟩ := h
  change Zn _ _ _ _ _ _ _ _ _ _ _ [] _ _
  refine zn_ld rfl rfl rfl ?_
  refine zn_c [.int 123, .ref 82] (xo_push (.int 123)) rfl rfl ?_
  refine zn_c [.int 125, .int 123, .ref 82] (xo_push (.int 125)) rfl rfl ?_
  refine zn_ld rfl rfl rfl ?_
  refine zn_get (v := .int (s4.1 82 3)) rfl (zv_I (a := 82) rfl rfl) ?_
  refine zn_ld rfl rfl rfl ?_
  refine zn_zt [.ref 82, .int 123, .int 125, .int (s4.1 82 3), .int a1] [] rfl rfl rfl rfl rfl (Zt.imp h (fun v5 s6 h => ?_))
  obtain ⟨rfl, h⟩ := h
  change Zn _ _ _ _ _ _ _ _ _ _ _ [] _ _
  exact m_69_48_39 hd  h
set_option maxRecDepth 20000 in
theorem m_69_13_39 {d d0 : Nat} (hd : d = d0 + 8)  {a1 : Int32} {a2 : Int32} {a3 : Int32} {t1 : Int32} {s : zS} {Q : Option Value → zS → Prop}  (h : v_69_13 (fun j => Zt d (wd 39 j) j) 39  a1 a2 a3 t1 s Q) : Zn d [] [(39, 99), (39, 98)] ([(82, 0, 39), (82, 1, 40), (82, 2, 43)] : zW) ([(82, 0, 39), (82, 1, 40), (82, 2, 43)] : zW) xL_5 5 (none) xE_69 (xE_69.drop 13) [.ref 82, .int a1, .int a2, .int a3, .null, .null, .null, .null] [.int t1, .ref 82] s Q := by
  unfold v_69_13 at h
  refine zn_zt [.ref 82, .int t1] [] rfl rfl rfl rfl rfl (Zt.imp h (fun v1 s2 h => ?_))
  obtain ⟨rfl, h⟩ := h
  change Zn _ _ _ _ _ _ _ _ _ _ _ [] _ _
  refine zn_ld rfl rfl rfl ?_
  refine zn_get (v := .ref 39) rfl (zv_C (a := 82) (n := 0) rfl rfl rfl) ?_
  refine zn_get (v := .int (s2.1 39 14)) rfl (zv_I (a := 39) rfl rfl) ?_
  refine zn_brN rfl rfl ⟨fun hcn => ?_, fun hcn => ?_⟩
  · replace h := h.1 (fun q => hcn ((i_eq (x := s2.1 39 14) (y := 0) rfl (show (0 : Int32).toInt = 0 by decide)).mpr q))
    exact m_69_48_39 hd  h
  · replace h := h.2 ((i_eq (x := s2.1 39 14) (y := 0) rfl (show (0 : Int32).toInt = 0 by decide)).mp hcn)
    refine zn_ld rfl rfl rfl ?_
    refine zn_get (v := .ref 43) rfl (zv_C (a := 82) (n := 2) rfl rfl rfl) ?_
    refine zn_ld rfl rfl rfl ?_
    refine zn_get (v := .int (s2.1 82 3)) rfl (zv_I (a := 82) rfl rfl) ?_
    refine zn_row (s2.1 82 3) [] (a := 43) hd rfl rfl rfl rfl ?_
    change Zn _ _ _ _ _ _ _ _ _ _ _ [.int (zg s2 43 (s2.1 82 3))] _ _
    refine zn_c [.int 123, .int (zg s2 43 (s2.1 82 3))] (xo_push (.int 123)) rfl rfl ?_
    refine zn_brP rfl rfl ⟨fun hcn => ?_, fun hcn => ?_⟩
    · replace h := h.1 ((i_eq (x := zg s2 43 (s2.1 82 3)) (y := 123) rfl (show (123 : Int32).toInt = 123 by decide)).mp hcn)
      exact m_69_32_39 hd  h
    · replace h := h.2 (fun q => hcn ((i_eq (x := zg s2 43 (s2.1 82 3)) (y := 123) rfl (show (123 : Int32).toInt = 123 by decide)).mpr q))
      refine zn_ld rfl rfl rfl ?_
      refine zn_get (v := .ref 43) rfl (zv_C (a := 82) (n := 2) rfl rfl rfl) ?_
      refine zn_ld rfl rfl rfl ?_
      refine zn_get (v := .int (s2.1 82 3)) rfl (zv_I (a := 82) rfl rfl) ?_
      refine zn_row (s2.1 82 3) [] (a := 43) hd rfl rfl rfl rfl ?_
      change Zn _ _ _ _ _ _ _ _ _ _ _ [.int (zg s2 43 (s2.1 82 3))] _ _
      refine zn_c [.int 91, .int (zg s2 43 (s2.1 82 3))] (xo_push (.int 91)) rfl rfl ?_
      refine zn_brN rfl rfl ⟨fun hcn => ?_, fun hcn => ?_⟩
      · replace h := h.1 (fun q => hcn ((i_eq (x := zg s2 43 (s2.1 82 3)) (y := 91) rfl (show (91 : Int32).toInt = 91 by decide)).mpr q))
        exact m_69_48_39 hd  h
      · replace h := h.2 ((i_eq (x := zg s2 43 (s2.1 82 3)) (y := 91) rfl (show (91 : Int32).toInt = 91 by decide)).mp hcn)
        exact m_69_32_39 hd  h
set_option maxRecDepth 20000 in
theorem m_69_10_39 {d d0 : Nat} (hd : d = d0 + 8)  {a1 : Int32} {a2 : Int32} {a3 : Int32} {s : zS} {Q : Option Value → zS → Prop}  (h : v_69_10 (fun j => Zt d (wd 39 j) j) 39  a1 a2 a3 s Q) : Zn d [] [(39, 99), (39, 98)] ([(82, 0, 39), (82, 1, 40), (82, 2, 43)] : zW) ([(82, 0, 39), (82, 1, 40), (82, 2, 43)] : zW) xL_5 5 (none) xE_69 (xE_69.drop 10) [.ref 82, .int a1, .int a2, .int a3, .null, .null, .null, .null] [.ref 82] s Q := by
  unfold v_69_10 at h
  refine zn_c [.int 1, .ref 82] (xo_push (.int 1)) rfl rfl ?_
  refine zn_go rfl ?_
  exact m_69_13_39 hd  h
set_option maxRecDepth 20000 in
theorem m_69_0_39 {d d0 : Nat} (hd : d = d0 + 8)  {a1 : Int32} {a2 : Int32} {s : zS} {Q : Option Value → zS → Prop}  (h : v_69_0 (fun j => Zt d (wd 39 j) j) 39  a1 a2 s Q) : Zn d [] [(39, 99), (39, 98)] ([(82, 0, 39), (82, 1, 40), (82, 2, 43)] : zW) ([(82, 0, 39), (82, 1, 40), (82, 2, 43)] : zW) xL_5 5 (none) xE_69 (xE_69.drop 0) [.ref 82, .int a1, .int a2, .null, .null, .null, .null, .null] [] s Q := by
  unfold v_69_0 at h
  refine zn_ld rfl rfl rfl ?_
  refine zn_get (v := .int (s.1 82 3)) rfl (zv_I (a := 82) rfl rfl) ?_
  refine zn_st [.ref 82, .int a1, .int a2, .int (s.1 82 3), .null, .null, .null, .null] rfl rfl rfl ?_
  refine zn_ld rfl rfl rfl ?_
  refine zn_ld rfl rfl rfl ?_
  refine zn_c [.int 10, .int a1, .ref 82] (xo_push (.int 10)) rfl rfl ?_
  refine zn_brP rfl rfl ⟨fun hcn => ?_, fun hcn => ?_⟩
  · replace h := h.1 ((i_lt (x := 10) (y := a1) (show (10 : Int32).toInt = 10 by decide) rfl).mp hcn)
    exact m_69_10_39 hd  h
  · replace h := h.2 (fun q => hcn ((i_lt (x := 10) (y := a1) (show (10 : Int32).toInt = 10 by decide) rfl).mpr q))
    refine zn_ld rfl rfl rfl ?_
    refine zn_c [.int 6, .int a2, .ref 82] (xo_push (.int 6)) rfl rfl ?_
    refine zn_brP rfl rfl ⟨fun hcn => ?_, fun hcn => ?_⟩
    · replace h := h.1 ((i_lt (x := a2) (y := 6) rfl (show (6 : Int32).toInt = 6 by decide)).mp hcn)
      refine zn_c [.int 0, .ref 82] (xo_push (.int 0)) rfl rfl ?_
      exact m_69_13_39 hd  h
    · replace h := h.2 (fun q => hcn ((i_lt (x := a2) (y := 6) rfl (show (6 : Int32).toInt = 6 by decide)).mpr q))
      exact m_69_10_39 hd  h
theorem zq_69_39 {d : Nat} {a1 : Int32} {a2 : Int32} {s : zS} {Q : Option Value → zS → Prop} (h : v_69_0 (fun j => Zt (d + 8) (wd 39 j) j) 39 a1 a2 s Q) : Zt (d + 9) ([(82, 0, 39), (82, 1, 40), (82, 2, 43)] : zW) 69 [.ref 82, .int a1, .int a2] s Q := zt_of (E := xE_69) (L := xL_5) (ml := 5) (ret := none) rfl rfl rfl (m_69_0_39 rfl h)
theorem zc_69 {d P : Nat} (hP : P = 3 ∨ P = 39) {a1 : Int32} {a2 : Int32} {s : zS} {Q : Option Value → zS → Prop} (h : v_69_0 (fun j => Zt (d + 8) (wd P j) j) P a1 a2 s Q) : Zt (d + 9) (wd P 69) 69 [.ref 82, .int a1, .int a2] s Q := by
  rcases hP with rfl | rfl
  · exact zq_69_3 h
  · exact zq_69_39 h
/-! FeatherBench$Reader.passPoint -/
def v_70_58 (T : Nat → List Value → zS → (Option Value → zS → Prop) → Prop) (P : Nat)  (a1 : Int32) (a2 : Int32) (a3 : Int32) (s : zS) (Q : Option Value → zS → Prop) : Prop :=
  Q none s
def v_70_52 (T : Nat → List Value → zS → (Option Value → zS → Prop) → Prop) (P : Nat)  (a1 : Int32) (a2 : Int32) (a3 : Int32) (s : zS) (Q : Option Value → zS → Prop) : Prop :=
  T 71 [.ref 82, .int 40, .int 41, .int a2, .int a1] s (fun v1 s2 => v1 = none ∧ (v_70_58 T P  a1 a2 a3 s2 Q))
def v_70_43 (T : Nat → List Value → zS → (Option Value → zS → Prop) → Prop) (P : Nat)  (a1 : Int32) (a2 : Int32) (a3 : Int32) (s : zS) (Q : Option Value → zS → Prop) : Prop :=
  (¬ (a3.toInt = 0) → v_70_52 T P  a1 a2 a3 s Q) ∧ (a3.toInt = 0 → (¬ ((zg s (P + 4) (s.1 82 3)).toInt = 40) → v_70_58 T P  a1 a2 a3 s Q) ∧ ((zg s (P + 4) (s.1 82 3)).toInt = 40 → v_70_52 T P  a1 a2 a3 s Q))
def v_70_37 (T : Nat → List Value → zS → (Option Value → zS → Prop) → Prop) (P : Nat)  (a1 : Int32) (a2 : Int32) (t0 : Int32) (s : zS) (Q : Option Value → zS → Prop) : Prop :=
  (t0.toInt = 0 → v_70_43 T P  a1 a2 t0 s Q) ∧ (¬ (t0.toInt = 0) → T 68 [.ref 82, .int a1] s (fun v1 s2 => v1 = none ∧ (v_70_43 T P  a1 a2 t0 s2 Q)))
def v_70_36 (T : Nat → List Value → zS → (Option Value → zS → Prop) → Prop) (P : Nat)  (a1 : Int32) (a2 : Int32) (s : zS) (Q : Option Value → zS → Prop) : Prop :=
  v_70_37 T P  a1 a2 0 s Q
def v_70_0 (T : Nat → List Value → zS → (Option Value → zS → Prop) → Prop) (P : Nat)  (a1 : Int32) (s : zS) (Q : Option Value → zS → Prop) : Prop :=
  T 73 [.ref 82, .int 46] s (fun v1 s2 => v1 = none ∧ (T 72 [.ref 82, .int 40] s2 (fun v3 s4 => ∃ x5, v3 = some (.int x5) ∧ ((x5.toInt = 0 → T 73 [.ref 82, .int 1] s4 (fun v6 s7 => v6 = none ∧ ((¬ ((s7.1 P 14).toInt = 0) → v_70_36 T P  a1 (s4.1 82 3) s7 Q) ∧ ((s7.1 P 14).toInt = 0 → (¬ ((zg s7 (P + 4) (s7.1 82 3)).toInt = 91) → v_70_36 T P  a1 (s4.1 82 3) s7 Q) ∧ ((zg s7 (P + 4) (s7.1 82 3)).toInt = 91 → v_70_37 T P  a1 (s4.1 82 3) 1 s7 Q))))) ∧ (¬ (x5.toInt = 0) → ∀ x8 : Int32, (-2147483648 ≤ a1.toInt + 1 ∧ a1.toInt + 1 ≤ 2147483647 → x8.toInt = a1.toInt + 1) → T 67 [.ref 82, .int x8, .int 0] s4 (fun v9 s10 => v9 = none ∧ (T 73 [.ref 82, .int 41] s10 (fun v11 s12 => v11 = none ∧ (Q none s12)))))))))
set_option maxRecDepth 20000 in
theorem m_70_58_3 {d d0 : Nat} (hd : d = d0 + 8)  {a1 : Int32} {a2 : Int32} {a3 : Int32} {s : zS} {Q : Option Value → zS → Prop}  (h : v_70_58 (fun j => Zt d (wd 3 j) j) 3  a1 a2 a3 s Q) : Zn d [] [(3, 99), (3, 98)] ([(82, 0, 3), (82, 1, 4), (82, 2, 7)] : zW) ([(82, 0, 3), (82, 1, 4), (82, 2, 7)] : zW) xL_5 4 (none) xE_70 (xE_70.drop 58) [.ref 82, .int a1, .int a2, .int a3, .null, .null] [] s Q := by
  unfold v_70_58 at h
  exact zn_ret0 rfl h
set_option maxRecDepth 20000 in
theorem m_70_52_3 {d d0 : Nat} (hd : d = d0 + 8)  {a1 : Int32} {a2 : Int32} {a3 : Int32} {s : zS} {Q : Option Value → zS → Prop}  (h : v_70_52 (fun j => Zt d (wd 3 j) j) 3  a1 a2 a3 s Q) : Zn d [] [(3, 99), (3, 98)] ([(82, 0, 3), (82, 1, 4), (82, 2, 7)] : zW) ([(82, 0, 3), (82, 1, 4), (82, 2, 7)] : zW) xL_5 4 (none) xE_70 (xE_70.drop 52) [.ref 82, .int a1, .int a2, .int a3, .null, .null] [] s Q := by
  unfold v_70_52 at h
  refine zn_ld rfl rfl rfl ?_
  refine zn_c [.int 40, .ref 82] (xo_push (.int 40)) rfl rfl ?_
  refine zn_c [.int 41, .int 40, .ref 82] (xo_push (.int 41)) rfl rfl ?_
  refine zn_ld rfl rfl rfl ?_
  refine zn_ld rfl rfl rfl ?_
  refine zn_zt [.ref 82, .int 40, .int 41, .int a2, .int a1] [] rfl rfl rfl rfl rfl (Zt.imp h (fun v1 s2 h => ?_))
  obtain ⟨rfl, h⟩ := h
  change Zn _ _ _ _ _ _ _ _ _ _ _ [] _ _
  exact m_70_58_3 hd  h
set_option maxRecDepth 20000 in
theorem m_70_43_3 {d d0 : Nat} (hd : d = d0 + 8)  {a1 : Int32} {a2 : Int32} {a3 : Int32} {s : zS} {Q : Option Value → zS → Prop}  (h : v_70_43 (fun j => Zt d (wd 3 j) j) 3  a1 a2 a3 s Q) : Zn d [] [(3, 99), (3, 98)] ([(82, 0, 3), (82, 1, 4), (82, 2, 7)] : zW) ([(82, 0, 3), (82, 1, 4), (82, 2, 7)] : zW) xL_5 4 (none) xE_70 (xE_70.drop 43) [.ref 82, .int a1, .int a2, .int a3, .null, .null] [] s Q := by
  unfold v_70_43 at h
  refine zn_ld rfl rfl rfl ?_
  refine zn_brN rfl rfl ⟨fun hcn => ?_, fun hcn => ?_⟩
  · replace h := h.1 (fun q => hcn ((i_eq (x := a3) (y := 0) rfl (show (0 : Int32).toInt = 0 by decide)).mpr q))
    exact m_70_52_3 hd  h
  · replace h := h.2 ((i_eq (x := a3) (y := 0) rfl (show (0 : Int32).toInt = 0 by decide)).mp hcn)
    refine zn_ld rfl rfl rfl ?_
    refine zn_get (v := .ref 7) rfl (zv_C (a := 82) (n := 2) rfl rfl rfl) ?_
    refine zn_ld rfl rfl rfl ?_
    refine zn_get (v := .int (s.1 82 3)) rfl (zv_I (a := 82) rfl rfl) ?_
    refine zn_row (s.1 82 3) [] (a := 7) hd rfl rfl rfl rfl ?_
    change Zn _ _ _ _ _ _ _ _ _ _ _ [.int (zg s 7 (s.1 82 3))] _ _
    refine zn_c [.int 40, .int (zg s 7 (s.1 82 3))] (xo_push (.int 40)) rfl rfl ?_
    refine zn_brN rfl rfl ⟨fun hcn => ?_, fun hcn => ?_⟩
    · replace h := h.1 (fun q => hcn ((i_eq (x := zg s 7 (s.1 82 3)) (y := 40) rfl (show (40 : Int32).toInt = 40 by decide)).mpr q))
      exact m_70_58_3 hd  h
    · replace h := h.2 ((i_eq (x := zg s 7 (s.1 82 3)) (y := 40) rfl (show (40 : Int32).toInt = 40 by decide)).mp hcn)
      exact m_70_52_3 hd  h
set_option maxRecDepth 20000 in
theorem m_70_37_3 {d d0 : Nat} (hd : d = d0 + 8)  {a1 : Int32} {a2 : Int32} {t0 : Int32} {s : zS} {Q : Option Value → zS → Prop}  (h : v_70_37 (fun j => Zt d (wd 3 j) j) 3  a1 a2 t0 s Q) : Zn d [] [(3, 99), (3, 98)] ([(82, 0, 3), (82, 1, 4), (82, 2, 7)] : zW) ([(82, 0, 3), (82, 1, 4), (82, 2, 7)] : zW) xL_5 4 (none) xE_70 (xE_70.drop 37) [.ref 82, .int a1, .int a2, .null, .null, .null] [.int t0] s Q := by
  unfold v_70_37 at h
  refine zn_st [.ref 82, .int a1, .int a2, .int t0, .null, .null] rfl rfl rfl ?_
  refine zn_ld rfl rfl rfl ?_
  refine zn_brP rfl rfl ⟨fun hcn => ?_, fun hcn => ?_⟩
  · replace h := h.1 ((i_eq (x := t0) (y := 0) rfl (show (0 : Int32).toInt = 0 by decide)).mp hcn)
    exact m_70_43_3 hd  h
  · replace h := h.2 (fun q => hcn ((i_eq (x := t0) (y := 0) rfl (show (0 : Int32).toInt = 0 by decide)).mpr q))
    refine zn_ld rfl rfl rfl ?_
    refine zn_ld rfl rfl rfl ?_
    refine zn_zt [.ref 82, .int a1] [] rfl rfl rfl rfl rfl (Zt.imp h (fun v1 s2 h => ?_))
    obtain ⟨rfl, h⟩ := h
    change Zn _ _ _ _ _ _ _ _ _ _ _ [] _ _
    exact m_70_43_3 hd  h
set_option maxRecDepth 20000 in
theorem m_70_36_3 {d d0 : Nat} (hd : d = d0 + 8)  {a1 : Int32} {a2 : Int32} {s : zS} {Q : Option Value → zS → Prop}  (h : v_70_36 (fun j => Zt d (wd 3 j) j) 3  a1 a2 s Q) : Zn d [] [(3, 99), (3, 98)] ([(82, 0, 3), (82, 1, 4), (82, 2, 7)] : zW) ([(82, 0, 3), (82, 1, 4), (82, 2, 7)] : zW) xL_5 4 (none) xE_70 (xE_70.drop 36) [.ref 82, .int a1, .int a2, .null, .null, .null] [] s Q := by
  unfold v_70_36 at h
  refine zn_c [.int 0] (xo_push (.int 0)) rfl rfl ?_
  exact m_70_37_3 hd  h
set_option maxRecDepth 20000 in
theorem m_70_0_3 {d d0 : Nat} (hd : d = d0 + 8)  {a1 : Int32} {s : zS} {Q : Option Value → zS → Prop}  (h : v_70_0 (fun j => Zt d (wd 3 j) j) 3  a1 s Q) : Zn d [] [(3, 99), (3, 98)] ([(82, 0, 3), (82, 1, 4), (82, 2, 7)] : zW) ([(82, 0, 3), (82, 1, 4), (82, 2, 7)] : zW) xL_5 4 (none) xE_70 (xE_70.drop 0) [.ref 82, .int a1, .null, .null, .null, .null] [] s Q := by
  unfold v_70_0 at h
  refine zn_ld rfl rfl rfl ?_
  refine zn_c [.int 46, .ref 82] (xo_push (.int 46)) rfl rfl ?_
  refine zn_zt [.ref 82, .int 46] [] rfl rfl rfl rfl rfl (Zt.imp h (fun v1 s2 h => ?_))
  obtain ⟨rfl, h⟩ := h
  change Zn _ _ _ _ _ _ _ _ _ _ _ [] _ _
  refine zn_ld rfl rfl rfl ?_
  refine zn_c [.int 40, .ref 82] (xo_push (.int 40)) rfl rfl ?_
  refine zn_zt [.ref 82, .int 40] [] rfl rfl rfl rfl rfl (Zt.imp h (fun v3 s4 h => ?_))
  obtain ⟨x5, rfl, h⟩ := h
  change Zn _ _ _ _ _ _ _ _ _ _ _ [.int x5] _ _
  refine zn_brP rfl rfl ⟨fun hcn => ?_, fun hcn => ?_⟩
  · replace h := h.1 ((i_eq (x := x5) (y := 0) rfl (show (0 : Int32).toInt = 0 by decide)).mp hcn)
    refine zn_ld rfl rfl rfl ?_
    refine zn_get (v := .int (s4.1 82 3)) rfl (zv_I (a := 82) rfl rfl) ?_
    refine zn_st [.ref 82, .int a1, .int (s4.1 82 3), .null, .null, .null] rfl rfl rfl ?_
    refine zn_ld rfl rfl rfl ?_
    refine zn_c [.int 1, .ref 82] (xo_push (.int 1)) rfl rfl ?_
    refine zn_zt [.ref 82, .int 1] [] rfl rfl rfl rfl rfl (Zt.imp h (fun v6 s7 h => ?_))
    obtain ⟨rfl, h⟩ := h
    change Zn _ _ _ _ _ _ _ _ _ _ _ [] _ _
    refine zn_ld rfl rfl rfl ?_
    refine zn_get (v := .ref 3) rfl (zv_C (a := 82) (n := 0) rfl rfl rfl) ?_
    refine zn_get (v := .int (s7.1 3 14)) rfl (zv_I (a := 3) rfl rfl) ?_
    refine zn_brN rfl rfl ⟨fun hcn => ?_, fun hcn => ?_⟩
    · replace h := h.1 (fun q => hcn ((i_eq (x := s7.1 3 14) (y := 0) rfl (show (0 : Int32).toInt = 0 by decide)).mpr q))
      exact m_70_36_3 hd  h
    · replace h := h.2 ((i_eq (x := s7.1 3 14) (y := 0) rfl (show (0 : Int32).toInt = 0 by decide)).mp hcn)
      refine zn_ld rfl rfl rfl ?_
      refine zn_get (v := .ref 7) rfl (zv_C (a := 82) (n := 2) rfl rfl rfl) ?_
      refine zn_ld rfl rfl rfl ?_
      refine zn_get (v := .int (s7.1 82 3)) rfl (zv_I (a := 82) rfl rfl) ?_
      refine zn_row (s7.1 82 3) [] (a := 7) hd rfl rfl rfl rfl ?_
      change Zn _ _ _ _ _ _ _ _ _ _ _ [.int (zg s7 7 (s7.1 82 3))] _ _
      refine zn_c [.int 91, .int (zg s7 7 (s7.1 82 3))] (xo_push (.int 91)) rfl rfl ?_
      refine zn_brN rfl rfl ⟨fun hcn => ?_, fun hcn => ?_⟩
      · replace h := h.1 (fun q => hcn ((i_eq (x := zg s7 7 (s7.1 82 3)) (y := 91) rfl (show (91 : Int32).toInt = 91 by decide)).mpr q))
        exact m_70_36_3 hd  h
      · replace h := h.2 ((i_eq (x := zg s7 7 (s7.1 82 3)) (y := 91) rfl (show (91 : Int32).toInt = 91 by decide)).mp hcn)
        refine zn_c [.int 1] (xo_push (.int 1)) rfl rfl ?_
        refine zn_go rfl ?_
        exact m_70_37_3 hd  h
  · replace h := h.2 (fun q => hcn ((i_eq (x := x5) (y := 0) rfl (show (0 : Int32).toInt = 0 by decide)).mpr q))
    refine zn_ld rfl rfl rfl ?_
    refine zn_ld rfl rfl rfl ?_
    refine zn_c [.int 1, .int a1, .ref 82] (xo_push (.int 1)) rfl rfl ?_
    replace h := h _ (i_add (x := a1) (y := 1) rfl (show (1 : Int32).toInt = 1 by decide))
    refine zn_c [.int (a1 + 1), .ref 82] xo_iadd rfl rfl ?_
    refine zn_c [.int 0, .int (a1 + 1), .ref 82] (xo_push (.int 0)) rfl rfl ?_
    refine zn_zt [.ref 82, .int (a1 + 1), .int 0] [] rfl rfl rfl rfl rfl (Zt.imp h (fun v9 s10 h => ?_))
    obtain ⟨rfl, h⟩ := h
    change Zn _ _ _ _ _ _ _ _ _ _ _ [] _ _
    refine zn_ld rfl rfl rfl ?_
    refine zn_c [.int 41, .ref 82] (xo_push (.int 41)) rfl rfl ?_
    refine zn_zt [.ref 82, .int 41] [] rfl rfl rfl rfl rfl (Zt.imp h (fun v11 s12 h => ?_))
    obtain ⟨rfl, h⟩ := h
    change Zn _ _ _ _ _ _ _ _ _ _ _ [] _ _
    exact zn_ret0 rfl h
theorem zq_70_3 {d : Nat} {a1 : Int32} {s : zS} {Q : Option Value → zS → Prop} (h : v_70_0 (fun j => Zt (d + 8) (wd 3 j) j) 3 a1 s Q) : Zt (d + 9) ([(82, 0, 3), (82, 1, 4), (82, 2, 7)] : zW) 70 [.ref 82, .int a1] s Q := zt_of (E := xE_70) (L := xL_5) (ml := 4) (ret := none) rfl rfl rfl (m_70_0_3 rfl h)
set_option maxRecDepth 20000 in
theorem m_70_58_39 {d d0 : Nat} (hd : d = d0 + 8)  {a1 : Int32} {a2 : Int32} {a3 : Int32} {s : zS} {Q : Option Value → zS → Prop}  (h : v_70_58 (fun j => Zt d (wd 39 j) j) 39  a1 a2 a3 s Q) : Zn d [] [(39, 99), (39, 98)] ([(82, 0, 39), (82, 1, 40), (82, 2, 43)] : zW) ([(82, 0, 39), (82, 1, 40), (82, 2, 43)] : zW) xL_5 4 (none) xE_70 (xE_70.drop 58) [.ref 82, .int a1, .int a2, .int a3, .null, .null] [] s Q := by
  unfold v_70_58 at h
  exact zn_ret0 rfl h
set_option maxRecDepth 20000 in
theorem m_70_52_39 {d d0 : Nat} (hd : d = d0 + 8)  {a1 : Int32} {a2 : Int32} {a3 : Int32} {s : zS} {Q : Option Value → zS → Prop}  (h : v_70_52 (fun j => Zt d (wd 39 j) j) 39  a1 a2 a3 s Q) : Zn d [] [(39, 99), (39, 98)] ([(82, 0, 39), (82, 1, 40), (82, 2, 43)] : zW) ([(82, 0, 39), (82, 1, 40), (82, 2, 43)] : zW) xL_5 4 (none) xE_70 (xE_70.drop 52) [.ref 82, .int a1, .int a2, .int a3, .null, .null] [] s Q := by
  unfold v_70_52 at h
  refine zn_ld rfl rfl rfl ?_
  refine zn_c [.int 40, .ref 82] (xo_push (.int 40)) rfl rfl ?_
  refine zn_c [.int 41, .int 40, .ref 82] (xo_push (.int 41)) rfl rfl ?_
  refine zn_ld rfl rfl rfl ?_
  refine zn_ld rfl rfl rfl ?_
  refine zn_zt [.ref 82, .int 40, .int 41, .int a2, .int a1] [] rfl rfl rfl rfl rfl (Zt.imp h (fun v1 s2 h => ?_))
  obtain ⟨rfl, h⟩ := h
  change Zn _ _ _ _ _ _ _ _ _ _ _ [] _ _
  exact m_70_58_39 hd  h
set_option maxRecDepth 20000 in
theorem m_70_43_39 {d d0 : Nat} (hd : d = d0 + 8)  {a1 : Int32} {a2 : Int32} {a3 : Int32} {s : zS} {Q : Option Value → zS → Prop}  (h : v_70_43 (fun j => Zt d (wd 39 j) j) 39  a1 a2 a3 s Q) : Zn d [] [(39, 99), (39, 98)] ([(82, 0, 39), (82, 1, 40), (82, 2, 43)] : zW) ([(82, 0, 39), (82, 1, 40), (82, 2, 43)] : zW) xL_5 4 (none) xE_70 (xE_70.drop 43) [.ref 82, .int a1, .int a2, .int a3, .null, .null] [] s Q := by
  unfold v_70_43 at h
  refine zn_ld rfl rfl rfl ?_
  refine zn_brN rfl rfl ⟨fun hcn => ?_, fun hcn => ?_⟩
  · replace h := h.1 (fun q => hcn ((i_eq (x := a3) (y := 0) rfl (show (0 : Int32).toInt = 0 by decide)).mpr q))
    exact m_70_52_39 hd  h
  · replace h := h.2 ((i_eq (x := a3) (y := 0) rfl (show (0 : Int32).toInt = 0 by decide)).mp hcn)
    refine zn_ld rfl rfl rfl ?_
    refine zn_get (v := .ref 43) rfl (zv_C (a := 82) (n := 2) rfl rfl rfl) ?_
    refine zn_ld rfl rfl rfl ?_
    refine zn_get (v := .int (s.1 82 3)) rfl (zv_I (a := 82) rfl rfl) ?_
    refine zn_row (s.1 82 3) [] (a := 43) hd rfl rfl rfl rfl ?_
    change Zn _ _ _ _ _ _ _ _ _ _ _ [.int (zg s 43 (s.1 82 3))] _ _
    refine zn_c [.int 40, .int (zg s 43 (s.1 82 3))] (xo_push (.int 40)) rfl rfl ?_
    refine zn_brN rfl rfl ⟨fun hcn => ?_, fun hcn => ?_⟩
    · replace h := h.1 (fun q => hcn ((i_eq (x := zg s 43 (s.1 82 3)) (y := 40) rfl (show (40 : Int32).toInt = 40 by decide)).mpr q))
      exact m_70_58_39 hd  h
    · replace h := h.2 ((i_eq (x := zg s 43 (s.1 82 3)) (y := 40) rfl (show (40 : Int32).toInt = 40 by decide)).mp hcn)
      exact m_70_52_39 hd  h
set_option maxRecDepth 20000 in
theorem m_70_37_39 {d d0 : Nat} (hd : d = d0 + 8)  {a1 : Int32} {a2 : Int32} {t0 : Int32} {s : zS} {Q : Option Value → zS → Prop}  (h : v_70_37 (fun j => Zt d (wd 39 j) j) 39  a1 a2 t0 s Q) : Zn d [] [(39, 99), (39, 98)] ([(82, 0, 39), (82, 1, 40), (82, 2, 43)] : zW) ([(82, 0, 39), (82, 1, 40), (82, 2, 43)] : zW) xL_5 4 (none) xE_70 (xE_70.drop 37) [.ref 82, .int a1, .int a2, .null, .null, .null] [.int t0] s Q := by
  unfold v_70_37 at h
  refine zn_st [.ref 82, .int a1, .int a2, .int t0, .null, .null] rfl rfl rfl ?_
  refine zn_ld rfl rfl rfl ?_
  refine zn_brP rfl rfl ⟨fun hcn => ?_, fun hcn => ?_⟩
  · replace h := h.1 ((i_eq (x := t0) (y := 0) rfl (show (0 : Int32).toInt = 0 by decide)).mp hcn)
    exact m_70_43_39 hd  h
  · replace h := h.2 (fun q => hcn ((i_eq (x := t0) (y := 0) rfl (show (0 : Int32).toInt = 0 by decide)).mpr q))
    refine zn_ld rfl rfl rfl ?_
    refine zn_ld rfl rfl rfl ?_
    refine zn_zt [.ref 82, .int a1] [] rfl rfl rfl rfl rfl (Zt.imp h (fun v1 s2 h => ?_))
    obtain ⟨rfl, h⟩ := h
    change Zn _ _ _ _ _ _ _ _ _ _ _ [] _ _
    exact m_70_43_39 hd  h
set_option maxRecDepth 20000 in
theorem m_70_36_39 {d d0 : Nat} (hd : d = d0 + 8)  {a1 : Int32} {a2 : Int32} {s : zS} {Q : Option Value → zS → Prop}  (h : v_70_36 (fun j => Zt d (wd 39 j) j) 39  a1 a2 s Q) : Zn d [] [(39, 99), (39, 98)] ([(82, 0, 39), (82, 1, 40), (82, 2, 43)] : zW) ([(82, 0, 39), (82, 1, 40), (82, 2, 43)] : zW) xL_5 4 (none) xE_70 (xE_70.drop 36) [.ref 82, .int a1, .int a2, .null, .null, .null] [] s Q := by
  unfold v_70_36 at h
  refine zn_c [.int 0] (xo_push (.int 0)) rfl rfl ?_
  exact m_70_37_39 hd  h
set_option maxRecDepth 20000 in
theorem m_70_0_39 {d d0 : Nat} (hd : d = d0 + 8)  {a1 : Int32} {s : zS} {Q : Option Value → zS → Prop}  (h : v_70_0 (fun j => Zt d (wd 39 j) j) 39  a1 s Q) : Zn d [] [(39, 99), (39, 98)] ([(82, 0, 39), (82, 1, 40), (82, 2, 43)] : zW) ([(82, 0, 39), (82, 1, 40), (82, 2, 43)] : zW) xL_5 4 (none) xE_70 (xE_70.drop 0) [.ref 82, .int a1, .null, .null, .null, .null] [] s Q := by
  unfold v_70_0 at h
  refine zn_ld rfl rfl rfl ?_
  refine zn_c [.int 46, .ref 82] (xo_push (.int 46)) rfl rfl ?_
  refine zn_zt [.ref 82, .int 46] [] rfl rfl rfl rfl rfl (Zt.imp h (fun v1 s2 h => ?_))
  obtain ⟨rfl, h⟩ := h
  change Zn _ _ _ _ _ _ _ _ _ _ _ [] _ _
  refine zn_ld rfl rfl rfl ?_
  refine zn_c [.int 40, .ref 82] (xo_push (.int 40)) rfl rfl ?_
  refine zn_zt [.ref 82, .int 40] [] rfl rfl rfl rfl rfl (Zt.imp h (fun v3 s4 h => ?_))
  obtain ⟨x5, rfl, h⟩ := h
  change Zn _ _ _ _ _ _ _ _ _ _ _ [.int x5] _ _
  refine zn_brP rfl rfl ⟨fun hcn => ?_, fun hcn => ?_⟩
  · replace h := h.1 ((i_eq (x := x5) (y := 0) rfl (show (0 : Int32).toInt = 0 by decide)).mp hcn)
    refine zn_ld rfl rfl rfl ?_
    refine zn_get (v := .int (s4.1 82 3)) rfl (zv_I (a := 82) rfl rfl) ?_
    refine zn_st [.ref 82, .int a1, .int (s4.1 82 3), .null, .null, .null] rfl rfl rfl ?_
    refine zn_ld rfl rfl rfl ?_
    refine zn_c [.int 1, .ref 82] (xo_push (.int 1)) rfl rfl ?_
    refine zn_zt [.ref 82, .int 1] [] rfl rfl rfl rfl rfl (Zt.imp h (fun v6 s7 h => ?_))
    obtain ⟨rfl, h⟩ := h
    change Zn _ _ _ _ _ _ _ _ _ _ _ [] _ _
    refine zn_ld rfl rfl rfl ?_
    refine zn_get (v := .ref 39) rfl (zv_C (a := 82) (n := 0) rfl rfl rfl) ?_
    refine zn_get (v := .int (s7.1 39 14)) rfl (zv_I (a := 39) rfl rfl) ?_
    refine zn_brN rfl rfl ⟨fun hcn => ?_, fun hcn => ?_⟩
    · replace h := h.1 (fun q => hcn ((i_eq (x := s7.1 39 14) (y := 0) rfl (show (0 : Int32).toInt = 0 by decide)).mpr q))
      exact m_70_36_39 hd  h
    · replace h := h.2 ((i_eq (x := s7.1 39 14) (y := 0) rfl (show (0 : Int32).toInt = 0 by decide)).mp hcn)
      refine zn_ld rfl rfl rfl ?_
      refine zn_get (v := .ref 43) rfl (zv_C (a := 82) (n := 2) rfl rfl rfl) ?_
      refine zn_ld rfl rfl rfl ?_
      refine zn_get (v := .int (s7.1 82 3)) rfl (zv_I (a := 82) rfl rfl) ?_
      refine zn_row (s7.1 82 3) [] (a := 43) hd rfl rfl rfl rfl ?_
      change Zn _ _ _ _ _ _ _ _ _ _ _ [.int (zg s7 43 (s7.1 82 3))] _ _
      refine zn_c [.int 91, .int (zg s7 43 (s7.1 82 3))] (xo_push (.int 91)) rfl rfl ?_
      refine zn_brN rfl rfl ⟨fun hcn => ?_, fun hcn => ?_⟩
      · replace h := h.1 (fun q => hcn ((i_eq (x := zg s7 43 (s7.1 82 3)) (y := 91) rfl (show (91 : Int32).toInt = 91 by decide)).mpr q))
        exact m_70_36_39 hd  h
      · replace h := h.2 ((i_eq (x := zg s7 43 (s7.1 82 3)) (y := 91) rfl (show (91 : Int32).toInt = 91 by decide)).mp hcn)
        refine zn_c [.int 1] (xo_push (.int 1)) rfl rfl ?_
        refine zn_go rfl ?_
        exact m_70_37_39 hd  h
  · replace h := h.2 (fun q => hcn ((i_eq (x := x5) (y := 0) rfl (show (0 : Int32).toInt = 0 by decide)).mpr q))
    refine zn_ld rfl rfl rfl ?_
    refine zn_ld rfl rfl rfl ?_
    refine zn_c [.int 1, .int a1, .ref 82] (xo_push (.int 1)) rfl rfl ?_
    replace h := h _ (i_add (x := a1) (y := 1) rfl (show (1 : Int32).toInt = 1 by decide))
    refine zn_c [.int (a1 + 1), .ref 82] xo_iadd rfl rfl ?_
    refine zn_c [.int 0, .int (a1 + 1), .ref 82] (xo_push (.int 0)) rfl rfl ?_
    refine zn_zt [.ref 82, .int (a1 + 1), .int 0] [] rfl rfl rfl rfl rfl (Zt.imp h (fun v9 s10 h => ?_))
    obtain ⟨rfl, h⟩ := h
    change Zn _ _ _ _ _ _ _ _ _ _ _ [] _ _
    refine zn_ld rfl rfl rfl ?_
    refine zn_c [.int 41, .ref 82] (xo_push (.int 41)) rfl rfl ?_
    refine zn_zt [.ref 82, .int 41] [] rfl rfl rfl rfl rfl (Zt.imp h (fun v11 s12 h => ?_))
    obtain ⟨rfl, h⟩ := h
    change Zn _ _ _ _ _ _ _ _ _ _ _ [] _ _
    exact zn_ret0 rfl h
theorem zq_70_39 {d : Nat} {a1 : Int32} {s : zS} {Q : Option Value → zS → Prop} (h : v_70_0 (fun j => Zt (d + 8) (wd 39 j) j) 39 a1 s Q) : Zt (d + 9) ([(82, 0, 39), (82, 1, 40), (82, 2, 43)] : zW) 70 [.ref 82, .int a1] s Q := zt_of (E := xE_70) (L := xL_5) (ml := 4) (ret := none) rfl rfl rfl (m_70_0_39 rfl h)
theorem zc_70 {d P : Nat} (hP : P = 3 ∨ P = 39) {a1 : Int32} {s : zS} {Q : Option Value → zS → Prop} (h : v_70_0 (fun j => Zt (d + 8) (wd P j) j) P a1 s Q) : Zt (d + 9) (wd P 70) 70 [.ref 82, .int a1] s Q := by
  rcases hP with rfl | rfl
  · exact zq_70_3 h
  · exact zq_70_39 h
/-! FeatherBench$Reader.passValues -/
def v_71_30 (T : Nat → List Value → zS → (Option Value → zS → Prop) → Prop) (P : Nat)  (a1 : Int32) (a2 : Int32) (a3 : Int32) (a4 : Int32) (a5 : Int32) (s : zS) (Q : Option Value → zS → Prop) : Prop :=
  T 73 [.ref 82, .int a2] s (fun v1 s2 => v1 = none ∧ ((0 ≤ a5.toInt ∧ a5.toInt ≤ 7) ∧ (∀ s3, s3 = zt s2 (P + 12) a3 a5 → Q none s3)))
def v_71_16 (T : Nat → List Value → zS → (Option Value → zS → Prop) → Prop) (P : Nat) (R16 : Int32 → Int32 → Int32 → Int32 → Int32 → zS → Prop) (a1 : Int32) (a2 : Int32) (a3 : Int32) (a4 : Int32) (a5 : Int32) (s : zS) (Q : Option Value → zS → Prop) : Prop :=
  ∀ x1 : Int32, (-2147483648 ≤ a4.toInt + 1 ∧ a4.toInt + 1 ≤ 2147483647 → x1.toInt = a4.toInt + 1) → T 69 [.ref 82, .int x1, .int a5] s (fun v2 s3 => v2 = none ∧ (∀ x4 : Int32, (-2147483648 ≤ a5.toInt + 1 ∧ a5.toInt + 1 ≤ 2147483647 → x4.toInt = a5.toInt + 1) → (6 < x4.toInt → v_71_30 T P  a1 a2 a3 a4 x4 s3 Q) ∧ (¬ (6 < x4.toInt) → T 72 [.ref 82, .int 44] s3 (fun v5 s6 => ∃ x7, v5 = some (.int x7) ∧ ((¬ (x7.toInt = 0) → R16 a1 a2 a3 a4 x4 s6) ∧ (x7.toInt = 0 → v_71_30 T P  a1 a2 a3 a4 x4 s6 Q))))))
def vl_71_16 (T : Nat → List Value → zS → (Option Value → zS → Prop) → Prop) (P : Nat)  (a1 : Int32) (a2 : Int32) (a3 : Int32) (a4 : Int32) (a5 : Int32) (s : zS) (Q : Option Value → zS → Prop) : Prop :=
  ∃ (I : Int32 → Int32 → Int32 → Int32 → Int32 → zS → Prop) (μ : Int32 → Int32 → Int32 → Int32 → Int32 → zS → Nat), I a1 a2 a3 a4 a5 s ∧ ∀ (a1 : Int32) (a2 : Int32) (a3 : Int32) (a4 : Int32) (a5 : Int32) (s : zS), I a1 a2 a3 a4 a5 s → v_71_16 T P (fun a1' a2' a3' a4' a5' s' => I a1' a2' a3' a4' a5' s' ∧ μ a1' a2' a3' a4' a5' s' < μ a1 a2 a3 a4 a5 s) a1 a2 a3 a4 a5 s Q
def v_71_0 (T : Nat → List Value → zS → (Option Value → zS → Prop) → Prop) (P : Nat)  (a1 : Int32) (a2 : Int32) (a3 : Int32) (a4 : Int32) (s : zS) (Q : Option Value → zS → Prop) : Prop :=
  T 73 [.ref 82, .int a1] s (fun v1 s2 => v1 = none ∧ ((¬ ((s2.1 P 14).toInt = 0) → v_71_30 T P  a1 a2 a3 a4 0 s2 Q) ∧ ((s2.1 P 14).toInt = 0 → ((zg s2 (P + 4) (s2.1 82 3)).toInt = a2.toInt → v_71_30 T P  a1 a2 a3 a4 0 s2 Q) ∧ (¬ ((zg s2 (P + 4) (s2.1 82 3)).toInt = a2.toInt) → vl_71_16 T P  a1 a2 a3 a4 0 s2 Q))))
set_option maxRecDepth 20000 in
theorem m_71_30_3 {d d0 : Nat} (hd : d = d0 + 8)  {a1 : Int32} {a2 : Int32} {a3 : Int32} {a4 : Int32} {a5 : Int32} {s : zS} {Q : Option Value → zS → Prop}  (h : v_71_30 (fun j => Zt d (wd 3 j) j) 3  a1 a2 a3 a4 a5 s Q) : Zn d [] [(3, 99), (3, 98)] ([(82, 0, 3), (82, 1, 4), (82, 2, 7)] : zW) ([(82, 0, 3), (82, 1, 4), (82, 2, 7)] : zW) xL_5 6 (none) xE_71 (xE_71.drop 30) [.ref 82, .int a1, .int a2, .int a3, .int a4, .int a5, .null, .null, .null, .null, .null] [] s Q := by
  unfold v_71_30 at h
  refine zn_ld rfl rfl rfl ?_
  refine zn_ld rfl rfl rfl ?_
  refine zn_zt [.ref 82, .int a2] [] rfl rfl rfl rfl rfl (Zt.imp h (fun v1 s2 h => ?_))
  obtain ⟨rfl, h⟩ := h
  change Zn _ _ _ _ _ _ _ _ _ _ _ [] _ _
  refine zn_ld rfl rfl rfl ?_
  refine zn_get (v := .ref 4) rfl (zv_C (a := 82) (n := 1) rfl rfl rfl) ?_
  refine zn_get (v := .ref 15) rfl (zv_R (a := 4) rfl rfl) ?_
  refine zn_ld rfl rfl rfl ?_
  refine zn_ld rfl rfl rfl ?_
  refine zn_set a3 a5 [] (a := 15) hd rfl rfl rfl rfl h.1 rfl rfl ?_
  replace h := h.2
  replace h := h _ rfl
  exact zn_ret0 rfl h
set_option maxRecDepth 20000 in
theorem m_71_16_3 {d d0 : Nat} (hd : d = d0 + 8) {R16 : Int32 → Int32 → Int32 → Int32 → Int32 → zS → Prop} {a1 : Int32} {a2 : Int32} {a3 : Int32} {a4 : Int32} {a5 : Int32} {s : zS} {Q : Option Value → zS → Prop} (r16 : ∀ a1 a2 a3 a4 a5 s, R16 a1 a2 a3 a4 a5 s → Zn d [] [(3, 99), (3, 98)] ([(82, 0, 3), (82, 1, 4), (82, 2, 7)] : zW) ([(82, 0, 3), (82, 1, 4), (82, 2, 7)] : zW) xL_5 6 (none) xE_71 (xE_71.drop 16) [.ref 82, .int a1, .int a2, .int a3, .int a4, .int a5, .null, .null, .null, .null, .null] [] s Q) (h : v_71_16 (fun j => Zt d (wd 3 j) j) 3 R16 a1 a2 a3 a4 a5 s Q) : Zn d [] [(3, 99), (3, 98)] ([(82, 0, 3), (82, 1, 4), (82, 2, 7)] : zW) ([(82, 0, 3), (82, 1, 4), (82, 2, 7)] : zW) xL_5 6 (none) xE_71 (xE_71.drop 16) [.ref 82, .int a1, .int a2, .int a3, .int a4, .int a5, .null, .null, .null, .null, .null] [] s Q := by
  unfold v_71_16 at h
  refine zn_ld rfl rfl rfl ?_
  refine zn_ld rfl rfl rfl ?_
  refine zn_c [.int 1, .int a4, .ref 82] (xo_push (.int 1)) rfl rfl ?_
  replace h := h _ (i_add (x := a4) (y := 1) rfl (show (1 : Int32).toInt = 1 by decide))
  refine zn_c [.int (a4 + 1), .ref 82] xo_iadd rfl rfl ?_
  refine zn_ld rfl rfl rfl ?_
  refine zn_zt [.ref 82, .int (a4 + 1), .int a5] [] rfl rfl rfl rfl rfl (Zt.imp h (fun v2 s3 h => ?_))
  obtain ⟨rfl, h⟩ := h
  change Zn _ _ _ _ _ _ _ _ _ _ _ [] _ _
  replace h := h _ (i_add (x := a5) (y := 1) rfl (show (1 : Int32).toInt = 1 by decide))
  refine zn_inc [.ref 82, .int a1, .int a2, .int a3, .int a4, .int (a5 + 1), .null, .null, .null, .null, .null] rfl rfl rfl rfl ?_
  refine zn_ld rfl rfl rfl ?_
  refine zn_c [.int 6, .int (a5 + 1)] (xo_push (.int 6)) rfl rfl ?_
  refine zn_brP rfl rfl ⟨fun hcn => ?_, fun hcn => ?_⟩
  · replace h := h.1 ((i_lt (x := 6) (y := (a5 + 1)) (show (6 : Int32).toInt = 6 by decide) rfl).mp hcn)
    exact m_71_30_3 hd  h
  · replace h := h.2 (fun q => hcn ((i_lt (x := 6) (y := (a5 + 1)) (show (6 : Int32).toInt = 6 by decide) rfl).mpr q))
    refine zn_ld rfl rfl rfl ?_
    refine zn_c [.int 44, .ref 82] (xo_push (.int 44)) rfl rfl ?_
    refine zn_zt [.ref 82, .int 44] [] rfl rfl rfl rfl rfl (Zt.imp h (fun v5 s6 h => ?_))
    obtain ⟨x7, rfl, h⟩ := h
    change Zn _ _ _ _ _ _ _ _ _ _ _ [.int x7] _ _
    refine zn_brN rfl rfl ⟨fun hcn => ?_, fun hcn => ?_⟩
    · replace h := h.1 (fun q => hcn ((i_eq (x := x7) (y := 0) rfl (show (0 : Int32).toInt = 0 by decide)).mpr q))
      exact r16 a1 a2 a3 a4 (a5 + 1) s6 h
    · replace h := h.2 ((i_eq (x := x7) (y := 0) rfl (show (0 : Int32).toInt = 0 by decide)).mp hcn)
      exact m_71_30_3 hd  h
theorem ml_71_16_3 {d d0 : Nat} (hd : d = d0 + 8)  {a1 : Int32} {a2 : Int32} {a3 : Int32} {a4 : Int32} {a5 : Int32} {s : zS} {Q : Option Value → zS → Prop}  (h : vl_71_16 (fun j => Zt d (wd 3 j) j) 3  a1 a2 a3 a4 a5 s Q) : Zn d [] [(3, 99), (3, 98)] ([(82, 0, 3), (82, 1, 4), (82, 2, 7)] : zW) ([(82, 0, 3), (82, 1, 4), (82, 2, 7)] : zW) xL_5 6 (none) xE_71 (xE_71.drop 16) [.ref 82, .int a1, .int a2, .int a3, .int a4, .int a5, .null, .null, .null, .null, .null] [] s Q := by
  obtain ⟨I, μ, h0, h1⟩ := h
  have key : ∀ (n : Nat) (a1 : Int32) (a2 : Int32) (a3 : Int32) (a4 : Int32) (a5 : Int32) (s : zS), μ a1 a2 a3 a4 a5 s = n → I a1 a2 a3 a4 a5 s → Zn d [] [(3, 99), (3, 98)] ([(82, 0, 3), (82, 1, 4), (82, 2, 7)] : zW) ([(82, 0, 3), (82, 1, 4), (82, 2, 7)] : zW) xL_5 6 (none) xE_71 (xE_71.drop 16) [.ref 82, .int a1, .int a2, .int a3, .int a4, .int a5, .null, .null, .null, .null, .null] [] s Q := by
    intro n
    induction n using Nat.strongRecOn with
    | ind n ih =>
      intro a1 a2 a3 a4 a5 s e hI
      exact m_71_16_3 hd (fun a1' a2' a3' a4' a5' s' q => ih _ (by rw [← e]; exact q.2) a1' a2' a3' a4' a5' s' rfl q.1) (h1 a1 a2 a3 a4 a5 s hI)
  exact key _ a1 a2 a3 a4 a5 s rfl h0
set_option maxRecDepth 20000 in
theorem m_71_0_3 {d d0 : Nat} (hd : d = d0 + 8)  {a1 : Int32} {a2 : Int32} {a3 : Int32} {a4 : Int32} {s : zS} {Q : Option Value → zS → Prop}  (h : v_71_0 (fun j => Zt d (wd 3 j) j) 3  a1 a2 a3 a4 s Q) : Zn d [] [(3, 99), (3, 98)] ([(82, 0, 3), (82, 1, 4), (82, 2, 7)] : zW) ([(82, 0, 3), (82, 1, 4), (82, 2, 7)] : zW) xL_5 6 (none) xE_71 (xE_71.drop 0) [.ref 82, .int a1, .int a2, .int a3, .int a4, .null, .null, .null, .null, .null, .null] [] s Q := by
  unfold v_71_0 at h
  refine zn_ld rfl rfl rfl ?_
  refine zn_ld rfl rfl rfl ?_
  refine zn_zt [.ref 82, .int a1] [] rfl rfl rfl rfl rfl (Zt.imp h (fun v1 s2 h => ?_))
  obtain ⟨rfl, h⟩ := h
  change Zn _ _ _ _ _ _ _ _ _ _ _ [] _ _
  refine zn_c [.int 0] (xo_push (.int 0)) rfl rfl ?_
  refine zn_st [.ref 82, .int a1, .int a2, .int a3, .int a4, .int 0, .null, .null, .null, .null, .null] rfl rfl rfl ?_
  refine zn_ld rfl rfl rfl ?_
  refine zn_get (v := .ref 3) rfl (zv_C (a := 82) (n := 0) rfl rfl rfl) ?_
  refine zn_get (v := .int (s2.1 3 14)) rfl (zv_I (a := 3) rfl rfl) ?_
  refine zn_brN rfl rfl ⟨fun hcn => ?_, fun hcn => ?_⟩
  · replace h := h.1 (fun q => hcn ((i_eq (x := s2.1 3 14) (y := 0) rfl (show (0 : Int32).toInt = 0 by decide)).mpr q))
    exact m_71_30_3 hd  h
  · replace h := h.2 ((i_eq (x := s2.1 3 14) (y := 0) rfl (show (0 : Int32).toInt = 0 by decide)).mp hcn)
    refine zn_ld rfl rfl rfl ?_
    refine zn_get (v := .ref 7) rfl (zv_C (a := 82) (n := 2) rfl rfl rfl) ?_
    refine zn_ld rfl rfl rfl ?_
    refine zn_get (v := .int (s2.1 82 3)) rfl (zv_I (a := 82) rfl rfl) ?_
    refine zn_row (s2.1 82 3) [] (a := 7) hd rfl rfl rfl rfl ?_
    change Zn _ _ _ _ _ _ _ _ _ _ _ [.int (zg s2 7 (s2.1 82 3))] _ _
    refine zn_ld rfl rfl rfl ?_
    refine zn_brP rfl rfl ⟨fun hcn => ?_, fun hcn => ?_⟩
    · replace h := h.1 ((i_eq (x := zg s2 7 (s2.1 82 3)) (y := a2) rfl rfl).mp hcn)
      exact m_71_30_3 hd  h
    · replace h := h.2 (fun q => hcn ((i_eq (x := zg s2 7 (s2.1 82 3)) (y := a2) rfl rfl).mpr q))
      exact ml_71_16_3 hd  h
theorem zq_71_3 {d : Nat} {a1 : Int32} {a2 : Int32} {a3 : Int32} {a4 : Int32} {s : zS} {Q : Option Value → zS → Prop} (h : v_71_0 (fun j => Zt (d + 8) (wd 3 j) j) 3 a1 a2 a3 a4 s Q) : Zt (d + 9) ([(82, 0, 3), (82, 1, 4), (82, 2, 7)] : zW) 71 [.ref 82, .int a1, .int a2, .int a3, .int a4] s Q := zt_of (E := xE_71) (L := xL_5) (ml := 6) (ret := none) rfl rfl rfl (m_71_0_3 rfl h)
set_option maxRecDepth 20000 in
theorem m_71_30_39 {d d0 : Nat} (hd : d = d0 + 8)  {a1 : Int32} {a2 : Int32} {a3 : Int32} {a4 : Int32} {a5 : Int32} {s : zS} {Q : Option Value → zS → Prop}  (h : v_71_30 (fun j => Zt d (wd 39 j) j) 39  a1 a2 a3 a4 a5 s Q) : Zn d [] [(39, 99), (39, 98)] ([(82, 0, 39), (82, 1, 40), (82, 2, 43)] : zW) ([(82, 0, 39), (82, 1, 40), (82, 2, 43)] : zW) xL_5 6 (none) xE_71 (xE_71.drop 30) [.ref 82, .int a1, .int a2, .int a3, .int a4, .int a5, .null, .null, .null, .null, .null] [] s Q := by
  unfold v_71_30 at h
  refine zn_ld rfl rfl rfl ?_
  refine zn_ld rfl rfl rfl ?_
  refine zn_zt [.ref 82, .int a2] [] rfl rfl rfl rfl rfl (Zt.imp h (fun v1 s2 h => ?_))
  obtain ⟨rfl, h⟩ := h
  change Zn _ _ _ _ _ _ _ _ _ _ _ [] _ _
  refine zn_ld rfl rfl rfl ?_
  refine zn_get (v := .ref 40) rfl (zv_C (a := 82) (n := 1) rfl rfl rfl) ?_
  refine zn_get (v := .ref 51) rfl (zv_R (a := 40) rfl rfl) ?_
  refine zn_ld rfl rfl rfl ?_
  refine zn_ld rfl rfl rfl ?_
  refine zn_set a3 a5 [] (a := 51) hd rfl rfl rfl rfl h.1 rfl rfl ?_
  replace h := h.2
  replace h := h _ rfl
  exact zn_ret0 rfl h
set_option maxRecDepth 20000 in
theorem m_71_16_39 {d d0 : Nat} (hd : d = d0 + 8) {R16 : Int32 → Int32 → Int32 → Int32 → Int32 → zS → Prop} {a1 : Int32} {a2 : Int32} {a3 : Int32} {a4 : Int32} {a5 : Int32} {s : zS} {Q : Option Value → zS → Prop} (r16 : ∀ a1 a2 a3 a4 a5 s, R16 a1 a2 a3 a4 a5 s → Zn d [] [(39, 99), (39, 98)] ([(82, 0, 39), (82, 1, 40), (82, 2, 43)] : zW) ([(82, 0, 39), (82, 1, 40), (82, 2, 43)] : zW) xL_5 6 (none) xE_71 (xE_71.drop 16) [.ref 82, .int a1, .int a2, .int a3, .int a4, .int a5, .null, .null, .null, .null, .null] [] s Q) (h : v_71_16 (fun j => Zt d (wd 39 j) j) 39 R16 a1 a2 a3 a4 a5 s Q) : Zn d [] [(39, 99), (39, 98)] ([(82, 0, 39), (82, 1, 40), (82, 2, 43)] : zW) ([(82, 0, 39), (82, 1, 40), (82, 2, 43)] : zW) xL_5 6 (none) xE_71 (xE_71.drop 16) [.ref 82, .int a1, .int a2, .int a3, .int a4, .int a5, .null, .null, .null, .null, .null] [] s Q := by
  unfold v_71_16 at h
  refine zn_ld rfl rfl rfl ?_
  refine zn_ld rfl rfl rfl ?_
  refine zn_c [.int 1, .int a4, .ref 82] (xo_push (.int 1)) rfl rfl ?_
  replace h := h _ (i_add (x := a4) (y := 1) rfl (show (1 : Int32).toInt = 1 by decide))
  refine zn_c [.int (a4 + 1), .ref 82] xo_iadd rfl rfl ?_
  refine zn_ld rfl rfl rfl ?_
  refine zn_zt [.ref 82, .int (a4 + 1), .int a5] [] rfl rfl rfl rfl rfl (Zt.imp h (fun v2 s3 h => ?_))
  obtain ⟨rfl, h⟩ := h
  change Zn _ _ _ _ _ _ _ _ _ _ _ [] _ _
  replace h := h _ (i_add (x := a5) (y := 1) rfl (show (1 : Int32).toInt = 1 by decide))
  refine zn_inc [.ref 82, .int a1, .int a2, .int a3, .int a4, .int (a5 + 1), .null, .null, .null, .null, .null] rfl rfl rfl rfl ?_
  refine zn_ld rfl rfl rfl ?_
  refine zn_c [.int 6, .int (a5 + 1)] (xo_push (.int 6)) rfl rfl ?_
  refine zn_brP rfl rfl ⟨fun hcn => ?_, fun hcn => ?_⟩
  · replace h := h.1 ((i_lt (x := 6) (y := (a5 + 1)) (show (6 : Int32).toInt = 6 by decide) rfl).mp hcn)
    exact m_71_30_39 hd  h
  · replace h := h.2 (fun q => hcn ((i_lt (x := 6) (y := (a5 + 1)) (show (6 : Int32).toInt = 6 by decide) rfl).mpr q))
    refine zn_ld rfl rfl rfl ?_
    refine zn_c [.int 44, .ref 82] (xo_push (.int 44)) rfl rfl ?_
    refine zn_zt [.ref 82, .int 44] [] rfl rfl rfl rfl rfl (Zt.imp h (fun v5 s6 h => ?_))
    obtain ⟨x7, rfl, h⟩ := h
    change Zn _ _ _ _ _ _ _ _ _ _ _ [.int x7] _ _
    refine zn_brN rfl rfl ⟨fun hcn => ?_, fun hcn => ?_⟩
    · replace h := h.1 (fun q => hcn ((i_eq (x := x7) (y := 0) rfl (show (0 : Int32).toInt = 0 by decide)).mpr q))
      exact r16 a1 a2 a3 a4 (a5 + 1) s6 h
    · replace h := h.2 ((i_eq (x := x7) (y := 0) rfl (show (0 : Int32).toInt = 0 by decide)).mp hcn)
      exact m_71_30_39 hd  h
theorem ml_71_16_39 {d d0 : Nat} (hd : d = d0 + 8)  {a1 : Int32} {a2 : Int32} {a3 : Int32} {a4 : Int32} {a5 : Int32} {s : zS} {Q : Option Value → zS → Prop}  (h : vl_71_16 (fun j => Zt d (wd 39 j) j) 39  a1 a2 a3 a4 a5 s Q) : Zn d [] [(39, 99), (39, 98)] ([(82, 0, 39), (82, 1, 40), (82, 2, 43)] : zW) ([(82, 0, 39), (82, 1, 40), (82, 2, 43)] : zW) xL_5 6 (none) xE_71 (xE_71.drop 16) [.ref 82, .int a1, .int a2, .int a3, .int a4, .int a5, .null, .null, .null, .null, .null] [] s Q := by
  obtain ⟨I, μ, h0, h1⟩ := h
  have key : ∀ (n : Nat) (a1 : Int32) (a2 : Int32) (a3 : Int32) (a4 : Int32) (a5 : Int32) (s : zS), μ a1 a2 a3 a4 a5 s = n → I a1 a2 a3 a4 a5 s → Zn d [] [(39, 99), (39, 98)] ([(82, 0, 39), (82, 1, 40), (82, 2, 43)] : zW) ([(82, 0, 39), (82, 1, 40), (82, 2, 43)] : zW) xL_5 6 (none) xE_71 (xE_71.drop 16) [.ref 82, .int a1, .int a2, .int a3, .int a4, .int a5, .null, .null, .null, .null, .null] [] s Q := by
    intro n
    induction n using Nat.strongRecOn with
    | ind n ih =>
      intro a1 a2 a3 a4 a5 s e hI
      exact m_71_16_39 hd (fun a1' a2' a3' a4' a5' s' q => ih _ (by rw [← e]; exact q.2) a1' a2' a3' a4' a5' s' rfl q.1) (h1 a1 a2 a3 a4 a5 s hI)
  exact key _ a1 a2 a3 a4 a5 s rfl h0
set_option maxRecDepth 20000 in
theorem m_71_0_39 {d d0 : Nat} (hd : d = d0 + 8)  {a1 : Int32} {a2 : Int32} {a3 : Int32} {a4 : Int32} {s : zS} {Q : Option Value → zS → Prop}  (h : v_71_0 (fun j => Zt d (wd 39 j) j) 39  a1 a2 a3 a4 s Q) : Zn d [] [(39, 99), (39, 98)] ([(82, 0, 39), (82, 1, 40), (82, 2, 43)] : zW) ([(82, 0, 39), (82, 1, 40), (82, 2, 43)] : zW) xL_5 6 (none) xE_71 (xE_71.drop 0) [.ref 82, .int a1, .int a2, .int a3, .int a4, .null, .null, .null, .null, .null, .null] [] s Q := by
  unfold v_71_0 at h
  refine zn_ld rfl rfl rfl ?_
  refine zn_ld rfl rfl rfl ?_
  refine zn_zt [.ref 82, .int a1] [] rfl rfl rfl rfl rfl (Zt.imp h (fun v1 s2 h => ?_))
  obtain ⟨rfl, h⟩ := h
  change Zn _ _ _ _ _ _ _ _ _ _ _ [] _ _
  refine zn_c [.int 0] (xo_push (.int 0)) rfl rfl ?_
  refine zn_st [.ref 82, .int a1, .int a2, .int a3, .int a4, .int 0, .null, .null, .null, .null, .null] rfl rfl rfl ?_
  refine zn_ld rfl rfl rfl ?_
  refine zn_get (v := .ref 39) rfl (zv_C (a := 82) (n := 0) rfl rfl rfl) ?_
  refine zn_get (v := .int (s2.1 39 14)) rfl (zv_I (a := 39) rfl rfl) ?_
  refine zn_brN rfl rfl ⟨fun hcn => ?_, fun hcn => ?_⟩
  · replace h := h.1 (fun q => hcn ((i_eq (x := s2.1 39 14) (y := 0) rfl (show (0 : Int32).toInt = 0 by decide)).mpr q))
    exact m_71_30_39 hd  h
  · replace h := h.2 ((i_eq (x := s2.1 39 14) (y := 0) rfl (show (0 : Int32).toInt = 0 by decide)).mp hcn)
    refine zn_ld rfl rfl rfl ?_
    refine zn_get (v := .ref 43) rfl (zv_C (a := 82) (n := 2) rfl rfl rfl) ?_
    refine zn_ld rfl rfl rfl ?_
    refine zn_get (v := .int (s2.1 82 3)) rfl (zv_I (a := 82) rfl rfl) ?_
    refine zn_row (s2.1 82 3) [] (a := 43) hd rfl rfl rfl rfl ?_
    change Zn _ _ _ _ _ _ _ _ _ _ _ [.int (zg s2 43 (s2.1 82 3))] _ _
    refine zn_ld rfl rfl rfl ?_
    refine zn_brP rfl rfl ⟨fun hcn => ?_, fun hcn => ?_⟩
    · replace h := h.1 ((i_eq (x := zg s2 43 (s2.1 82 3)) (y := a2) rfl rfl).mp hcn)
      exact m_71_30_39 hd  h
    · replace h := h.2 (fun q => hcn ((i_eq (x := zg s2 43 (s2.1 82 3)) (y := a2) rfl rfl).mpr q))
      exact ml_71_16_39 hd  h
theorem zq_71_39 {d : Nat} {a1 : Int32} {a2 : Int32} {a3 : Int32} {a4 : Int32} {s : zS} {Q : Option Value → zS → Prop} (h : v_71_0 (fun j => Zt (d + 8) (wd 39 j) j) 39 a1 a2 a3 a4 s Q) : Zt (d + 9) ([(82, 0, 39), (82, 1, 40), (82, 2, 43)] : zW) 71 [.ref 82, .int a1, .int a2, .int a3, .int a4] s Q := zt_of (E := xE_71) (L := xL_5) (ml := 6) (ret := none) rfl rfl rfl (m_71_0_39 rfl h)
theorem zc_71 {d P : Nat} (hP : P = 3 ∨ P = 39) {a1 : Int32} {a2 : Int32} {a3 : Int32} {a4 : Int32} {s : zS} {Q : Option Value → zS → Prop} (h : v_71_0 (fun j => Zt (d + 8) (wd P j) j) P a1 a2 a3 a4 s Q) : Zt (d + 9) (wd P 71) 71 [.ref 82, .int a1, .int a2, .int a3, .int a4] s Q := by
  rcases hP with rfl | rfl
  · exact zq_71_3 h
  · exact zq_71_39 h
/-! FeatherBench$Reader.readType -/
def v_62_126 (T : Nat → List Value → zS → (Option Value → zS → Prop) → Prop) (P : Nat)  (a1 : Int32) (a2 : Int32) (a3 : Int32) (a4 : Int32) (a5 : Int32) (a6 : Int32) (t1 : Int32) (t2 : Int32) (s : zS) (Q : Option Value → zS → Prop) : Prop :=
  T 56 [.ref P, .int t1, .int t2, .int a1, .int a3, .int a5, .int a6] s (fun v1 s2 => v1 = none ∧ (Q none s2))
def v_62_115 (T : Nat → List Value → zS → (Option Value → zS → Prop) → Prop) (P : Nat)  (a1 : Int32) (a2 : Int32) (a3 : Int32) (a4 : Int32) (a5 : Int32) (a6 : Int32) (s : zS) (Q : Option Value → zS → Prop) : Prop :=
  T 73 [.ref 82, .int 125] s (fun v1 s2 => v1 = none ∧ ((a4.toInt = 0 → v_62_126 T P  a1 a2 a3 a4 a5 a6 a2 5 s2 Q) ∧ (¬ (a4.toInt = 0) → v_62_126 T P  a1 a2 a3 a4 a5 a6 a2 4 s2 Q)))
def v_62_110 (T : Nat → List Value → zS → (Option Value → zS → Prop) → Prop) (P : Nat) (R67 : Int32 → Int32 → Int32 → Int32 → Int32 → Int32 → zS → Prop) (a1 : Int32) (a2 : Int32) (a3 : Int32) (a4 : Int32) (a5 : Int32) (a6 : Int32) (a7 : Int32) (s : zS) (Q : Option Value → zS → Prop) : Prop :=
  T 73 [.ref 82, .int 59] s (fun v1 s2 => v1 = none ∧ (∀ x3 : Int32, (-2147483648 ≤ a6.toInt + 1 ∧ a6.toInt + 1 ≤ 2147483647 → x3.toInt = a6.toInt + 1) → R67 a1 a2 a3 a4 a5 x3 s2))
def v_62_91 (T : Nat → List Value → zS → (Option Value → zS → Prop) → Prop) (P : Nat) (R67 : Int32 → Int32 → Int32 → Int32 → Int32 → Int32 → zS → Prop) (a1 : Int32) (a2 : Int32) (a3 : Int32) (a4 : Int32) (a5 : Int32) (a6 : Int32) (a7 : Int32) (t1 : Int32) (s : zS) (Q : Option Value → zS → Prop) : Prop :=
  T 74 [.ref 82, .int t1] s (fun v1 s2 => v1 = none ∧ ((a4.toInt = 0 → T 66 [.ref 82, .int a7] s2 (fun v3 s4 => v3 = none ∧ (v_62_110 T P R67 a1 a2 a3 a4 a5 a6 a7 s4 Q))) ∧ (¬ (a4.toInt = 0) → T 54 [.ref P, .int a7, .int 2, .int (s2.1 82 3), .int (-1)] s2 (fun v5 s6 => v5 = none ∧ (T 67 [.ref 82, .int 1, .int 0] s6 (fun v7 s8 => v7 = none ∧ (v_62_110 T P R67 a1 a2 a3 a4 a5 a6 a7 s8 Q)))))))
def v_62_67 (T : Nat → List Value → zS → (Option Value → zS → Prop) → Prop) (P : Nat) (R67 : Int32 → Int32 → Int32 → Int32 → Int32 → Int32 → zS → Prop) (a1 : Int32) (a2 : Int32) (a3 : Int32) (a4 : Int32) (a5 : Int32) (a6 : Int32) (s : zS) (Q : Option Value → zS → Prop) : Prop :=
  (6 < a6.toInt → v_62_115 T P  a1 a2 a3 a4 a5 a6 s Q) ∧ (¬ (6 < a6.toInt) → (¬ ((s.1 P 14).toInt = 0) → v_62_115 T P  a1 a2 a3 a4 a5 a6 s Q) ∧ ((s.1 P 14).toInt = 0 → ((zg s (P + 4) (s.1 82 3)).toInt = 125 → v_62_115 T P  a1 a2 a3 a4 a5 a6 s Q) ∧ (¬ ((zg s (P + 4) (s.1 82 3)).toInt = 125) → (a6.toInt < 6 → v_62_91 T P R67 a1 a2 a3 a4 a5 a6 (s.1 82 3) 0 s Q) ∧ (¬ (a6.toInt < 6) → v_62_91 T P R67 a1 a2 a3 a4 a5 a6 (s.1 82 3) 1 s Q))))
def vl_62_67 (T : Nat → List Value → zS → (Option Value → zS → Prop) → Prop) (P : Nat)  (a1 : Int32) (a2 : Int32) (a3 : Int32) (a4 : Int32) (a5 : Int32) (a6 : Int32) (s : zS) (Q : Option Value → zS → Prop) : Prop :=
  ∃ (I : Int32 → Int32 → Int32 → Int32 → Int32 → Int32 → zS → Prop) (μ : Int32 → Int32 → Int32 → Int32 → Int32 → Int32 → zS → Nat), I a1 a2 a3 a4 a5 a6 s ∧ ∀ (a1 : Int32) (a2 : Int32) (a3 : Int32) (a4 : Int32) (a5 : Int32) (a6 : Int32) (s : zS), I a1 a2 a3 a4 a5 a6 s → v_62_67 T P (fun a1' a2' a3' a4' a5' a6' s' => I a1' a2' a3' a4' a5' a6' s' ∧ μ a1' a2' a3' a4' a5' a6' s' < μ a1 a2 a3 a4 a5 a6 s) a1 a2 a3 a4 a5 a6 s Q
def v_62_64 (T : Nat → List Value → zS → (Option Value → zS → Prop) → Prop) (P : Nat)  (a1 : Int32) (a2 : Int32) (a3 : Int32) (a4 : Int32) (t0 : Int32) (s : zS) (Q : Option Value → zS → Prop) : Prop :=
  vl_62_67 T P  a1 a2 a3 a4 t0 0 s Q
def v_62_52 (T : Nat → List Value → zS → (Option Value → zS → Prop) → Prop) (P : Nat)  (a1 : Int32) (a2 : Int32) (a3 : Int32) (a4 : Int32) (s : zS) (Q : Option Value → zS → Prop) : Prop :=
  T 73 [.ref 82, .int 123] s (fun v1 s2 => v1 = none ∧ ((a4.toInt = 0 → v_62_64 T P  a1 a2 a3 a4 (s2.1 (P + 28) 2 / 5) s2 Q) ∧ (¬ (a4.toInt = 0) → v_62_64 T P  a1 a2 a3 a4 (s2.1 (P + 30) 2 / 5) s2 Q)))
def v_62_42 (T : Nat → List Value → zS → (Option Value → zS → Prop) → Prop) (P : Nat)  (a1 : Int32) (a2 : Int32) (t0 : Int32) (s : zS) (Q : Option Value → zS → Prop) : Prop :=
  T 72 [.ref 82, .int 4] s (fun v1 s2 => ∃ x3, v1 = some (.int x3) ∧ ((¬ (x3.toInt = 0) → v_62_52 T P  a1 a2 t0 x3 s2 Q) ∧ (x3.toInt = 0 → T 73 [.ref 82, .int 5] s2 (fun v4 s5 => v4 = none ∧ (v_62_52 T P  a1 a2 t0 x3 s5 Q)))))
def v_62_18 (T : Nat → List Value → zS → (Option Value → zS → Prop) → Prop) (P : Nat)   (s : zS) (Q : Option Value → zS → Prop) : Prop :=
  T 73 [.ref 82, .int 3] s (fun v1 s2 => v1 = none ∧ (T 73 [.ref 82, .int 1] s2 (fun v3 s4 => v3 = none ∧ (T 72 [.ref 82, .int 91] s4 (fun v5 s6 => ∃ x7, v5 = some (.int x7) ∧ ((x7.toInt = 0 → v_62_42 T P  (s2.1 (P + 30) 2 / 5) (s2.1 82 3) 0 s6 Q) ∧ (¬ (x7.toInt = 0) → T 65 [.ref 82, .int 93, .int 0, .int (-1)] s6 (fun v8 s9 => ∃ x10, v8 = some (.int x10) ∧ (v_62_42 T P  (s2.1 (P + 30) 2 / 5) (s2.1 82 3) x10 s9 Q)))))))))
def v_62_0 (T : Nat → List Value → zS → (Option Value → zS → Prop) → Prop) (P : Nat)   (s : zS) (Q : Option Value → zS → Prop) : Prop :=
  (¬ ((zg s (P + 4) (s.1 82 3)).toInt = 3) → v_62_18 T P   s Q) ∧ ((zg s (P + 4) (s.1 82 3)).toInt = 3 → ((s.1 (P + 24) 2 / 6).toInt < 24 → v_62_18 T P   s Q) ∧ (¬ ((s.1 (P + 24) 2 / 6).toInt < 24) → T 38 [.ref P, .int 5, .int (s.1 82 3)] s (fun v1 s2 => v1 = none ∧ (v_62_18 T P   s2 Q))))
set_option maxRecDepth 20000 in
theorem m_62_126_3 {d d0 : Nat} (hd : d = d0 + 8)  {a1 : Int32} {a2 : Int32} {a3 : Int32} {a4 : Int32} {a5 : Int32} {a6 : Int32} {t1 : Int32} {t2 : Int32} {s : zS} {Q : Option Value → zS → Prop}  (h : v_62_126 (fun j => Zt d (wd 3 j) j) 3  a1 a2 a3 a4 a5 a6 t1 t2 s Q) : Zn d [] [(3, 99), (3, 98)] ([(82, 0, 3), (82, 1, 4), (82, 2, 7)] : zW) ([(82, 0, 3), (82, 1, 4), (82, 2, 7)] : zW) xL_5 8 (none) xE_62 (xE_62.drop 126) [.ref 82, .int a1, .int a2, .int a3, .int a4, .int a5, .int a6, .null, .null] [.int t2, .int t1, .ref 3] s Q := by
  unfold v_62_126 at h
  refine zn_ld rfl rfl rfl ?_
  refine zn_ld rfl rfl rfl ?_
  refine zn_ld rfl rfl rfl ?_
  refine zn_ld rfl rfl rfl ?_
  refine zn_zt [.ref 3, .int t1, .int t2, .int a1, .int a3, .int a5, .int a6] [] rfl rfl rfl rfl rfl (Zt.imp h (fun v1 s2 h => ?_))
  obtain ⟨rfl, h⟩ := h
  change Zn _ _ _ _ _ _ _ _ _ _ _ [] _ _
  exact zn_ret0 rfl h
set_option maxRecDepth 20000 in
theorem m_62_115_3 {d d0 : Nat} (hd : d = d0 + 8)  {a1 : Int32} {a2 : Int32} {a3 : Int32} {a4 : Int32} {a5 : Int32} {a6 : Int32} {s : zS} {Q : Option Value → zS → Prop}  (h : v_62_115 (fun j => Zt d (wd 3 j) j) 3  a1 a2 a3 a4 a5 a6 s Q) : Zn d [] [(3, 99), (3, 98)] ([(82, 0, 3), (82, 1, 4), (82, 2, 7)] : zW) ([(82, 0, 3), (82, 1, 4), (82, 2, 7)] : zW) xL_5 8 (none) xE_62 (xE_62.drop 115) [.ref 82, .int a1, .int a2, .int a3, .int a4, .int a5, .int a6, .null, .null] [] s Q := by
  unfold v_62_115 at h
  refine zn_ld rfl rfl rfl ?_
  refine zn_c [.int 125, .ref 82] (xo_push (.int 125)) rfl rfl ?_
  refine zn_zt [.ref 82, .int 125] [] rfl rfl rfl rfl rfl (Zt.imp h (fun v1 s2 h => ?_))
  obtain ⟨rfl, h⟩ := h
  change Zn _ _ _ _ _ _ _ _ _ _ _ [] _ _
  refine zn_ld rfl rfl rfl ?_
  refine zn_get (v := .ref 3) rfl (zv_C (a := 82) (n := 0) rfl rfl rfl) ?_
  refine zn_ld rfl rfl rfl ?_
  refine zn_ld rfl rfl rfl ?_
  refine zn_brP rfl rfl ⟨fun hcn => ?_, fun hcn => ?_⟩
  · replace h := h.1 ((i_eq (x := a4) (y := 0) rfl (show (0 : Int32).toInt = 0 by decide)).mp hcn)
    refine zn_c [.int 5, .int a2, .ref 3] (xo_push (.int 5)) rfl rfl ?_
    exact m_62_126_3 hd  h
  · replace h := h.2 (fun q => hcn ((i_eq (x := a4) (y := 0) rfl (show (0 : Int32).toInt = 0 by decide)).mpr q))
    refine zn_c [.int 4, .int a2, .ref 3] (xo_push (.int 4)) rfl rfl ?_
    refine zn_go rfl ?_
    exact m_62_126_3 hd  h
set_option maxRecDepth 20000 in
theorem m_62_110_3 {d d0 : Nat} (hd : d = d0 + 8) {R67 : Int32 → Int32 → Int32 → Int32 → Int32 → Int32 → zS → Prop} {a1 : Int32} {a2 : Int32} {a3 : Int32} {a4 : Int32} {a5 : Int32} {a6 : Int32} {a7 : Int32} {s : zS} {Q : Option Value → zS → Prop} (r67 : ∀ a1 a2 a3 a4 a5 a6 s, R67 a1 a2 a3 a4 a5 a6 s → Zn d [] [(3, 99), (3, 98)] ([(82, 0, 3), (82, 1, 4), (82, 2, 7)] : zW) ([(82, 0, 3), (82, 1, 4), (82, 2, 7)] : zW) xL_5 8 (none) xE_62 (xE_62.drop 67) [.ref 82, .int a1, .int a2, .int a3, .int a4, .int a5, .int a6, .null, .null] [] s Q) (h : v_62_110 (fun j => Zt d (wd 3 j) j) 3 R67 a1 a2 a3 a4 a5 a6 a7 s Q) : Zn d [] [(3, 99), (3, 98)] ([(82, 0, 3), (82, 1, 4), (82, 2, 7)] : zW) ([(82, 0, 3), (82, 1, 4), (82, 2, 7)] : zW) xL_5 8 (none) xE_62 (xE_62.drop 110) [.ref 82, .int a1, .int a2, .int a3, .int a4, .int a5, .int a6, .int a7, .null] [] s Q := by
  unfold v_62_110 at h
  refine zn_ld rfl rfl rfl ?_
  refine zn_c [.int 59, .ref 82] (xo_push (.int 59)) rfl rfl ?_
  refine zn_zt [.ref 82, .int 59] [] rfl rfl rfl rfl rfl (Zt.imp h (fun v1 s2 h => ?_))
  obtain ⟨rfl, h⟩ := h
  change Zn _ _ _ _ _ _ _ _ _ _ _ [] _ _
  replace h := h _ (i_add (x := a6) (y := 1) rfl (show (1 : Int32).toInt = 1 by decide))
  refine zn_inc [.ref 82, .int a1, .int a2, .int a3, .int a4, .int a5, .int (a6 + 1), .int a7, .null] rfl rfl rfl rfl ?_
  refine zn_go rfl ?_
  refine zn_fg 7 ?_
  exact r67 a1 a2 a3 a4 a5 (a6 + 1) s2 h
set_option maxRecDepth 20000 in
theorem m_62_91_3 {d d0 : Nat} (hd : d = d0 + 8) {R67 : Int32 → Int32 → Int32 → Int32 → Int32 → Int32 → zS → Prop} {a1 : Int32} {a2 : Int32} {a3 : Int32} {a4 : Int32} {a5 : Int32} {a6 : Int32} {a7 : Int32} {t1 : Int32} {s : zS} {Q : Option Value → zS → Prop} (r67 : ∀ a1 a2 a3 a4 a5 a6 s, R67 a1 a2 a3 a4 a5 a6 s → Zn d [] [(3, 99), (3, 98)] ([(82, 0, 3), (82, 1, 4), (82, 2, 7)] : zW) ([(82, 0, 3), (82, 1, 4), (82, 2, 7)] : zW) xL_5 8 (none) xE_62 (xE_62.drop 67) [.ref 82, .int a1, .int a2, .int a3, .int a4, .int a5, .int a6, .null, .null] [] s Q) (h : v_62_91 (fun j => Zt d (wd 3 j) j) 3 R67 a1 a2 a3 a4 a5 a6 a7 t1 s Q) : Zn d [] [(3, 99), (3, 98)] ([(82, 0, 3), (82, 1, 4), (82, 2, 7)] : zW) ([(82, 0, 3), (82, 1, 4), (82, 2, 7)] : zW) xL_5 8 (none) xE_62 (xE_62.drop 91) [.ref 82, .int a1, .int a2, .int a3, .int a4, .int a5, .int a6, .int a7, .null] [.int t1, .ref 82] s Q := by
  unfold v_62_91 at h
  refine zn_zt [.ref 82, .int t1] [] rfl rfl rfl rfl rfl (Zt.imp h (fun v1 s2 h => ?_))
  obtain ⟨rfl, h⟩ := h
  change Zn _ _ _ _ _ _ _ _ _ _ _ [] _ _
  refine zn_ld rfl rfl rfl ?_
  refine zn_brP rfl rfl ⟨fun hcn => ?_, fun hcn => ?_⟩
  · replace h := h.1 ((i_eq (x := a4) (y := 0) rfl (show (0 : Int32).toInt = 0 by decide)).mp hcn)
    refine zn_ld rfl rfl rfl ?_
    refine zn_ld rfl rfl rfl ?_
    refine zn_zt [.ref 82, .int a7] [] rfl rfl rfl rfl rfl (Zt.imp h (fun v3 s4 h => ?_))
    obtain ⟨rfl, h⟩ := h
    change Zn _ _ _ _ _ _ _ _ _ _ _ [] _ _
    exact m_62_110_3 hd r67 h
  · replace h := h.2 (fun q => hcn ((i_eq (x := a4) (y := 0) rfl (show (0 : Int32).toInt = 0 by decide)).mpr q))
    refine zn_ld rfl rfl rfl ?_
    refine zn_get (v := .ref 3) rfl (zv_C (a := 82) (n := 0) rfl rfl rfl) ?_
    refine zn_ld rfl rfl rfl ?_
    refine zn_c [.int 2, .int a7, .ref 3] (xo_push (.int 2)) rfl rfl ?_
    refine zn_ld rfl rfl rfl ?_
    refine zn_get (v := .int (s2.1 82 3)) rfl (zv_I (a := 82) rfl rfl) ?_
    refine zn_c [.int (-1), .int (s2.1 82 3), .int 2, .int a7, .ref 3] (xo_push (.int (-1))) rfl rfl ?_
    refine zn_zt [.ref 3, .int a7, .int 2, .int (s2.1 82 3), .int (-1)] [] rfl rfl rfl rfl rfl (Zt.imp h (fun v5 s6 h => ?_))
    obtain ⟨rfl, h⟩ := h
    change Zn _ _ _ _ _ _ _ _ _ _ _ [] _ _
    refine zn_ld rfl rfl rfl ?_
    refine zn_c [.int 1, .ref 82] (xo_push (.int 1)) rfl rfl ?_
    refine zn_c [.int 0, .int 1, .ref 82] (xo_push (.int 0)) rfl rfl ?_
    refine zn_zt [.ref 82, .int 1, .int 0] [] rfl rfl rfl rfl rfl (Zt.imp h (fun v7 s8 h => ?_))
    obtain ⟨rfl, h⟩ := h
    change Zn _ _ _ _ _ _ _ _ _ _ _ [] _ _
    refine zn_go rfl ?_
    exact m_62_110_3 hd r67 h
set_option maxRecDepth 20000 in
theorem m_62_67_3 {d d0 : Nat} (hd : d = d0 + 8) {R67 : Int32 → Int32 → Int32 → Int32 → Int32 → Int32 → zS → Prop} {a1 : Int32} {a2 : Int32} {a3 : Int32} {a4 : Int32} {a5 : Int32} {a6 : Int32} {s : zS} {Q : Option Value → zS → Prop} (r67 : ∀ a1 a2 a3 a4 a5 a6 s, R67 a1 a2 a3 a4 a5 a6 s → Zn d [] [(3, 99), (3, 98)] ([(82, 0, 3), (82, 1, 4), (82, 2, 7)] : zW) ([(82, 0, 3), (82, 1, 4), (82, 2, 7)] : zW) xL_5 8 (none) xE_62 (xE_62.drop 67) [.ref 82, .int a1, .int a2, .int a3, .int a4, .int a5, .int a6, .null, .null] [] s Q) (h : v_62_67 (fun j => Zt d (wd 3 j) j) 3 R67 a1 a2 a3 a4 a5 a6 s Q) : Zn d [] [(3, 99), (3, 98)] ([(82, 0, 3), (82, 1, 4), (82, 2, 7)] : zW) ([(82, 0, 3), (82, 1, 4), (82, 2, 7)] : zW) xL_5 8 (none) xE_62 (xE_62.drop 67) [.ref 82, .int a1, .int a2, .int a3, .int a4, .int a5, .int a6, .null, .null] [] s Q := by
  unfold v_62_67 at h
  refine zn_ld rfl rfl rfl ?_
  refine zn_c [.int 6, .int a6] (xo_push (.int 6)) rfl rfl ?_
  refine zn_brP rfl rfl ⟨fun hcn => ?_, fun hcn => ?_⟩
  · replace h := h.1 ((i_lt (x := 6) (y := a6) (show (6 : Int32).toInt = 6 by decide) rfl).mp hcn)
    exact m_62_115_3 hd  h
  · replace h := h.2 (fun q => hcn ((i_lt (x := 6) (y := a6) (show (6 : Int32).toInt = 6 by decide) rfl).mpr q))
    refine zn_ld rfl rfl rfl ?_
    refine zn_get (v := .ref 3) rfl (zv_C (a := 82) (n := 0) rfl rfl rfl) ?_
    refine zn_get (v := .int (s.1 3 14)) rfl (zv_I (a := 3) rfl rfl) ?_
    refine zn_brN rfl rfl ⟨fun hcn => ?_, fun hcn => ?_⟩
    · replace h := h.1 (fun q => hcn ((i_eq (x := s.1 3 14) (y := 0) rfl (show (0 : Int32).toInt = 0 by decide)).mpr q))
      exact m_62_115_3 hd  h
    · replace h := h.2 ((i_eq (x := s.1 3 14) (y := 0) rfl (show (0 : Int32).toInt = 0 by decide)).mp hcn)
      refine zn_ld rfl rfl rfl ?_
      refine zn_get (v := .ref 7) rfl (zv_C (a := 82) (n := 2) rfl rfl rfl) ?_
      refine zn_ld rfl rfl rfl ?_
      refine zn_get (v := .int (s.1 82 3)) rfl (zv_I (a := 82) rfl rfl) ?_
      refine zn_row (s.1 82 3) [] (a := 7) hd rfl rfl rfl rfl ?_
      change Zn _ _ _ _ _ _ _ _ _ _ _ [.int (zg s 7 (s.1 82 3))] _ _
      refine zn_c [.int 125, .int (zg s 7 (s.1 82 3))] (xo_push (.int 125)) rfl rfl ?_
      refine zn_brP rfl rfl ⟨fun hcn => ?_, fun hcn => ?_⟩
      · replace h := h.1 ((i_eq (x := zg s 7 (s.1 82 3)) (y := 125) rfl (show (125 : Int32).toInt = 125 by decide)).mp hcn)
        exact m_62_115_3 hd  h
      · replace h := h.2 (fun q => hcn ((i_eq (x := zg s 7 (s.1 82 3)) (y := 125) rfl (show (125 : Int32).toInt = 125 by decide)).mpr q))
        refine zn_ld rfl rfl rfl ?_
        refine zn_get (v := .int (s.1 82 3)) rfl (zv_I (a := 82) rfl rfl) ?_
        refine zn_st [.ref 82, .int a1, .int a2, .int a3, .int a4, .int a5, .int a6, .int (s.1 82 3), .null] rfl rfl rfl ?_
        refine zn_ld rfl rfl rfl ?_
        refine zn_ld rfl rfl rfl ?_
        refine zn_c [.int 6, .int a6, .ref 82] (xo_push (.int 6)) rfl rfl ?_
        refine zn_brP rfl rfl ⟨fun hcn => ?_, fun hcn => ?_⟩
        · replace h := h.1 ((i_lt (x := a6) (y := 6) rfl (show (6 : Int32).toInt = 6 by decide)).mp hcn)
          refine zn_c [.int 0, .ref 82] (xo_push (.int 0)) rfl rfl ?_
          exact m_62_91_3 hd r67 h
        · replace h := h.2 (fun q => hcn ((i_lt (x := a6) (y := 6) rfl (show (6 : Int32).toInt = 6 by decide)).mpr q))
          refine zn_c [.int 1, .ref 82] (xo_push (.int 1)) rfl rfl ?_
          refine zn_go rfl ?_
          exact m_62_91_3 hd r67 h
theorem ml_62_67_3 {d d0 : Nat} (hd : d = d0 + 8)  {a1 : Int32} {a2 : Int32} {a3 : Int32} {a4 : Int32} {a5 : Int32} {a6 : Int32} {s : zS} {Q : Option Value → zS → Prop}  (h : vl_62_67 (fun j => Zt d (wd 3 j) j) 3  a1 a2 a3 a4 a5 a6 s Q) : Zn d [] [(3, 99), (3, 98)] ([(82, 0, 3), (82, 1, 4), (82, 2, 7)] : zW) ([(82, 0, 3), (82, 1, 4), (82, 2, 7)] : zW) xL_5 8 (none) xE_62 (xE_62.drop 67) [.ref 82, .int a1, .int a2, .int a3, .int a4, .int a5, .int a6, .null, .null] [] s Q := by
  obtain ⟨I, μ, h0, h1⟩ := h
  have key : ∀ (n : Nat) (a1 : Int32) (a2 : Int32) (a3 : Int32) (a4 : Int32) (a5 : Int32) (a6 : Int32) (s : zS), μ a1 a2 a3 a4 a5 a6 s = n → I a1 a2 a3 a4 a5 a6 s → Zn d [] [(3, 99), (3, 98)] ([(82, 0, 3), (82, 1, 4), (82, 2, 7)] : zW) ([(82, 0, 3), (82, 1, 4), (82, 2, 7)] : zW) xL_5 8 (none) xE_62 (xE_62.drop 67) [.ref 82, .int a1, .int a2, .int a3, .int a4, .int a5, .int a6, .null, .null] [] s Q := by
    intro n
    induction n using Nat.strongRecOn with
    | ind n ih =>
      intro a1 a2 a3 a4 a5 a6 s e hI
      exact m_62_67_3 hd (fun a1' a2' a3' a4' a5' a6' s' q => ih _ (by rw [← e]; exact q.2) a1' a2' a3' a4' a5' a6' s' rfl q.1) (h1 a1 a2 a3 a4 a5 a6 s hI)
  exact key _ a1 a2 a3 a4 a5 a6 s rfl h0
set_option maxRecDepth 20000 in
theorem m_62_64_3 {d d0 : Nat} (hd : d = d0 + 8)  {a1 : Int32} {a2 : Int32} {a3 : Int32} {a4 : Int32} {t0 : Int32} {s : zS} {Q : Option Value → zS → Prop}  (h : v_62_64 (fun j => Zt d (wd 3 j) j) 3  a1 a2 a3 a4 t0 s Q) : Zn d [] [(3, 99), (3, 98)] ([(82, 0, 3), (82, 1, 4), (82, 2, 7)] : zW) ([(82, 0, 3), (82, 1, 4), (82, 2, 7)] : zW) xL_5 8 (none) xE_62 (xE_62.drop 64) [.ref 82, .int a1, .int a2, .int a3, .int a4, .null, .null, .null, .null] [.int t0] s Q := by
  unfold v_62_64 at h
  refine zn_st [.ref 82, .int a1, .int a2, .int a3, .int a4, .int t0, .null, .null, .null] rfl rfl rfl ?_
  refine zn_c [.int 0] (xo_push (.int 0)) rfl rfl ?_
  refine zn_st [.ref 82, .int a1, .int a2, .int a3, .int a4, .int t0, .int 0, .null, .null] rfl rfl rfl ?_
  exact ml_62_67_3 hd  h
set_option maxRecDepth 20000 in
theorem m_62_52_3 {d d0 : Nat} (hd : d = d0 + 8)  {a1 : Int32} {a2 : Int32} {a3 : Int32} {a4 : Int32} {s : zS} {Q : Option Value → zS → Prop}  (h : v_62_52 (fun j => Zt d (wd 3 j) j) 3  a1 a2 a3 a4 s Q) : Zn d [] [(3, 99), (3, 98)] ([(82, 0, 3), (82, 1, 4), (82, 2, 7)] : zW) ([(82, 0, 3), (82, 1, 4), (82, 2, 7)] : zW) xL_5 8 (none) xE_62 (xE_62.drop 52) [.ref 82, .int a1, .int a2, .int a3, .int a4, .null, .null, .null, .null] [] s Q := by
  unfold v_62_52 at h
  refine zn_ld rfl rfl rfl ?_
  refine zn_c [.int 123, .ref 82] (xo_push (.int 123)) rfl rfl ?_
  refine zn_zt [.ref 82, .int 123] [] rfl rfl rfl rfl rfl (Zt.imp h (fun v1 s2 h => ?_))
  obtain ⟨rfl, h⟩ := h
  change Zn _ _ _ _ _ _ _ _ _ _ _ [] _ _
  refine zn_ld rfl rfl rfl ?_
  refine zn_brP rfl rfl ⟨fun hcn => ?_, fun hcn => ?_⟩
  · replace h := h.1 ((i_eq (x := a4) (y := 0) rfl (show (0 : Int32).toInt = 0 by decide)).mp hcn)
    refine zn_ld rfl rfl rfl ?_
    refine zn_get (v := .ref 3) rfl (zv_C (a := 82) (n := 0) rfl rfl rfl) ?_
    refine zn_zt [.ref 3] [] (c := []) rfl rfl rfl rfl rfl (Zt.imp (zp_46 hd (Or.inl rfl)) (fun vq sq hq => ?_))
    obtain ⟨rfl, hq⟩ := hq
    rw [hq]
    change Zn _ _ _ _ _ _ _ _ _ _ _ [.int (s2.1 31 2 / 5)] _ _
    exact m_62_64_3 hd  h
  · replace h := h.2 (fun q => hcn ((i_eq (x := a4) (y := 0) rfl (show (0 : Int32).toInt = 0 by decide)).mpr q))
    refine zn_ld rfl rfl rfl ?_
    refine zn_get (v := .ref 3) rfl (zv_C (a := 82) (n := 0) rfl rfl rfl) ?_
    refine zn_zt [.ref 3] [] (c := []) rfl rfl rfl rfl rfl (Zt.imp (zp_47 hd (Or.inl rfl)) (fun vq sq hq => ?_))
    obtain ⟨rfl, hq⟩ := hq
    rw [hq]
    change Zn _ _ _ _ _ _ _ _ _ _ _ [.int (s2.1 33 2 / 5)] _ _
    refine zn_go rfl ?_
    exact m_62_64_3 hd  h
set_option maxRecDepth 20000 in
theorem m_62_42_3 {d d0 : Nat} (hd : d = d0 + 8)  {a1 : Int32} {a2 : Int32} {t0 : Int32} {s : zS} {Q : Option Value → zS → Prop}  (h : v_62_42 (fun j => Zt d (wd 3 j) j) 3  a1 a2 t0 s Q) : Zn d [] [(3, 99), (3, 98)] ([(82, 0, 3), (82, 1, 4), (82, 2, 7)] : zW) ([(82, 0, 3), (82, 1, 4), (82, 2, 7)] : zW) xL_5 8 (none) xE_62 (xE_62.drop 42) [.ref 82, .int a1, .int a2, .null, .null, .null, .null, .null, .null] [.int t0] s Q := by
  unfold v_62_42 at h
  refine zn_st [.ref 82, .int a1, .int a2, .int t0, .null, .null, .null, .null, .null] rfl rfl rfl ?_
  refine zn_ld rfl rfl rfl ?_
  refine zn_c [.int 4, .ref 82] (xo_push (.int 4)) rfl rfl ?_
  refine zn_zt [.ref 82, .int 4] [] rfl rfl rfl rfl rfl (Zt.imp h (fun v1 s2 h => ?_))
  obtain ⟨x3, rfl, h⟩ := h
  change Zn _ _ _ _ _ _ _ _ _ _ _ [.int x3] _ _
  refine zn_st [.ref 82, .int a1, .int a2, .int t0, .int x3, .null, .null, .null, .null] rfl rfl rfl ?_
  refine zn_ld rfl rfl rfl ?_
  refine zn_brN rfl rfl ⟨fun hcn => ?_, fun hcn => ?_⟩
  · replace h := h.1 (fun q => hcn ((i_eq (x := x3) (y := 0) rfl (show (0 : Int32).toInt = 0 by decide)).mpr q))
    exact m_62_52_3 hd  h
  · replace h := h.2 ((i_eq (x := x3) (y := 0) rfl (show (0 : Int32).toInt = 0 by decide)).mp hcn)
    refine zn_ld rfl rfl rfl ?_
    refine zn_c [.int 5, .ref 82] (xo_push (.int 5)) rfl rfl ?_
    refine zn_zt [.ref 82, .int 5] [] rfl rfl rfl rfl rfl (Zt.imp h (fun v4 s5 h => ?_))
    obtain ⟨rfl, h⟩ := h
    change Zn _ _ _ _ _ _ _ _ _ _ _ [] _ _
    exact m_62_52_3 hd  h
set_option maxRecDepth 20000 in
theorem m_62_18_3 {d d0 : Nat} (hd : d = d0 + 8)   {s : zS} {Q : Option Value → zS → Prop}  (h : v_62_18 (fun j => Zt d (wd 3 j) j) 3   s Q) : Zn d [] [(3, 99), (3, 98)] ([(82, 0, 3), (82, 1, 4), (82, 2, 7)] : zW) ([(82, 0, 3), (82, 1, 4), (82, 2, 7)] : zW) xL_5 8 (none) xE_62 (xE_62.drop 18) [.ref 82, .null, .null, .null, .null, .null, .null, .null, .null] [] s Q := by
  unfold v_62_18 at h
  refine zn_ld rfl rfl rfl ?_
  refine zn_c [.int 3, .ref 82] (xo_push (.int 3)) rfl rfl ?_
  refine zn_zt [.ref 82, .int 3] [] rfl rfl rfl rfl rfl (Zt.imp h (fun v1 s2 h => ?_))
  obtain ⟨rfl, h⟩ := h
  change Zn _ _ _ _ _ _ _ _ _ _ _ [] _ _
  refine zn_ld rfl rfl rfl ?_
  refine zn_get (v := .ref 3) rfl (zv_C (a := 82) (n := 0) rfl rfl rfl) ?_
  refine zn_zt [.ref 3] [] (c := []) rfl rfl rfl rfl rfl (Zt.imp (zp_47 hd (Or.inl rfl)) (fun vq sq hq => ?_))
  obtain ⟨rfl, hq⟩ := hq
  rw [hq]
  change Zn _ _ _ _ _ _ _ _ _ _ _ [.int (s2.1 33 2 / 5)] _ _
  refine zn_st [.ref 82, .int (s2.1 33 2 / 5), .null, .null, .null, .null, .null, .null, .null] rfl rfl rfl ?_
  refine zn_ld rfl rfl rfl ?_
  refine zn_get (v := .int (s2.1 82 3)) rfl (zv_I (a := 82) rfl rfl) ?_
  refine zn_st [.ref 82, .int (s2.1 33 2 / 5), .int (s2.1 82 3), .null, .null, .null, .null, .null, .null] rfl rfl rfl ?_
  refine zn_ld rfl rfl rfl ?_
  refine zn_c [.int 1, .ref 82] (xo_push (.int 1)) rfl rfl ?_
  refine zn_zt [.ref 82, .int 1] [] rfl rfl rfl rfl rfl (Zt.imp h (fun v3 s4 h => ?_))
  obtain ⟨rfl, h⟩ := h
  change Zn _ _ _ _ _ _ _ _ _ _ _ [] _ _
  refine zn_ld rfl rfl rfl ?_
  refine zn_c [.int 91, .ref 82] (xo_push (.int 91)) rfl rfl ?_
  refine zn_zt [.ref 82, .int 91] [] rfl rfl rfl rfl rfl (Zt.imp h (fun v5 s6 h => ?_))
  obtain ⟨x7, rfl, h⟩ := h
  change Zn _ _ _ _ _ _ _ _ _ _ _ [.int x7] _ _
  refine zn_brP rfl rfl ⟨fun hcn => ?_, fun hcn => ?_⟩
  · replace h := h.1 ((i_eq (x := x7) (y := 0) rfl (show (0 : Int32).toInt = 0 by decide)).mp hcn)
    refine zn_c [.int 0] (xo_push (.int 0)) rfl rfl ?_
    exact m_62_42_3 hd  h
  · replace h := h.2 (fun q => hcn ((i_eq (x := x7) (y := 0) rfl (show (0 : Int32).toInt = 0 by decide)).mpr q))
    refine zn_ld rfl rfl rfl ?_
    refine zn_c [.int 93, .ref 82] (xo_push (.int 93)) rfl rfl ?_
    refine zn_c [.int 0, .int 93, .ref 82] (xo_push (.int 0)) rfl rfl ?_
    refine zn_c [.int (-1), .int 0, .int 93, .ref 82] (xo_push (.int (-1))) rfl rfl ?_
    refine zn_zt [.ref 82, .int 93, .int 0, .int (-1)] [] rfl rfl rfl rfl rfl (Zt.imp h (fun v8 s9 h => ?_))
    obtain ⟨x10, rfl, h⟩ := h
    change Zn _ _ _ _ _ _ _ _ _ _ _ [.int x10] _ _
    refine zn_go rfl ?_
    exact m_62_42_3 hd  h
set_option maxRecDepth 20000 in
theorem m_62_0_3 {d d0 : Nat} (hd : d = d0 + 8)   {s : zS} {Q : Option Value → zS → Prop}  (h : v_62_0 (fun j => Zt d (wd 3 j) j) 3   s Q) : Zn d [] [(3, 99), (3, 98)] ([(82, 0, 3), (82, 1, 4), (82, 2, 7)] : zW) ([(82, 0, 3), (82, 1, 4), (82, 2, 7)] : zW) xL_5 8 (none) xE_62 (xE_62.drop 0) [.ref 82, .null, .null, .null, .null, .null, .null, .null, .null] [] s Q := by
  unfold v_62_0 at h
  refine zn_ld rfl rfl rfl ?_
  refine zn_get (v := .ref 7) rfl (zv_C (a := 82) (n := 2) rfl rfl rfl) ?_
  refine zn_ld rfl rfl rfl ?_
  refine zn_get (v := .int (s.1 82 3)) rfl (zv_I (a := 82) rfl rfl) ?_
  refine zn_row (s.1 82 3) [] (a := 7) hd rfl rfl rfl rfl ?_
  change Zn _ _ _ _ _ _ _ _ _ _ _ [.int (zg s 7 (s.1 82 3))] _ _
  refine zn_c [.int 3, .int (zg s 7 (s.1 82 3))] (xo_push (.int 3)) rfl rfl ?_
  refine zn_brN rfl rfl ⟨fun hcn => ?_, fun hcn => ?_⟩
  · replace h := h.1 (fun q => hcn ((i_eq (x := zg s 7 (s.1 82 3)) (y := 3) rfl (show (3 : Int32).toInt = 3 by decide)).mpr q))
    exact m_62_18_3 hd  h
  · replace h := h.2 ((i_eq (x := zg s 7 (s.1 82 3)) (y := 3) rfl (show (3 : Int32).toInt = 3 by decide)).mp hcn)
    refine zn_ld rfl rfl rfl ?_
    refine zn_get (v := .ref 3) rfl (zv_C (a := 82) (n := 0) rfl rfl rfl) ?_
    refine zn_zt [.ref 3] [] (c := []) rfl rfl rfl rfl rfl (Zt.imp (zp_44 hd (Or.inl rfl)) (fun vq sq hq => ?_))
    obtain ⟨rfl, hq⟩ := hq
    rw [hq]
    change Zn _ _ _ _ _ _ _ _ _ _ _ [.int (s.1 27 2 / 6)] _ _
    refine zn_c [.int 24, .int (s.1 27 2 / 6)] (xo_push (.int 24)) rfl rfl ?_
    refine zn_brP rfl rfl ⟨fun hcn => ?_, fun hcn => ?_⟩
    · replace h := h.1 ((i_lt (x := s.1 27 2 / 6) (y := 24) rfl (show (24 : Int32).toInt = 24 by decide)).mp hcn)
      exact m_62_18_3 hd  h
    · replace h := h.2 (fun q => hcn ((i_lt (x := s.1 27 2 / 6) (y := 24) rfl (show (24 : Int32).toInt = 24 by decide)).mpr q))
      refine zn_ld rfl rfl rfl ?_
      refine zn_get (v := .ref 3) rfl (zv_C (a := 82) (n := 0) rfl rfl rfl) ?_
      refine zn_c [.int 5, .ref 3] (xo_push (.int 5)) rfl rfl ?_
      refine zn_ld rfl rfl rfl ?_
      refine zn_get (v := .int (s.1 82 3)) rfl (zv_I (a := 82) rfl rfl) ?_
      refine zn_zt [.ref 3, .int 5, .int (s.1 82 3)] [] rfl rfl rfl rfl rfl (Zt.imp h (fun v1 s2 h => ?_))
      obtain ⟨rfl, h⟩ := h
      change Zn _ _ _ _ _ _ _ _ _ _ _ [] _ _
      exact m_62_18_3 hd  h
theorem zq_62_3 {d : Nat}  {s : zS} {Q : Option Value → zS → Prop} (h : v_62_0 (fun j => Zt (d + 8) (wd 3 j) j) 3  s Q) : Zt (d + 9) ([(82, 0, 3), (82, 1, 4), (82, 2, 7)] : zW) 62 [.ref 82] s Q := zt_of (E := xE_62) (L := xL_5) (ml := 8) (ret := none) rfl rfl rfl (m_62_0_3 rfl h)
set_option maxRecDepth 20000 in
theorem m_62_126_39 {d d0 : Nat} (hd : d = d0 + 8)  {a1 : Int32} {a2 : Int32} {a3 : Int32} {a4 : Int32} {a5 : Int32} {a6 : Int32} {t1 : Int32} {t2 : Int32} {s : zS} {Q : Option Value → zS → Prop}  (h : v_62_126 (fun j => Zt d (wd 39 j) j) 39  a1 a2 a3 a4 a5 a6 t1 t2 s Q) : Zn d [] [(39, 99), (39, 98)] ([(82, 0, 39), (82, 1, 40), (82, 2, 43)] : zW) ([(82, 0, 39), (82, 1, 40), (82, 2, 43)] : zW) xL_5 8 (none) xE_62 (xE_62.drop 126) [.ref 82, .int a1, .int a2, .int a3, .int a4, .int a5, .int a6, .null, .null] [.int t2, .int t1, .ref 39] s Q := by
  unfold v_62_126 at h
  refine zn_ld rfl rfl rfl ?_
  refine zn_ld rfl rfl rfl ?_
  refine zn_ld rfl rfl rfl ?_
  refine zn_ld rfl rfl rfl ?_
  refine zn_zt [.ref 39, .int t1, .int t2, .int a1, .int a3, .int a5, .int a6] [] rfl rfl rfl rfl rfl (Zt.imp h (fun v1 s2 h => ?_))
  obtain ⟨rfl, h⟩ := h
  change Zn _ _ _ _ _ _ _ _ _ _ _ [] _ _
  exact zn_ret0 rfl h
set_option maxRecDepth 20000 in
theorem m_62_115_39 {d d0 : Nat} (hd : d = d0 + 8)  {a1 : Int32} {a2 : Int32} {a3 : Int32} {a4 : Int32} {a5 : Int32} {a6 : Int32} {s : zS} {Q : Option Value → zS → Prop}  (h : v_62_115 (fun j => Zt d (wd 39 j) j) 39  a1 a2 a3 a4 a5 a6 s Q) : Zn d [] [(39, 99), (39, 98)] ([(82, 0, 39), (82, 1, 40), (82, 2, 43)] : zW) ([(82, 0, 39), (82, 1, 40), (82, 2, 43)] : zW) xL_5 8 (none) xE_62 (xE_62.drop 115) [.ref 82, .int a1, .int a2, .int a3, .int a4, .int a5, .int a6, .null, .null] [] s Q := by
  unfold v_62_115 at h
  refine zn_ld rfl rfl rfl ?_
  refine zn_c [.int 125, .ref 82] (xo_push (.int 125)) rfl rfl ?_
  refine zn_zt [.ref 82, .int 125] [] rfl rfl rfl rfl rfl (Zt.imp h (fun v1 s2 h => ?_))
  obtain ⟨rfl, h⟩ := h
  change Zn _ _ _ _ _ _ _ _ _ _ _ [] _ _
  refine zn_ld rfl rfl rfl ?_
  refine zn_get (v := .ref 39) rfl (zv_C (a := 82) (n := 0) rfl rfl rfl) ?_
  refine zn_ld rfl rfl rfl ?_
  refine zn_ld rfl rfl rfl ?_
  refine zn_brP rfl rfl ⟨fun hcn => ?_, fun hcn => ?_⟩
  · replace h := h.1 ((i_eq (x := a4) (y := 0) rfl (show (0 : Int32).toInt = 0 by decide)).mp hcn)
    refine zn_c [.int 5, .int a2, .ref 39] (xo_push (.int 5)) rfl rfl ?_
    exact m_62_126_39 hd  h
  · replace h := h.2 (fun q => hcn ((i_eq (x := a4) (y := 0) rfl (show (0 : Int32).toInt = 0 by decide)).mpr q))
    refine zn_c [.int 4, .int a2, .ref 39] (xo_push (.int 4)) rfl rfl ?_
    refine zn_go rfl ?_
    exact m_62_126_39 hd  h
set_option maxRecDepth 20000 in
theorem m_62_110_39 {d d0 : Nat} (hd : d = d0 + 8) {R67 : Int32 → Int32 → Int32 → Int32 → Int32 → Int32 → zS → Prop} {a1 : Int32} {a2 : Int32} {a3 : Int32} {a4 : Int32} {a5 : Int32} {a6 : Int32} {a7 : Int32} {s : zS} {Q : Option Value → zS → Prop} (r67 : ∀ a1 a2 a3 a4 a5 a6 s, R67 a1 a2 a3 a4 a5 a6 s → Zn d [] [(39, 99), (39, 98)] ([(82, 0, 39), (82, 1, 40), (82, 2, 43)] : zW) ([(82, 0, 39), (82, 1, 40), (82, 2, 43)] : zW) xL_5 8 (none) xE_62 (xE_62.drop 67) [.ref 82, .int a1, .int a2, .int a3, .int a4, .int a5, .int a6, .null, .null] [] s Q) (h : v_62_110 (fun j => Zt d (wd 39 j) j) 39 R67 a1 a2 a3 a4 a5 a6 a7 s Q) : Zn d [] [(39, 99), (39, 98)] ([(82, 0, 39), (82, 1, 40), (82, 2, 43)] : zW) ([(82, 0, 39), (82, 1, 40), (82, 2, 43)] : zW) xL_5 8 (none) xE_62 (xE_62.drop 110) [.ref 82, .int a1, .int a2, .int a3, .int a4, .int a5, .int a6, .int a7, .null] [] s Q := by
  unfold v_62_110 at h
  refine zn_ld rfl rfl rfl ?_
  refine zn_c [.int 59, .ref 82] (xo_push (.int 59)) rfl rfl ?_
  refine zn_zt [.ref 82, .int 59] [] rfl rfl rfl rfl rfl (Zt.imp h (fun v1 s2 h => ?_))
  obtain ⟨rfl, h⟩ := h
  change Zn _ _ _ _ _ _ _ _ _ _ _ [] _ _
  replace h := h _ (i_add (x := a6) (y := 1) rfl (show (1 : Int32).toInt = 1 by decide))
  refine zn_inc [.ref 82, .int a1, .int a2, .int a3, .int a4, .int a5, .int (a6 + 1), .int a7, .null] rfl rfl rfl rfl ?_
  refine zn_go rfl ?_
  refine zn_fg 7 ?_
  exact r67 a1 a2 a3 a4 a5 (a6 + 1) s2 h
set_option maxRecDepth 20000 in
theorem m_62_91_39 {d d0 : Nat} (hd : d = d0 + 8) {R67 : Int32 → Int32 → Int32 → Int32 → Int32 → Int32 → zS → Prop} {a1 : Int32} {a2 : Int32} {a3 : Int32} {a4 : Int32} {a5 : Int32} {a6 : Int32} {a7 : Int32} {t1 : Int32} {s : zS} {Q : Option Value → zS → Prop} (r67 : ∀ a1 a2 a3 a4 a5 a6 s, R67 a1 a2 a3 a4 a5 a6 s → Zn d [] [(39, 99), (39, 98)] ([(82, 0, 39), (82, 1, 40), (82, 2, 43)] : zW) ([(82, 0, 39), (82, 1, 40), (82, 2, 43)] : zW) xL_5 8 (none) xE_62 (xE_62.drop 67) [.ref 82, .int a1, .int a2, .int a3, .int a4, .int a5, .int a6, .null, .null] [] s Q) (h : v_62_91 (fun j => Zt d (wd 39 j) j) 39 R67 a1 a2 a3 a4 a5 a6 a7 t1 s Q) : Zn d [] [(39, 99), (39, 98)] ([(82, 0, 39), (82, 1, 40), (82, 2, 43)] : zW) ([(82, 0, 39), (82, 1, 40), (82, 2, 43)] : zW) xL_5 8 (none) xE_62 (xE_62.drop 91) [.ref 82, .int a1, .int a2, .int a3, .int a4, .int a5, .int a6, .int a7, .null] [.int t1, .ref 82] s Q := by
  unfold v_62_91 at h
  refine zn_zt [.ref 82, .int t1] [] rfl rfl rfl rfl rfl (Zt.imp h (fun v1 s2 h => ?_))
  obtain ⟨rfl, h⟩ := h
  change Zn _ _ _ _ _ _ _ _ _ _ _ [] _ _
  refine zn_ld rfl rfl rfl ?_
  refine zn_brP rfl rfl ⟨fun hcn => ?_, fun hcn => ?_⟩
  · replace h := h.1 ((i_eq (x := a4) (y := 0) rfl (show (0 : Int32).toInt = 0 by decide)).mp hcn)
    refine zn_ld rfl rfl rfl ?_
    refine zn_ld rfl rfl rfl ?_
    refine zn_zt [.ref 82, .int a7] [] rfl rfl rfl rfl rfl (Zt.imp h (fun v3 s4 h => ?_))
    obtain ⟨rfl, h⟩ := h
    change Zn _ _ _ _ _ _ _ _ _ _ _ [] _ _
    exact m_62_110_39 hd r67 h
  · replace h := h.2 (fun q => hcn ((i_eq (x := a4) (y := 0) rfl (show (0 : Int32).toInt = 0 by decide)).mpr q))
    refine zn_ld rfl rfl rfl ?_
    refine zn_get (v := .ref 39) rfl (zv_C (a := 82) (n := 0) rfl rfl rfl) ?_
    refine zn_ld rfl rfl rfl ?_
    refine zn_c [.int 2, .int a7, .ref 39] (xo_push (.int 2)) rfl rfl ?_
    refine zn_ld rfl rfl rfl ?_
    refine zn_get (v := .int (s2.1 82 3)) rfl (zv_I (a := 82) rfl rfl) ?_
    refine zn_c [.int (-1), .int (s2.1 82 3), .int 2, .int a7, .ref 39] (xo_push (.int (-1))) rfl rfl ?_
    refine zn_zt [.ref 39, .int a7, .int 2, .int (s2.1 82 3), .int (-1)] [] rfl rfl rfl rfl rfl (Zt.imp h (fun v5 s6 h => ?_))
    obtain ⟨rfl, h⟩ := h
    change Zn _ _ _ _ _ _ _ _ _ _ _ [] _ _
    refine zn_ld rfl rfl rfl ?_
    refine zn_c [.int 1, .ref 82] (xo_push (.int 1)) rfl rfl ?_
    refine zn_c [.int 0, .int 1, .ref 82] (xo_push (.int 0)) rfl rfl ?_
    refine zn_zt [.ref 82, .int 1, .int 0] [] rfl rfl rfl rfl rfl (Zt.imp h (fun v7 s8 h => ?_))
    obtain ⟨rfl, h⟩ := h
    change Zn _ _ _ _ _ _ _ _ _ _ _ [] _ _
    refine zn_go rfl ?_
    exact m_62_110_39 hd r67 h
set_option maxRecDepth 20000 in
theorem m_62_67_39 {d d0 : Nat} (hd : d = d0 + 8) {R67 : Int32 → Int32 → Int32 → Int32 → Int32 → Int32 → zS → Prop} {a1 : Int32} {a2 : Int32} {a3 : Int32} {a4 : Int32} {a5 : Int32} {a6 : Int32} {s : zS} {Q : Option Value → zS → Prop} (r67 : ∀ a1 a2 a3 a4 a5 a6 s, R67 a1 a2 a3 a4 a5 a6 s → Zn d [] [(39, 99), (39, 98)] ([(82, 0, 39), (82, 1, 40), (82, 2, 43)] : zW) ([(82, 0, 39), (82, 1, 40), (82, 2, 43)] : zW) xL_5 8 (none) xE_62 (xE_62.drop 67) [.ref 82, .int a1, .int a2, .int a3, .int a4, .int a5, .int a6, .null, .null] [] s Q) (h : v_62_67 (fun j => Zt d (wd 39 j) j) 39 R67 a1 a2 a3 a4 a5 a6 s Q) : Zn d [] [(39, 99), (39, 98)] ([(82, 0, 39), (82, 1, 40), (82, 2, 43)] : zW) ([(82, 0, 39), (82, 1, 40), (82, 2, 43)] : zW) xL_5 8 (none) xE_62 (xE_62.drop 67) [.ref 82, .int a1, .int a2, .int a3, .int a4, .int a5, .int a6, .null, .null] [] s Q := by
  unfold v_62_67 at h
  refine zn_ld rfl rfl rfl ?_
  refine zn_c [.int 6, .int a6] (xo_push (.int 6)) rfl rfl ?_
  refine zn_brP rfl rfl ⟨fun hcn => ?_, fun hcn => ?_⟩
  · replace h := h.1 ((i_lt (x := 6) (y := a6) (show (6 : Int32).toInt = 6 by decide) rfl).mp hcn)
    exact m_62_115_39 hd  h
  · replace h := h.2 (fun q => hcn ((i_lt (x := 6) (y := a6) (show (6 : Int32).toInt = 6 by decide) rfl).mpr q))
    refine zn_ld rfl rfl rfl ?_
    refine zn_get (v := .ref 39) rfl (zv_C (a := 82) (n := 0) rfl rfl rfl) ?_
    refine zn_get (v := .int (s.1 39 14)) rfl (zv_I (a := 39) rfl rfl) ?_
    refine zn_brN rfl rfl ⟨fun hcn => ?_, fun hcn => ?_⟩
    · replace h := h.1 (fun q => hcn ((i_eq (x := s.1 39 14) (y := 0) rfl (show (0 : Int32).toInt = 0 by decide)).mpr q))
      exact m_62_115_39 hd  h
    · replace h := h.2 ((i_eq (x := s.1 39 14) (y := 0) rfl (show (0 : Int32).toInt = 0 by decide)).mp hcn)
      refine zn_ld rfl rfl rfl ?_
      refine zn_get (v := .ref 43) rfl (zv_C (a := 82) (n := 2) rfl rfl rfl) ?_
      refine zn_ld rfl rfl rfl ?_
      refine zn_get (v := .int (s.1 82 3)) rfl (zv_I (a := 82) rfl rfl) ?_
      refine zn_row (s.1 82 3) [] (a := 43) hd rfl rfl rfl rfl ?_
      change Zn _ _ _ _ _ _ _ _ _ _ _ [.int (zg s 43 (s.1 82 3))] _ _
      refine zn_c [.int 125, .int (zg s 43 (s.1 82 3))] (xo_push (.int 125)) rfl rfl ?_
      refine zn_brP rfl rfl ⟨fun hcn => ?_, fun hcn => ?_⟩
      · replace h := h.1 ((i_eq (x := zg s 43 (s.1 82 3)) (y := 125) rfl (show (125 : Int32).toInt = 125 by decide)).mp hcn)
        exact m_62_115_39 hd  h
      · replace h := h.2 (fun q => hcn ((i_eq (x := zg s 43 (s.1 82 3)) (y := 125) rfl (show (125 : Int32).toInt = 125 by decide)).mpr q))
        refine zn_ld rfl rfl rfl ?_
        refine zn_get (v := .int (s.1 82 3)) rfl (zv_I (a := 82) rfl rfl) ?_
        refine zn_st [.ref 82, .int a1, .int a2, .int a3, .int a4, .int a5, .int a6, .int (s.1 82 3), .null] rfl rfl rfl ?_
        refine zn_ld rfl rfl rfl ?_
        refine zn_ld rfl rfl rfl ?_
        refine zn_c [.int 6, .int a6, .ref 82] (xo_push (.int 6)) rfl rfl ?_
        refine zn_brP rfl rfl ⟨fun hcn => ?_, fun hcn => ?_⟩
        · replace h := h.1 ((i_lt (x := a6) (y := 6) rfl (show (6 : Int32).toInt = 6 by decide)).mp hcn)
          refine zn_c [.int 0, .ref 82] (xo_push (.int 0)) rfl rfl ?_
          exact m_62_91_39 hd r67 h
        · replace h := h.2 (fun q => hcn ((i_lt (x := a6) (y := 6) rfl (show (6 : Int32).toInt = 6 by decide)).mpr q))
          refine zn_c [.int 1, .ref 82] (xo_push (.int 1)) rfl rfl ?_
          refine zn_go rfl ?_
          exact m_62_91_39 hd r67 h
theorem ml_62_67_39 {d d0 : Nat} (hd : d = d0 + 8)  {a1 : Int32} {a2 : Int32} {a3 : Int32} {a4 : Int32} {a5 : Int32} {a6 : Int32} {s : zS} {Q : Option Value → zS → Prop}  (h : vl_62_67 (fun j => Zt d (wd 39 j) j) 39  a1 a2 a3 a4 a5 a6 s Q) : Zn d [] [(39, 99), (39, 98)] ([(82, 0, 39), (82, 1, 40), (82, 2, 43)] : zW) ([(82, 0, 39), (82, 1, 40), (82, 2, 43)] : zW) xL_5 8 (none) xE_62 (xE_62.drop 67) [.ref 82, .int a1, .int a2, .int a3, .int a4, .int a5, .int a6, .null, .null] [] s Q := by
  obtain ⟨I, μ, h0, h1⟩ := h
  have key : ∀ (n : Nat) (a1 : Int32) (a2 : Int32) (a3 : Int32) (a4 : Int32) (a5 : Int32) (a6 : Int32) (s : zS), μ a1 a2 a3 a4 a5 a6 s = n → I a1 a2 a3 a4 a5 a6 s → Zn d [] [(39, 99), (39, 98)] ([(82, 0, 39), (82, 1, 40), (82, 2, 43)] : zW) ([(82, 0, 39), (82, 1, 40), (82, 2, 43)] : zW) xL_5 8 (none) xE_62 (xE_62.drop 67) [.ref 82, .int a1, .int a2, .int a3, .int a4, .int a5, .int a6, .null, .null] [] s Q := by
    intro n
    induction n using Nat.strongRecOn with
    | ind n ih =>
      intro a1 a2 a3 a4 a5 a6 s e hI
      exact m_62_67_39 hd (fun a1' a2' a3' a4' a5' a6' s' q => ih _ (by rw [← e]; exact q.2) a1' a2' a3' a4' a5' a6' s' rfl q.1) (h1 a1 a2 a3 a4 a5 a6 s hI)
  exact key _ a1 a2 a3 a4 a5 a6 s rfl h0
set_option maxRecDepth 20000 in
theorem m_62_64_39 {d d0 : Nat} (hd : d = d0 + 8)  {a1 : Int32} {a2 : Int32} {a3 : Int32} {a4 : Int32} {t0 : Int32} {s : zS} {Q : Option Value → zS → Prop}  (h : v_62_64 (fun j => Zt d (wd 39 j) j) 39  a1 a2 a3 a4 t0 s Q) : Zn d [] [(39, 99), (39, 98)] ([(82, 0, 39), (82, 1, 40), (82, 2, 43)] : zW) ([(82, 0, 39), (82, 1, 40), (82, 2, 43)] : zW) xL_5 8 (none) xE_62 (xE_62.drop 64) [.ref 82, .int a1, .int a2, .int a3, .int a4, .null, .null, .null, .null] [.int t0] s Q := by
  unfold v_62_64 at h
  refine zn_st [.ref 82, .int a1, .int a2, .int a3, .int a4, .int t0, .null, .null, .null] rfl rfl rfl ?_
  refine zn_c [.int 0] (xo_push (.int 0)) rfl rfl ?_
  refine zn_st [.ref 82, .int a1, .int a2, .int a3, .int a4, .int t0, .int 0, .null, .null] rfl rfl rfl ?_
  exact ml_62_67_39 hd  h
set_option maxRecDepth 20000 in
theorem m_62_52_39 {d d0 : Nat} (hd : d = d0 + 8)  {a1 : Int32} {a2 : Int32} {a3 : Int32} {a4 : Int32} {s : zS} {Q : Option Value → zS → Prop}  (h : v_62_52 (fun j => Zt d (wd 39 j) j) 39  a1 a2 a3 a4 s Q) : Zn d [] [(39, 99), (39, 98)] ([(82, 0, 39), (82, 1, 40), (82, 2, 43)] : zW) ([(82, 0, 39), (82, 1, 40), (82, 2, 43)] : zW) xL_5 8 (none) xE_62 (xE_62.drop 52) [.ref 82, .int a1, .int a2, .int a3, .int a4, .null, .null, .null, .null] [] s Q := by
  unfold v_62_52 at h
  refine zn_ld rfl rfl rfl ?_
  refine zn_c [.int 123, .ref 82] (xo_push (.int 123)) rfl rfl ?_
  refine zn_zt [.ref 82, .int 123] [] rfl rfl rfl rfl rfl (Zt.imp h (fun v1 s2 h => ?_))
  obtain ⟨rfl, h⟩ := h
  change Zn _ _ _ _ _ _ _ _ _ _ _ [] _ _
  refine zn_ld rfl rfl rfl ?_
  refine zn_brP rfl rfl ⟨fun hcn => ?_, fun hcn => ?_⟩
  · replace h := h.1 ((i_eq (x := a4) (y := 0) rfl (show (0 : Int32).toInt = 0 by decide)).mp hcn)
    refine zn_ld rfl rfl rfl ?_
    refine zn_get (v := .ref 39) rfl (zv_C (a := 82) (n := 0) rfl rfl rfl) ?_
    refine zn_zt [.ref 39] [] (c := []) rfl rfl rfl rfl rfl (Zt.imp (zp_46 hd (Or.inr rfl)) (fun vq sq hq => ?_))
    obtain ⟨rfl, hq⟩ := hq
    rw [hq]
    change Zn _ _ _ _ _ _ _ _ _ _ _ [.int (s2.1 67 2 / 5)] _ _
    exact m_62_64_39 hd  h
  · replace h := h.2 (fun q => hcn ((i_eq (x := a4) (y := 0) rfl (show (0 : Int32).toInt = 0 by decide)).mpr q))
    refine zn_ld rfl rfl rfl ?_
    refine zn_get (v := .ref 39) rfl (zv_C (a := 82) (n := 0) rfl rfl rfl) ?_
    refine zn_zt [.ref 39] [] (c := []) rfl rfl rfl rfl rfl (Zt.imp (zp_47 hd (Or.inr rfl)) (fun vq sq hq => ?_))
    obtain ⟨rfl, hq⟩ := hq
    rw [hq]
    change Zn _ _ _ _ _ _ _ _ _ _ _ [.int (s2.1 69 2 / 5)] _ _
    refine zn_go rfl ?_
    exact m_62_64_39 hd  h
set_option maxRecDepth 20000 in
theorem m_62_42_39 {d d0 : Nat} (hd : d = d0 + 8)  {a1 : Int32} {a2 : Int32} {t0 : Int32} {s : zS} {Q : Option Value → zS → Prop}  (h : v_62_42 (fun j => Zt d (wd 39 j) j) 39  a1 a2 t0 s Q) : Zn d [] [(39, 99), (39, 98)] ([(82, 0, 39), (82, 1, 40), (82, 2, 43)] : zW) ([(82, 0, 39), (82, 1, 40), (82, 2, 43)] : zW) xL_5 8 (none) xE_62 (xE_62.drop 42) [.ref 82, .int a1, .int a2, .null, .null, .null, .null, .null, .null] [.int t0] s Q := by
  unfold v_62_42 at h
  refine zn_st [.ref 82, .int a1, .int a2, .int t0, .null, .null, .null, .null, .null] rfl rfl rfl ?_
  refine zn_ld rfl rfl rfl ?_
  refine zn_c [.int 4, .ref 82] (xo_push (.int 4)) rfl rfl ?_
  refine zn_zt [.ref 82, .int 4] [] rfl rfl rfl rfl rfl (Zt.imp h (fun v1 s2 h => ?_))
  obtain ⟨x3, rfl, h⟩ := h
  change Zn _ _ _ _ _ _ _ _ _ _ _ [.int x3] _ _
  refine zn_st [.ref 82, .int a1, .int a2, .int t0, .int x3, .null, .null, .null, .null] rfl rfl rfl ?_
  refine zn_ld rfl rfl rfl ?_
  refine zn_brN rfl rfl ⟨fun hcn => ?_, fun hcn => ?_⟩
  · replace h := h.1 (fun q => hcn ((i_eq (x := x3) (y := 0) rfl (show (0 : Int32).toInt = 0 by decide)).mpr q))
    exact m_62_52_39 hd  h
  · replace h := h.2 ((i_eq (x := x3) (y := 0) rfl (show (0 : Int32).toInt = 0 by decide)).mp hcn)
    refine zn_ld rfl rfl rfl ?_
    refine zn_c [.int 5, .ref 82] (xo_push (.int 5)) rfl rfl ?_
    refine zn_zt [.ref 82, .int 5] [] rfl rfl rfl rfl rfl (Zt.imp h (fun v4 s5 h => ?_))
    obtain ⟨rfl, h⟩ := h
    change Zn _ _ _ _ _ _ _ _ _ _ _ [] _ _
    exact m_62_52_39 hd  h
set_option maxRecDepth 20000 in
theorem m_62_18_39 {d d0 : Nat} (hd : d = d0 + 8)   {s : zS} {Q : Option Value → zS → Prop}  (h : v_62_18 (fun j => Zt d (wd 39 j) j) 39   s Q) : Zn d [] [(39, 99), (39, 98)] ([(82, 0, 39), (82, 1, 40), (82, 2, 43)] : zW) ([(82, 0, 39), (82, 1, 40), (82, 2, 43)] : zW) xL_5 8 (none) xE_62 (xE_62.drop 18) [.ref 82, .null, .null, .null, .null, .null, .null, .null, .null] [] s Q := by
  unfold v_62_18 at h
  refine zn_ld rfl rfl rfl ?_
  refine zn_c [.int 3, .ref 82] (xo_push (.int 3)) rfl rfl ?_
  refine zn_zt [.ref 82, .int 3] [] rfl rfl rfl rfl rfl (Zt.imp h (fun v1 s2 h => ?_))
  obtain ⟨rfl, h⟩ := h
  change Zn _ _ _ _ _ _ _ _ _ _ _ [] _ _
  refine zn_ld rfl rfl rfl ?_
  refine zn_get (v := .ref 39) rfl (zv_C (a := 82) (n := 0) rfl rfl rfl) ?_
  refine zn_zt [.ref 39] [] (c := []) rfl rfl rfl rfl rfl (Zt.imp (zp_47 hd (Or.inr rfl)) (fun vq sq hq => ?_))
  obtain ⟨rfl, hq⟩ := hq
  rw [hq]
  change Zn _ _ _ _ _ _ _ _ _ _ _ [.int (s2.1 69 2 / 5)] _ _
  refine zn_st [.ref 82, .int (s2.1 69 2 / 5), .null, .null, .null, .null, .null, .null, .null] rfl rfl rfl ?_
  refine zn_ld rfl rfl rfl ?_
  refine zn_get (v := .int (s2.1 82 3)) rfl (zv_I (a := 82) rfl rfl) ?_
  refine zn_st [.ref 82, .int (s2.1 69 2 / 5), .int (s2.1 82 3), .null, .null, .null, .null, .null, .null] rfl rfl rfl ?_
  refine zn_ld rfl rfl rfl ?_
  refine zn_c [.int 1, .ref 82] (xo_push (.int 1)) rfl rfl ?_
  refine zn_zt [.ref 82, .int 1] [] rfl rfl rfl rfl rfl (Zt.imp h (fun v3 s4 h => ?_))
  obtain ⟨rfl, h⟩ := h
  change Zn _ _ _ _ _ _ _ _ _ _ _ [] _ _
  refine zn_ld rfl rfl rfl ?_
  refine zn_c [.int 91, .ref 82] (xo_push (.int 91)) rfl rfl ?_
  refine zn_zt [.ref 82, .int 91] [] rfl rfl rfl rfl rfl (Zt.imp h (fun v5 s6 h => ?_))
  obtain ⟨x7, rfl, h⟩ := h
  change Zn _ _ _ _ _ _ _ _ _ _ _ [.int x7] _ _
  refine zn_brP rfl rfl ⟨fun hcn => ?_, fun hcn => ?_⟩
  · replace h := h.1 ((i_eq (x := x7) (y := 0) rfl (show (0 : Int32).toInt = 0 by decide)).mp hcn)
    refine zn_c [.int 0] (xo_push (.int 0)) rfl rfl ?_
    exact m_62_42_39 hd  h
  · replace h := h.2 (fun q => hcn ((i_eq (x := x7) (y := 0) rfl (show (0 : Int32).toInt = 0 by decide)).mpr q))
    refine zn_ld rfl rfl rfl ?_
    refine zn_c [.int 93, .ref 82] (xo_push (.int 93)) rfl rfl ?_
    refine zn_c [.int 0, .int 93, .ref 82] (xo_push (.int 0)) rfl rfl ?_
    refine zn_c [.int (-1), .int 0, .int 93, .ref 82] (xo_push (.int (-1))) rfl rfl ?_
    refine zn_zt [.ref 82, .int 93, .int 0, .int (-1)] [] rfl rfl rfl rfl rfl (Zt.imp h (fun v8 s9 h => ?_))
    obtain ⟨x10, rfl, h⟩ := h
    change Zn _ _ _ _ _ _ _ _ _ _ _ [.int x10] _ _
    refine zn_go rfl ?_
    exact m_62_42_39 hd  h
set_option maxRecDepth 20000 in
theorem m_62_0_39 {d d0 : Nat} (hd : d = d0 + 8)   {s : zS} {Q : Option Value → zS → Prop}  (h : v_62_0 (fun j => Zt d (wd 39 j) j) 39   s Q) : Zn d [] [(39, 99), (39, 98)] ([(82, 0, 39), (82, 1, 40), (82, 2, 43)] : zW) ([(82, 0, 39), (82, 1, 40), (82, 2, 43)] : zW) xL_5 8 (none) xE_62 (xE_62.drop 0) [.ref 82, .null, .null, .null, .null, .null, .null, .null, .null] [] s Q := by
  unfold v_62_0 at h
  refine zn_ld rfl rfl rfl ?_
  refine zn_get (v := .ref 43) rfl (zv_C (a := 82) (n := 2) rfl rfl rfl) ?_
  refine zn_ld rfl rfl rfl ?_
  refine zn_get (v := .int (s.1 82 3)) rfl (zv_I (a := 82) rfl rfl) ?_
  refine zn_row (s.1 82 3) [] (a := 43) hd rfl rfl rfl rfl ?_
  change Zn _ _ _ _ _ _ _ _ _ _ _ [.int (zg s 43 (s.1 82 3))] _ _
  refine zn_c [.int 3, .int (zg s 43 (s.1 82 3))] (xo_push (.int 3)) rfl rfl ?_
  refine zn_brN rfl rfl ⟨fun hcn => ?_, fun hcn => ?_⟩
  · replace h := h.1 (fun q => hcn ((i_eq (x := zg s 43 (s.1 82 3)) (y := 3) rfl (show (3 : Int32).toInt = 3 by decide)).mpr q))
    exact m_62_18_39 hd  h
  · replace h := h.2 ((i_eq (x := zg s 43 (s.1 82 3)) (y := 3) rfl (show (3 : Int32).toInt = 3 by decide)).mp hcn)
    refine zn_ld rfl rfl rfl ?_
    refine zn_get (v := .ref 39) rfl (zv_C (a := 82) (n := 0) rfl rfl rfl) ?_
    refine zn_zt [.ref 39] [] (c := []) rfl rfl rfl rfl rfl (Zt.imp (zp_44 hd (Or.inr rfl)) (fun vq sq hq => ?_))
    obtain ⟨rfl, hq⟩ := hq
    rw [hq]
    change Zn _ _ _ _ _ _ _ _ _ _ _ [.int (s.1 63 2 / 6)] _ _
    refine zn_c [.int 24, .int (s.1 63 2 / 6)] (xo_push (.int 24)) rfl rfl ?_
    refine zn_brP rfl rfl ⟨fun hcn => ?_, fun hcn => ?_⟩
    · replace h := h.1 ((i_lt (x := s.1 63 2 / 6) (y := 24) rfl (show (24 : Int32).toInt = 24 by decide)).mp hcn)
      exact m_62_18_39 hd  h
    · replace h := h.2 (fun q => hcn ((i_lt (x := s.1 63 2 / 6) (y := 24) rfl (show (24 : Int32).toInt = 24 by decide)).mpr q))
      refine zn_ld rfl rfl rfl ?_
      refine zn_get (v := .ref 39) rfl (zv_C (a := 82) (n := 0) rfl rfl rfl) ?_
      refine zn_c [.int 5, .ref 39] (xo_push (.int 5)) rfl rfl ?_
      refine zn_ld rfl rfl rfl ?_
      refine zn_get (v := .int (s.1 82 3)) rfl (zv_I (a := 82) rfl rfl) ?_
      refine zn_zt [.ref 39, .int 5, .int (s.1 82 3)] [] rfl rfl rfl rfl rfl (Zt.imp h (fun v1 s2 h => ?_))
      obtain ⟨rfl, h⟩ := h
      change Zn _ _ _ _ _ _ _ _ _ _ _ [] _ _
      exact m_62_18_39 hd  h
theorem zq_62_39 {d : Nat}  {s : zS} {Q : Option Value → zS → Prop} (h : v_62_0 (fun j => Zt (d + 8) (wd 39 j) j) 39  s Q) : Zt (d + 9) ([(82, 0, 39), (82, 1, 40), (82, 2, 43)] : zW) 62 [.ref 82] s Q := zt_of (E := xE_62) (L := xL_5) (ml := 8) (ret := none) rfl rfl rfl (m_62_0_39 rfl h)
theorem zc_62 {d P : Nat} (hP : P = 3 ∨ P = 39)  {s : zS} {Q : Option Value → zS → Prop} (h : v_62_0 (fun j => Zt (d + 8) (wd P j) j) P  s Q) : Zt (d + 9) (wd P 62) 62 [.ref 82] s Q := by
  rcases hP with rfl | rfl
  · exact zq_62_3 h
  · exact zq_62_39 h
/-! FeatherBench$Reader.readFunc -/
def v_63_53 (T : Nat → List Value → zS → (Option Value → zS → Prop) → Prop) (P : Nat)  (a1 : Int32) (a2 : Int32) (a3 : Int32) (a4 : Int32) (t0 : Int32) (s : zS) (Q : Option Value → zS → Prop) : Prop :=
  T 73 [.ref 82, .int 41] s (fun v1 s2 => v1 = none ∧ (T 73 [.ref 82, .int 1] s2 (fun v3 s4 => v3 = none ∧ (T 66 [.ref 82, .int (s2.1 82 3)] s4 (fun v5 s6 => v5 = none ∧ (T 73 [.ref 82, .int 123] s6 (fun v7 s8 => v7 = none ∧ (T 73 [.ref 82, .int 7] s8 (fun v9 s10 => v9 = none ∧ (T 69 [.ref 82, .int 1, .int 0] s10 (fun v11 s12 => v11 = none ∧ (T 73 [.ref 82, .int 125] s12 (fun v13 s14 => v13 = none ∧ (T 57 [.ref P, .int a4, .int a3, .int a1, .int t0, .int a2, .int (s10.1 82 3)] s14 (fun v15 s16 => v15 = none ∧ (Q none s16))))))))))))))))
def v_63_11 (T : Nat → List Value → zS → (Option Value → zS → Prop) → Prop) (P : Nat)   (s : zS) (Q : Option Value → zS → Prop) : Prop :=
  T 73 [.ref 82, .int 6] s (fun v1 s2 => v1 = none ∧ (T 73 [.ref 82, .int 40] s2 (fun v3 s4 => v3 = none ∧ (T 73 [.ref 82, .int 1] s4 (fun v5 s6 => v5 = none ∧ (T 54 [.ref P, .int (s4.1 82 3), .int 3, .int (-1), .int (s4.1 (P + 28) 2 / 5)] s6 (fun v7 s8 => v7 = none ∧ (T 73 [.ref 82, .int 1] s8 (fun v9 s10 => v9 = none ∧ (T 72 [.ref 82, .int 91] s10 (fun v11 s12 => ∃ x13, v11 = some (.int x13) ∧ ((x13.toInt = 0 → v_63_53 T P  (s4.1 (P + 30) 2 / 5) (s4.1 (P + 28) 2 / 5) (s4.1 82 3) (s8.1 82 3) 0 s12 Q) ∧ (¬ (x13.toInt = 0) → T 64 [.ref 82, .int (s4.1 (P + 28) 2 / 5)] s12 (fun v14 s15 => ∃ x16, v14 = some (.int x16) ∧ (v_63_53 T P  (s4.1 (P + 30) 2 / 5) (s4.1 (P + 28) 2 / 5) (s4.1 82 3) (s8.1 82 3) x16 s15 Q)))))))))))))))
def v_63_0 (T : Nat → List Value → zS → (Option Value → zS → Prop) → Prop) (P : Nat)   (s : zS) (Q : Option Value → zS → Prop) : Prop :=
  ((s.1 (P + 26) 2 / 10).toInt < 60 → v_63_11 T P   s Q) ∧ (¬ ((s.1 (P + 26) 2 / 10).toInt < 60) → T 38 [.ref P, .int 5, .int (s.1 82 3)] s (fun v1 s2 => v1 = none ∧ (v_63_11 T P   s2 Q)))
set_option maxRecDepth 20000 in
theorem m_63_53_3 {d d0 : Nat} (hd : d = d0 + 8)  {a1 : Int32} {a2 : Int32} {a3 : Int32} {a4 : Int32} {t0 : Int32} {s : zS} {Q : Option Value → zS → Prop}  (h : v_63_53 (fun j => Zt d (wd 3 j) j) 3  a1 a2 a3 a4 t0 s Q) : Zn d [] [(3, 99), (3, 98)] ([(82, 0, 3), (82, 1, 4), (82, 2, 7)] : zW) ([(82, 0, 3), (82, 1, 4), (82, 2, 7)] : zW) xL_5 8 (none) xE_63 (xE_63.drop 53) [.ref 82, .int a1, .int a2, .int a3, .int a4, .null, .null, .null, .null] [.int t0] s Q := by
  unfold v_63_53 at h
  refine zn_st [.ref 82, .int a1, .int a2, .int a3, .int a4, .int t0, .null, .null, .null] rfl rfl rfl ?_
  refine zn_ld rfl rfl rfl ?_
  refine zn_c [.int 41, .ref 82] (xo_push (.int 41)) rfl rfl ?_
  refine zn_zt [.ref 82, .int 41] [] rfl rfl rfl rfl rfl (Zt.imp h (fun v1 s2 h => ?_))
  obtain ⟨rfl, h⟩ := h
  change Zn _ _ _ _ _ _ _ _ _ _ _ [] _ _
  refine zn_ld rfl rfl rfl ?_
  refine zn_get (v := .int (s2.1 82 3)) rfl (zv_I (a := 82) rfl rfl) ?_
  refine zn_st [.ref 82, .int a1, .int a2, .int a3, .int a4, .int t0, .int (s2.1 82 3), .null, .null] rfl rfl rfl ?_
  refine zn_ld rfl rfl rfl ?_
  refine zn_c [.int 1, .ref 82] (xo_push (.int 1)) rfl rfl ?_
  refine zn_zt [.ref 82, .int 1] [] rfl rfl rfl rfl rfl (Zt.imp h (fun v3 s4 h => ?_))
  obtain ⟨rfl, h⟩ := h
  change Zn _ _ _ _ _ _ _ _ _ _ _ [] _ _
  refine zn_ld rfl rfl rfl ?_
  refine zn_ld rfl rfl rfl ?_
  refine zn_zt [.ref 82, .int (s2.1 82 3)] [] rfl rfl rfl rfl rfl (Zt.imp h (fun v5 s6 h => ?_))
  obtain ⟨rfl, h⟩ := h
  change Zn _ _ _ _ _ _ _ _ _ _ _ [] _ _
  refine zn_ld rfl rfl rfl ?_
  refine zn_c [.int 123, .ref 82] (xo_push (.int 123)) rfl rfl ?_
  refine zn_zt [.ref 82, .int 123] [] rfl rfl rfl rfl rfl (Zt.imp h (fun v7 s8 h => ?_))
  obtain ⟨rfl, h⟩ := h
  change Zn _ _ _ _ _ _ _ _ _ _ _ [] _ _
  refine zn_ld rfl rfl rfl ?_
  refine zn_c [.int 7, .ref 82] (xo_push (.int 7)) rfl rfl ?_
  refine zn_zt [.ref 82, .int 7] [] rfl rfl rfl rfl rfl (Zt.imp h (fun v9 s10 h => ?_))
  obtain ⟨rfl, h⟩ := h
  change Zn _ _ _ _ _ _ _ _ _ _ _ [] _ _
  refine zn_ld rfl rfl rfl ?_
  refine zn_get (v := .int (s10.1 82 3)) rfl (zv_I (a := 82) rfl rfl) ?_
  refine zn_st [.ref 82, .int a1, .int a2, .int a3, .int a4, .int t0, .int (s2.1 82 3), .int (s10.1 82 3), .null] rfl rfl rfl ?_
  refine zn_ld rfl rfl rfl ?_
  refine zn_c [.int 1, .ref 82] (xo_push (.int 1)) rfl rfl ?_
  refine zn_c [.int 0, .int 1, .ref 82] (xo_push (.int 0)) rfl rfl ?_
  refine zn_zt [.ref 82, .int 1, .int 0] [] rfl rfl rfl rfl rfl (Zt.imp h (fun v11 s12 h => ?_))
  obtain ⟨rfl, h⟩ := h
  change Zn _ _ _ _ _ _ _ _ _ _ _ [] _ _
  refine zn_ld rfl rfl rfl ?_
  refine zn_c [.int 125, .ref 82] (xo_push (.int 125)) rfl rfl ?_
  refine zn_zt [.ref 82, .int 125] [] rfl rfl rfl rfl rfl (Zt.imp h (fun v13 s14 h => ?_))
  obtain ⟨rfl, h⟩ := h
  change Zn _ _ _ _ _ _ _ _ _ _ _ [] _ _
  refine zn_ld rfl rfl rfl ?_
  refine zn_get (v := .ref 3) rfl (zv_C (a := 82) (n := 0) rfl rfl rfl) ?_
  refine zn_ld rfl rfl rfl ?_
  refine zn_ld rfl rfl rfl ?_
  refine zn_ld rfl rfl rfl ?_
  refine zn_ld rfl rfl rfl ?_
  refine zn_ld rfl rfl rfl ?_
  refine zn_ld rfl rfl rfl ?_
  refine zn_zt [.ref 3, .int a4, .int a3, .int a1, .int t0, .int a2, .int (s10.1 82 3)] [] rfl rfl rfl rfl rfl (Zt.imp h (fun v15 s16 h => ?_))
  obtain ⟨rfl, h⟩ := h
  change Zn _ _ _ _ _ _ _ _ _ _ _ [] _ _
  exact zn_ret0 rfl h
set_option maxRecDepth 20000 in
theorem m_63_11_3 {d d0 : Nat} (hd : d = d0 + 8)   {s : zS} {Q : Option Value → zS → Prop}  (h : v_63_11 (fun j => Zt d (wd 3 j) j) 3   s Q) : Zn d [] [(3, 99), (3, 98)] ([(82, 0, 3), (82, 1, 4), (82, 2, 7)] : zW) ([(82, 0, 3), (82, 1, 4), (82, 2, 7)] : zW) xL_5 8 (none) xE_63 (xE_63.drop 11) [.ref 82, .null, .null, .null, .null, .null, .null, .null, .null] [] s Q := by
  unfold v_63_11 at h
  refine zn_ld rfl rfl rfl ?_
  refine zn_c [.int 6, .ref 82] (xo_push (.int 6)) rfl rfl ?_
  refine zn_zt [.ref 82, .int 6] [] rfl rfl rfl rfl rfl (Zt.imp h (fun v1 s2 h => ?_))
  obtain ⟨rfl, h⟩ := h
  change Zn _ _ _ _ _ _ _ _ _ _ _ [] _ _
  refine zn_ld rfl rfl rfl ?_
  refine zn_c [.int 40, .ref 82] (xo_push (.int 40)) rfl rfl ?_
  refine zn_zt [.ref 82, .int 40] [] rfl rfl rfl rfl rfl (Zt.imp h (fun v3 s4 h => ?_))
  obtain ⟨rfl, h⟩ := h
  change Zn _ _ _ _ _ _ _ _ _ _ _ [] _ _
  refine zn_ld rfl rfl rfl ?_
  refine zn_get (v := .ref 3) rfl (zv_C (a := 82) (n := 0) rfl rfl rfl) ?_
  refine zn_zt [.ref 3] [] (c := []) rfl rfl rfl rfl rfl (Zt.imp (zp_47 hd (Or.inl rfl)) (fun vq sq hq => ?_))
  obtain ⟨rfl, hq⟩ := hq
  rw [hq]
  change Zn _ _ _ _ _ _ _ _ _ _ _ [.int (s4.1 33 2 / 5)] _ _
  refine zn_st [.ref 82, .int (s4.1 33 2 / 5), .null, .null, .null, .null, .null, .null, .null] rfl rfl rfl ?_
  refine zn_ld rfl rfl rfl ?_
  refine zn_get (v := .ref 3) rfl (zv_C (a := 82) (n := 0) rfl rfl rfl) ?_
  refine zn_zt [.ref 3] [] (c := []) rfl rfl rfl rfl rfl (Zt.imp (zp_46 hd (Or.inl rfl)) (fun vq sq hq => ?_))
  obtain ⟨rfl, hq⟩ := hq
  rw [hq]
  change Zn _ _ _ _ _ _ _ _ _ _ _ [.int (s4.1 31 2 / 5)] _ _
  refine zn_st [.ref 82, .int (s4.1 33 2 / 5), .int (s4.1 31 2 / 5), .null, .null, .null, .null, .null, .null] rfl rfl rfl ?_
  refine zn_ld rfl rfl rfl ?_
  refine zn_get (v := .int (s4.1 82 3)) rfl (zv_I (a := 82) rfl rfl) ?_
  refine zn_st [.ref 82, .int (s4.1 33 2 / 5), .int (s4.1 31 2 / 5), .int (s4.1 82 3), .null, .null, .null, .null, .null] rfl rfl rfl ?_
  refine zn_ld rfl rfl rfl ?_
  refine zn_c [.int 1, .ref 82] (xo_push (.int 1)) rfl rfl ?_
  refine zn_zt [.ref 82, .int 1] [] rfl rfl rfl rfl rfl (Zt.imp h (fun v5 s6 h => ?_))
  obtain ⟨rfl, h⟩ := h
  change Zn _ _ _ _ _ _ _ _ _ _ _ [] _ _
  refine zn_ld rfl rfl rfl ?_
  refine zn_get (v := .ref 3) rfl (zv_C (a := 82) (n := 0) rfl rfl rfl) ?_
  refine zn_ld rfl rfl rfl ?_
  refine zn_c [.int 3, .int (s4.1 82 3), .ref 3] (xo_push (.int 3)) rfl rfl ?_
  refine zn_c [.int (-1), .int 3, .int (s4.1 82 3), .ref 3] (xo_push (.int (-1))) rfl rfl ?_
  refine zn_ld rfl rfl rfl ?_
  refine zn_zt [.ref 3, .int (s4.1 82 3), .int 3, .int (-1), .int (s4.1 31 2 / 5)] [] rfl rfl rfl rfl rfl (Zt.imp h (fun v7 s8 h => ?_))
  obtain ⟨rfl, h⟩ := h
  change Zn _ _ _ _ _ _ _ _ _ _ _ [] _ _
  refine zn_ld rfl rfl rfl ?_
  refine zn_get (v := .int (s8.1 82 3)) rfl (zv_I (a := 82) rfl rfl) ?_
  refine zn_st [.ref 82, .int (s4.1 33 2 / 5), .int (s4.1 31 2 / 5), .int (s4.1 82 3), .int (s8.1 82 3), .null, .null, .null, .null] rfl rfl rfl ?_
  refine zn_ld rfl rfl rfl ?_
  refine zn_c [.int 1, .ref 82] (xo_push (.int 1)) rfl rfl ?_
  refine zn_zt [.ref 82, .int 1] [] rfl rfl rfl rfl rfl (Zt.imp h (fun v9 s10 h => ?_))
  obtain ⟨rfl, h⟩ := h
  change Zn _ _ _ _ _ _ _ _ _ _ _ [] _ _
  refine zn_ld rfl rfl rfl ?_
  refine zn_c [.int 91, .ref 82] (xo_push (.int 91)) rfl rfl ?_
  refine zn_zt [.ref 82, .int 91] [] rfl rfl rfl rfl rfl (Zt.imp h (fun v11 s12 h => ?_))
  obtain ⟨x13, rfl, h⟩ := h
  change Zn _ _ _ _ _ _ _ _ _ _ _ [.int x13] _ _
  refine zn_brP rfl rfl ⟨fun hcn => ?_, fun hcn => ?_⟩
  · replace h := h.1 ((i_eq (x := x13) (y := 0) rfl (show (0 : Int32).toInt = 0 by decide)).mp hcn)
    refine zn_c [.int 0] (xo_push (.int 0)) rfl rfl ?_
    exact m_63_53_3 hd  h
  · replace h := h.2 (fun q => hcn ((i_eq (x := x13) (y := 0) rfl (show (0 : Int32).toInt = 0 by decide)).mpr q))
    refine zn_ld rfl rfl rfl ?_
    refine zn_ld rfl rfl rfl ?_
    refine zn_zt [.ref 82, .int (s4.1 31 2 / 5)] [] rfl rfl rfl rfl rfl (Zt.imp h (fun v14 s15 h => ?_))
    obtain ⟨x16, rfl, h⟩ := h
    change Zn _ _ _ _ _ _ _ _ _ _ _ [.int x16] _ _
    refine zn_go rfl ?_
    exact m_63_53_3 hd  h
set_option maxRecDepth 20000 in
theorem m_63_0_3 {d d0 : Nat} (hd : d = d0 + 8)   {s : zS} {Q : Option Value → zS → Prop}  (h : v_63_0 (fun j => Zt d (wd 3 j) j) 3   s Q) : Zn d [] [(3, 99), (3, 98)] ([(82, 0, 3), (82, 1, 4), (82, 2, 7)] : zW) ([(82, 0, 3), (82, 1, 4), (82, 2, 7)] : zW) xL_5 8 (none) xE_63 (xE_63.drop 0) [.ref 82, .null, .null, .null, .null, .null, .null, .null, .null] [] s Q := by
  unfold v_63_0 at h
  refine zn_ld rfl rfl rfl ?_
  refine zn_get (v := .ref 3) rfl (zv_C (a := 82) (n := 0) rfl rfl rfl) ?_
  refine zn_zt [.ref 3] [] (c := []) rfl rfl rfl rfl rfl (Zt.imp (zp_45 hd (Or.inl rfl)) (fun vq sq hq => ?_))
  obtain ⟨rfl, hq⟩ := hq
  rw [hq]
  change Zn _ _ _ _ _ _ _ _ _ _ _ [.int (s.1 29 2 / 10)] _ _
  refine zn_c [.int 60, .int (s.1 29 2 / 10)] (xo_push (.int 60)) rfl rfl ?_
  refine zn_brP rfl rfl ⟨fun hcn => ?_, fun hcn => ?_⟩
  · replace h := h.1 ((i_lt (x := s.1 29 2 / 10) (y := 60) rfl (show (60 : Int32).toInt = 60 by decide)).mp hcn)
    exact m_63_11_3 hd  h
  · replace h := h.2 (fun q => hcn ((i_lt (x := s.1 29 2 / 10) (y := 60) rfl (show (60 : Int32).toInt = 60 by decide)).mpr q))
    refine zn_ld rfl rfl rfl ?_
    refine zn_get (v := .ref 3) rfl (zv_C (a := 82) (n := 0) rfl rfl rfl) ?_
    refine zn_c [.int 5, .ref 3] (xo_push (.int 5)) rfl rfl ?_
    refine zn_ld rfl rfl rfl ?_
    refine zn_get (v := .int (s.1 82 3)) rfl (zv_I (a := 82) rfl rfl) ?_
    refine zn_zt [.ref 3, .int 5, .int (s.1 82 3)] [] rfl rfl rfl rfl rfl (Zt.imp h (fun v1 s2 h => ?_))
    obtain ⟨rfl, h⟩ := h
    change Zn _ _ _ _ _ _ _ _ _ _ _ [] _ _
    exact m_63_11_3 hd  h
theorem zq_63_3 {d : Nat}  {s : zS} {Q : Option Value → zS → Prop} (h : v_63_0 (fun j => Zt (d + 8) (wd 3 j) j) 3  s Q) : Zt (d + 9) ([(82, 0, 3), (82, 1, 4), (82, 2, 7)] : zW) 63 [.ref 82] s Q := zt_of (E := xE_63) (L := xL_5) (ml := 8) (ret := none) rfl rfl rfl (m_63_0_3 rfl h)
set_option maxRecDepth 20000 in
theorem m_63_53_39 {d d0 : Nat} (hd : d = d0 + 8)  {a1 : Int32} {a2 : Int32} {a3 : Int32} {a4 : Int32} {t0 : Int32} {s : zS} {Q : Option Value → zS → Prop}  (h : v_63_53 (fun j => Zt d (wd 39 j) j) 39  a1 a2 a3 a4 t0 s Q) : Zn d [] [(39, 99), (39, 98)] ([(82, 0, 39), (82, 1, 40), (82, 2, 43)] : zW) ([(82, 0, 39), (82, 1, 40), (82, 2, 43)] : zW) xL_5 8 (none) xE_63 (xE_63.drop 53) [.ref 82, .int a1, .int a2, .int a3, .int a4, .null, .null, .null, .null] [.int t0] s Q := by
  unfold v_63_53 at h
  refine zn_st [.ref 82, .int a1, .int a2, .int a3, .int a4, .int t0, .null, .null, .null] rfl rfl rfl ?_
  refine zn_ld rfl rfl rfl ?_
  refine zn_c [.int 41, .ref 82] (xo_push (.int 41)) rfl rfl ?_
  refine zn_zt [.ref 82, .int 41] [] rfl rfl rfl rfl rfl (Zt.imp h (fun v1 s2 h => ?_))
  obtain ⟨rfl, h⟩ := h
  change Zn _ _ _ _ _ _ _ _ _ _ _ [] _ _
  refine zn_ld rfl rfl rfl ?_
  refine zn_get (v := .int (s2.1 82 3)) rfl (zv_I (a := 82) rfl rfl) ?_
  refine zn_st [.ref 82, .int a1, .int a2, .int a3, .int a4, .int t0, .int (s2.1 82 3), .null, .null] rfl rfl rfl ?_
  refine zn_ld rfl rfl rfl ?_
  refine zn_c [.int 1, .ref 82] (xo_push (.int 1)) rfl rfl ?_
  refine zn_zt [.ref 82, .int 1] [] rfl rfl rfl rfl rfl (Zt.imp h (fun v3 s4 h => ?_))
  obtain ⟨rfl, h⟩ := h
  change Zn _ _ _ _ _ _ _ _ _ _ _ [] _ _
  refine zn_ld rfl rfl rfl ?_
  refine zn_ld rfl rfl rfl ?_
  refine zn_zt [.ref 82, .int (s2.1 82 3)] [] rfl rfl rfl rfl rfl (Zt.imp h (fun v5 s6 h => ?_))
  obtain ⟨rfl, h⟩ := h
  change Zn _ _ _ _ _ _ _ _ _ _ _ [] _ _
  refine zn_ld rfl rfl rfl ?_
  refine zn_c [.int 123, .ref 82] (xo_push (.int 123)) rfl rfl ?_
  refine zn_zt [.ref 82, .int 123] [] rfl rfl rfl rfl rfl (Zt.imp h (fun v7 s8 h => ?_))
  obtain ⟨rfl, h⟩ := h
  change Zn _ _ _ _ _ _ _ _ _ _ _ [] _ _
  refine zn_ld rfl rfl rfl ?_
  refine zn_c [.int 7, .ref 82] (xo_push (.int 7)) rfl rfl ?_
  refine zn_zt [.ref 82, .int 7] [] rfl rfl rfl rfl rfl (Zt.imp h (fun v9 s10 h => ?_))
  obtain ⟨rfl, h⟩ := h
  change Zn _ _ _ _ _ _ _ _ _ _ _ [] _ _
  refine zn_ld rfl rfl rfl ?_
  refine zn_get (v := .int (s10.1 82 3)) rfl (zv_I (a := 82) rfl rfl) ?_
  refine zn_st [.ref 82, .int a1, .int a2, .int a3, .int a4, .int t0, .int (s2.1 82 3), .int (s10.1 82 3), .null] rfl rfl rfl ?_
  refine zn_ld rfl rfl rfl ?_
  refine zn_c [.int 1, .ref 82] (xo_push (.int 1)) rfl rfl ?_
  refine zn_c [.int 0, .int 1, .ref 82] (xo_push (.int 0)) rfl rfl ?_
  refine zn_zt [.ref 82, .int 1, .int 0] [] rfl rfl rfl rfl rfl (Zt.imp h (fun v11 s12 h => ?_))
  obtain ⟨rfl, h⟩ := h
  change Zn _ _ _ _ _ _ _ _ _ _ _ [] _ _
  refine zn_ld rfl rfl rfl ?_
  refine zn_c [.int 125, .ref 82] (xo_push (.int 125)) rfl rfl ?_
  refine zn_zt [.ref 82, .int 125] [] rfl rfl rfl rfl rfl (Zt.imp h (fun v13 s14 h => ?_))
  obtain ⟨rfl, h⟩ := h
  change Zn _ _ _ _ _ _ _ _ _ _ _ [] _ _
  refine zn_ld rfl rfl rfl ?_
  refine zn_get (v := .ref 39) rfl (zv_C (a := 82) (n := 0) rfl rfl rfl) ?_
  refine zn_ld rfl rfl rfl ?_
  refine zn_ld rfl rfl rfl ?_
  refine zn_ld rfl rfl rfl ?_
  refine zn_ld rfl rfl rfl ?_
  refine zn_ld rfl rfl rfl ?_
  refine zn_ld rfl rfl rfl ?_
  refine zn_zt [.ref 39, .int a4, .int a3, .int a1, .int t0, .int a2, .int (s10.1 82 3)] [] rfl rfl rfl rfl rfl (Zt.imp h (fun v15 s16 h => ?_))
  obtain ⟨rfl, h⟩ := h
  change Zn _ _ _ _ _ _ _ _ _ _ _ [] _ _
  exact zn_ret0 rfl h
set_option maxRecDepth 20000 in
theorem m_63_11_39 {d d0 : Nat} (hd : d = d0 + 8)   {s : zS} {Q : Option Value → zS → Prop}  (h : v_63_11 (fun j => Zt d (wd 39 j) j) 39   s Q) : Zn d [] [(39, 99), (39, 98)] ([(82, 0, 39), (82, 1, 40), (82, 2, 43)] : zW) ([(82, 0, 39), (82, 1, 40), (82, 2, 43)] : zW) xL_5 8 (none) xE_63 (xE_63.drop 11) [.ref 82, .null, .null, .null, .null, .null, .null, .null, .null] [] s Q := by
  unfold v_63_11 at h
  refine zn_ld rfl rfl rfl ?_
  refine zn_c [.int 6, .ref 82] (xo_push (.int 6)) rfl rfl ?_
  refine zn_zt [.ref 82, .int 6] [] rfl rfl rfl rfl rfl (Zt.imp h (fun v1 s2 h => ?_))
  obtain ⟨rfl, h⟩ := h
  change Zn _ _ _ _ _ _ _ _ _ _ _ [] _ _
  refine zn_ld rfl rfl rfl ?_
  refine zn_c [.int 40, .ref 82] (xo_push (.int 40)) rfl rfl ?_
  refine zn_zt [.ref 82, .int 40] [] rfl rfl rfl rfl rfl (Zt.imp h (fun v3 s4 h => ?_))
  obtain ⟨rfl, h⟩ := h
  change Zn _ _ _ _ _ _ _ _ _ _ _ [] _ _
  refine zn_ld rfl rfl rfl ?_
  refine zn_get (v := .ref 39) rfl (zv_C (a := 82) (n := 0) rfl rfl rfl) ?_
  refine zn_zt [.ref 39] [] (c := []) rfl rfl rfl rfl rfl (Zt.imp (zp_47 hd (Or.inr rfl)) (fun vq sq hq => ?_))
  obtain ⟨rfl, hq⟩ := hq
  rw [hq]
  change Zn _ _ _ _ _ _ _ _ _ _ _ [.int (s4.1 69 2 / 5)] _ _
  refine zn_st [.ref 82, .int (s4.1 69 2 / 5), .null, .null, .null, .null, .null, .null, .null] rfl rfl rfl ?_
  refine zn_ld rfl rfl rfl ?_
  refine zn_get (v := .ref 39) rfl (zv_C (a := 82) (n := 0) rfl rfl rfl) ?_
  refine zn_zt [.ref 39] [] (c := []) rfl rfl rfl rfl rfl (Zt.imp (zp_46 hd (Or.inr rfl)) (fun vq sq hq => ?_))
  obtain ⟨rfl, hq⟩ := hq
  rw [hq]
  change Zn _ _ _ _ _ _ _ _ _ _ _ [.int (s4.1 67 2 / 5)] _ _
  refine zn_st [.ref 82, .int (s4.1 69 2 / 5), .int (s4.1 67 2 / 5), .null, .null, .null, .null, .null, .null] rfl rfl rfl ?_
  refine zn_ld rfl rfl rfl ?_
  refine zn_get (v := .int (s4.1 82 3)) rfl (zv_I (a := 82) rfl rfl) ?_
  refine zn_st [.ref 82, .int (s4.1 69 2 / 5), .int (s4.1 67 2 / 5), .int (s4.1 82 3), .null, .null, .null, .null, .null] rfl rfl rfl ?_
  refine zn_ld rfl rfl rfl ?_
  refine zn_c [.int 1, .ref 82] (xo_push (.int 1)) rfl rfl ?_
  refine zn_zt [.ref 82, .int 1] [] rfl rfl rfl rfl rfl (Zt.imp h (fun v5 s6 h => ?_))
  obtain ⟨rfl, h⟩ := h
  change Zn _ _ _ _ _ _ _ _ _ _ _ [] _ _
  refine zn_ld rfl rfl rfl ?_
  refine zn_get (v := .ref 39) rfl (zv_C (a := 82) (n := 0) rfl rfl rfl) ?_
  refine zn_ld rfl rfl rfl ?_
  refine zn_c [.int 3, .int (s4.1 82 3), .ref 39] (xo_push (.int 3)) rfl rfl ?_
  refine zn_c [.int (-1), .int 3, .int (s4.1 82 3), .ref 39] (xo_push (.int (-1))) rfl rfl ?_
  refine zn_ld rfl rfl rfl ?_
  refine zn_zt [.ref 39, .int (s4.1 82 3), .int 3, .int (-1), .int (s4.1 67 2 / 5)] [] rfl rfl rfl rfl rfl (Zt.imp h (fun v7 s8 h => ?_))
  obtain ⟨rfl, h⟩ := h
  change Zn _ _ _ _ _ _ _ _ _ _ _ [] _ _
  refine zn_ld rfl rfl rfl ?_
  refine zn_get (v := .int (s8.1 82 3)) rfl (zv_I (a := 82) rfl rfl) ?_
  refine zn_st [.ref 82, .int (s4.1 69 2 / 5), .int (s4.1 67 2 / 5), .int (s4.1 82 3), .int (s8.1 82 3), .null, .null, .null, .null] rfl rfl rfl ?_
  refine zn_ld rfl rfl rfl ?_
  refine zn_c [.int 1, .ref 82] (xo_push (.int 1)) rfl rfl ?_
  refine zn_zt [.ref 82, .int 1] [] rfl rfl rfl rfl rfl (Zt.imp h (fun v9 s10 h => ?_))
  obtain ⟨rfl, h⟩ := h
  change Zn _ _ _ _ _ _ _ _ _ _ _ [] _ _
  refine zn_ld rfl rfl rfl ?_
  refine zn_c [.int 91, .ref 82] (xo_push (.int 91)) rfl rfl ?_
  refine zn_zt [.ref 82, .int 91] [] rfl rfl rfl rfl rfl (Zt.imp h (fun v11 s12 h => ?_))
  obtain ⟨x13, rfl, h⟩ := h
  change Zn _ _ _ _ _ _ _ _ _ _ _ [.int x13] _ _
  refine zn_brP rfl rfl ⟨fun hcn => ?_, fun hcn => ?_⟩
  · replace h := h.1 ((i_eq (x := x13) (y := 0) rfl (show (0 : Int32).toInt = 0 by decide)).mp hcn)
    refine zn_c [.int 0] (xo_push (.int 0)) rfl rfl ?_
    exact m_63_53_39 hd  h
  · replace h := h.2 (fun q => hcn ((i_eq (x := x13) (y := 0) rfl (show (0 : Int32).toInt = 0 by decide)).mpr q))
    refine zn_ld rfl rfl rfl ?_
    refine zn_ld rfl rfl rfl ?_
    refine zn_zt [.ref 82, .int (s4.1 67 2 / 5)] [] rfl rfl rfl rfl rfl (Zt.imp h (fun v14 s15 h => ?_))
    obtain ⟨x16, rfl, h⟩ := h
    change Zn _ _ _ _ _ _ _ _ _ _ _ [.int x16] _ _
    refine zn_go rfl ?_
    exact m_63_53_39 hd  h
set_option maxRecDepth 20000 in
theorem m_63_0_39 {d d0 : Nat} (hd : d = d0 + 8)   {s : zS} {Q : Option Value → zS → Prop}  (h : v_63_0 (fun j => Zt d (wd 39 j) j) 39   s Q) : Zn d [] [(39, 99), (39, 98)] ([(82, 0, 39), (82, 1, 40), (82, 2, 43)] : zW) ([(82, 0, 39), (82, 1, 40), (82, 2, 43)] : zW) xL_5 8 (none) xE_63 (xE_63.drop 0) [.ref 82, .null, .null, .null, .null, .null, .null, .null, .null] [] s Q := by
  unfold v_63_0 at h
  refine zn_ld rfl rfl rfl ?_
  refine zn_get (v := .ref 39) rfl (zv_C (a := 82) (n := 0) rfl rfl rfl) ?_
  refine zn_zt [.ref 39] [] (c := []) rfl rfl rfl rfl rfl (Zt.imp (zp_45 hd (Or.inr rfl)) (fun vq sq hq => ?_))
  obtain ⟨rfl, hq⟩ := hq
  rw [hq]
  change Zn _ _ _ _ _ _ _ _ _ _ _ [.int (s.1 65 2 / 10)] _ _
  refine zn_c [.int 60, .int (s.1 65 2 / 10)] (xo_push (.int 60)) rfl rfl ?_
  refine zn_brP rfl rfl ⟨fun hcn => ?_, fun hcn => ?_⟩
  · replace h := h.1 ((i_lt (x := s.1 65 2 / 10) (y := 60) rfl (show (60 : Int32).toInt = 60 by decide)).mp hcn)
    exact m_63_11_39 hd  h
  · replace h := h.2 (fun q => hcn ((i_lt (x := s.1 65 2 / 10) (y := 60) rfl (show (60 : Int32).toInt = 60 by decide)).mpr q))
    refine zn_ld rfl rfl rfl ?_
    refine zn_get (v := .ref 39) rfl (zv_C (a := 82) (n := 0) rfl rfl rfl) ?_
    refine zn_c [.int 5, .ref 39] (xo_push (.int 5)) rfl rfl ?_
    refine zn_ld rfl rfl rfl ?_
    refine zn_get (v := .int (s.1 82 3)) rfl (zv_I (a := 82) rfl rfl) ?_
    refine zn_zt [.ref 39, .int 5, .int (s.1 82 3)] [] rfl rfl rfl rfl rfl (Zt.imp h (fun v1 s2 h => ?_))
    obtain ⟨rfl, h⟩ := h
    change Zn _ _ _ _ _ _ _ _ _ _ _ [] _ _
    exact m_63_11_39 hd  h
theorem zq_63_39 {d : Nat}  {s : zS} {Q : Option Value → zS → Prop} (h : v_63_0 (fun j => Zt (d + 8) (wd 39 j) j) 39  s Q) : Zt (d + 9) ([(82, 0, 39), (82, 1, 40), (82, 2, 43)] : zW) 63 [.ref 82] s Q := zt_of (E := xE_63) (L := xL_5) (ml := 8) (ret := none) rfl rfl rfl (m_63_0_39 rfl h)
theorem zc_63 {d P : Nat} (hP : P = 3 ∨ P = 39)  {s : zS} {Q : Option Value → zS → Prop} (h : v_63_0 (fun j => Zt (d + 8) (wd P j) j) P  s Q) : Zt (d + 9) (wd P 63) 63 [.ref 82] s Q := by
  rcases hP with rfl | rfl
  · exact zq_63_3 h
  · exact zq_63_39 h
