/-! FeatherBench$Told.use -/
def v_121_0 (T : Nat → List Value → zS → (Option Value → zS → Prop) → Prop) (P : Nat)   (s : zS) (Q : Option Value → zS → Prop) : Prop :=
  Q none s
set_option maxRecDepth 20000 in
theorem m_121_0_3 {d d0 : Nat} (hd : d = d0 + 4)   {s : zS} {Q : Option Value → zS → Prop}  (h : v_121_0 (fun j => Zt d (wd 3 j) j) 3   s Q) : Zn d [(83, 1), (83, 2)] [] ([] : zW) ([(83, 2, 4), (83, 1, 3)] : zW) xL_10 3 (none) xE_121 (xE_121.drop 0) [.ref 83, .ref 3, .ref 4, .null, .null, .null] [] s Q := by
  unfold v_121_0 at h
  refine zn_ld rfl rfl rfl ?_
  refine zn_ld rfl rfl rfl ?_
  refine zn_putR (a := 83) (b := 3) rfl rfl rfl rfl rfl rfl rfl rfl rfl ?_
  refine zn_ld rfl rfl rfl ?_
  refine zn_ld rfl rfl rfl ?_
  refine zn_putR (a := 83) (b := 4) rfl rfl rfl rfl rfl rfl rfl rfl rfl ?_
  exact zn_ret0 rfl h
theorem zq_121_3 {d : Nat}  {s : zS} {Q : Option Value → zS → Prop} (h : v_121_0 (fun j => Zt (d + 4) (wd 3 j) j) 3  s Q) : Zu (d + 5) [(83, 1), (83, 2)] ([] : zW) ([(83, 2, 4), (83, 1, 3)] : zW) 121 [.ref 83, .ref 3, .ref 4] s Q := zu_of (E := xE_121) (L := xL_10) (ml := 3) (ret := none) rfl rfl rfl (m_121_0_3 rfl h)
set_option maxRecDepth 20000 in
theorem m_121_0_39 {d d0 : Nat} (hd : d = d0 + 4)   {s : zS} {Q : Option Value → zS → Prop}  (h : v_121_0 (fun j => Zt d (wd 39 j) j) 39   s Q) : Zn d [(83, 1), (83, 2)] [] ([] : zW) ([(83, 2, 40), (83, 1, 39)] : zW) xL_10 3 (none) xE_121 (xE_121.drop 0) [.ref 83, .ref 39, .ref 40, .null, .null, .null] [] s Q := by
  unfold v_121_0 at h
  refine zn_ld rfl rfl rfl ?_
  refine zn_ld rfl rfl rfl ?_
  refine zn_putR (a := 83) (b := 39) rfl rfl rfl rfl rfl rfl rfl rfl rfl ?_
  refine zn_ld rfl rfl rfl ?_
  refine zn_ld rfl rfl rfl ?_
  refine zn_putR (a := 83) (b := 40) rfl rfl rfl rfl rfl rfl rfl rfl rfl ?_
  exact zn_ret0 rfl h
theorem zq_121_39 {d : Nat}  {s : zS} {Q : Option Value → zS → Prop} (h : v_121_0 (fun j => Zt (d + 4) (wd 39 j) j) 39  s Q) : Zu (d + 5) [(83, 1), (83, 2)] ([] : zW) ([(83, 2, 40), (83, 1, 39)] : zW) 121 [.ref 83, .ref 39, .ref 40] s Q := zu_of (E := xE_121) (L := xL_10) (ml := 3) (ret := none) rfl rfl rfl (m_121_0_39 rfl h)
theorem zc_121 {d P : Nat} (hP : P = 3 ∨ P = 39)  {s : zS} {Q : Option Value → zS → Prop} (h : v_121_0 (fun j => Zt (d + 4) (wd P j) j) P  s Q) : Zu (d + 5) [(83, 1), (83, 2)] [] [(83, 2, P + 1), (83, 1, P)] 121 [.ref 83, .ref P, .ref (P + 1)] s Q := by
  rcases hP with rfl | rfl
  · exact zq_121_3 h
  · exact zq_121_39 h
theorem zp_121 {d d0 P : Nat} (hd : d = d0 + 8) (hP : P = 3 ∨ P = 39) {s : zS} : Zu d [(83, 1), (83, 2)] [] [(83, 2, P + 1), (83, 1, P)] 121 [.ref 83, .ref P, .ref (P + 1)] s (fun v s' => v = none ∧ s' = s) := Zu.mo (d := 5) (by omega) (zc_121 (d := 0) hP ⟨rfl, rfl⟩)
/-! FeatherBench$Told.findTwice -/
def v_122_65 (T : Nat → List Value → zS → (Option Value → zS → Prop) → Prop) (P : Nat)  (a2 : Int32) (a3 : Int32) (s : zS) (Q : Option Value → zS → Prop) : Prop :=
  Q none s
def v_122_44 (T : Nat → List Value → zS → (Option Value → zS → Prop) → Prop) (P : Nat) (R44 : Int32 → Int32 → zS → Prop) (a2 : Int32) (a3 : Int32) (s : zS) (Q : Option Value → zS → Prop) : Prop :=
  ((s.1 (P + 26) 2 / 10).toInt ≤ a3.toInt → (1000000 ≤ a2.toInt → v_122_65 T P  a2 a3 s Q) ∧ (¬ (1000000 ≤ a2.toInt) → T 38 [.ref P, .int 3, .int a2] s (fun v1 s2 => v1 = none ∧ (v_122_65 T P  a2 a3 s2 Q)))) ∧ (¬ ((s.1 (P + 26) 2 / 10).toInt ≤ a3.toInt) → T 127 [.ref 83, .int a3] s (fun v3 s4 => ∃ x5, v3 = some (.int x5) ∧ (∀ x6 : Int32, x6.toInt = min a2.toInt x5.toInt → ∀ x7 : Int32, (-2147483648 ≤ a3.toInt + 1 ∧ a3.toInt + 1 ≤ 2147483647 → x7.toInt = a3.toInt + 1) → R44 x6 x7 s4)))
def vl_122_44 (T : Nat → List Value → zS → (Option Value → zS → Prop) → Prop) (P : Nat)  (a2 : Int32) (a3 : Int32) (s : zS) (Q : Option Value → zS → Prop) : Prop :=
  ∃ (I : Int32 → Int32 → zS → Prop) (μ : Int32 → Int32 → zS → Nat), I a2 a3 s ∧ ∀ (a2 : Int32) (a3 : Int32) (s : zS), I a2 a3 s → v_122_44 T P (fun a2' a3' s' => I a2' a3' s' ∧ μ a2' a3' s' < μ a2 a3 s) a2 a3 s Q
def v_122_29 (T : Nat → List Value → zS → (Option Value → zS → Prop) → Prop) (P : Nat) (R29 : Int32 → Int32 → zS → Prop) (a2 : Int32) (a3 : Int32) (s : zS) (Q : Option Value → zS → Prop) : Prop :=
  ((s.1 (P + 24) 2 / 6).toInt ≤ a3.toInt → vl_122_44 T P  a2 0 s Q) ∧ (¬ ((s.1 (P + 24) 2 / 6).toInt ≤ a3.toInt) → T 126 [.ref 83, .int a3] s (fun v1 s2 => ∃ x3, v1 = some (.int x3) ∧ (∀ x4 : Int32, x4.toInt = min a2.toInt x3.toInt → ∀ x5 : Int32, (-2147483648 ≤ a3.toInt + 1 ∧ a3.toInt + 1 ≤ 2147483647 → x5.toInt = a3.toInt + 1) → R29 x4 x5 s2)))
def vl_122_29 (T : Nat → List Value → zS → (Option Value → zS → Prop) → Prop) (P : Nat)  (a2 : Int32) (a3 : Int32) (s : zS) (Q : Option Value → zS → Prop) : Prop :=
  ∃ (I : Int32 → Int32 → zS → Prop) (μ : Int32 → Int32 → zS → Nat), I a2 a3 s ∧ ∀ (a2 : Int32) (a3 : Int32) (s : zS), I a2 a3 s → v_122_29 T P (fun a2' a3' s' => I a2' a3' s' ∧ μ a2' a3' s' < μ a2 a3 s) a2 a3 s Q
def v_122_14 (T : Nat → List Value → zS → (Option Value → zS → Prop) → Prop) (P : Nat) (R14 : Int32 → Int32 → zS → Prop) (a2 : Int32) (a3 : Int32) (s : zS) (Q : Option Value → zS → Prop) : Prop :=
  ((s.1 (P + 32) 2 / 3).toInt ≤ a3.toInt → vl_122_29 T P  a2 0 s Q) ∧ (¬ ((s.1 (P + 32) 2 / 3).toInt ≤ a3.toInt) → T 123 [.ref 83, .int a3] s (fun v1 s2 => ∃ x3, v1 = some (.int x3) ∧ (∀ x4 : Int32, x4.toInt = min a2.toInt x3.toInt → ∀ x5 : Int32, (-2147483648 ≤ a3.toInt + 1 ∧ a3.toInt + 1 ≤ 2147483647 → x5.toInt = a3.toInt + 1) → R14 x4 x5 s2)))
def vl_122_14 (T : Nat → List Value → zS → (Option Value → zS → Prop) → Prop) (P : Nat)  (a2 : Int32) (a3 : Int32) (s : zS) (Q : Option Value → zS → Prop) : Prop :=
  ∃ (I : Int32 → Int32 → zS → Prop) (μ : Int32 → Int32 → zS → Nat), I a2 a3 s ∧ ∀ (a2 : Int32) (a3 : Int32) (s : zS), I a2 a3 s → v_122_14 T P (fun a2' a3' s' => I a2' a3' s' ∧ μ a2' a3' s' < μ a2 a3 s) a2 a3 s Q
def v_122_0 (T : Nat → List Value → zS → (Option Value → zS → Prop) → Prop) (P : Nat)   (s : zS) (Q : Option Value → zS → Prop) : Prop :=
  ((s.1 P 14).toInt = 0 → vl_122_14 T P  1000000 0 s Q) ∧ (¬ ((s.1 P 14).toInt = 0) → Q none s)
set_option maxRecDepth 20000 in
theorem m_122_65_3 {d d0 : Nat} (hd : d = d0 + 8)  {a2 : Int32} {a3 : Int32} {s : zS} {Q : Option Value → zS → Prop}  (h : v_122_65 (fun j => Zt d (wd 3 j) j) 3  a2 a3 s Q) : Zn d [(83, 1), (83, 2)] [(3, 98)] ([(83, 2, 4), (83, 1, 3), (75, 0, 3), (75, 1, 21), (75, 2, 25)] : zW) ([(83, 2, 4), (83, 1, 3), (75, 0, 3), (75, 1, 21), (75, 2, 25)] : zW) xL_10 4 (none) xE_122 (xE_122.drop 65) [.ref 83, .ref 3, .int a2, .int a3, .null, .null] [] s Q := by
  unfold v_122_65 at h
  exact zn_ret0 rfl h
set_option maxRecDepth 20000 in
theorem m_122_44_3 {d d0 : Nat} (hd : d = d0 + 8) {R44 : Int32 → Int32 → zS → Prop} {a2 : Int32} {a3 : Int32} {s : zS} {Q : Option Value → zS → Prop} (r44 : ∀ a2 a3 s, R44 a2 a3 s → Zn d [(83, 1), (83, 2)] [(3, 98)] ([(83, 2, 4), (83, 1, 3), (75, 0, 3), (75, 1, 21), (75, 2, 25)] : zW) ([(83, 2, 4), (83, 1, 3), (75, 0, 3), (75, 1, 21), (75, 2, 25)] : zW) xL_10 4 (none) xE_122 (xE_122.drop 44) [.ref 83, .ref 3, .int a2, .int a3, .null, .null] [] s Q) (h : v_122_44 (fun j => Zt d (wd 3 j) j) 3 R44 a2 a3 s Q) : Zn d [(83, 1), (83, 2)] [(3, 98)] ([(83, 2, 4), (83, 1, 3), (75, 0, 3), (75, 1, 21), (75, 2, 25)] : zW) ([(83, 2, 4), (83, 1, 3), (75, 0, 3), (75, 1, 21), (75, 2, 25)] : zW) xL_10 4 (none) xE_122 (xE_122.drop 44) [.ref 83, .ref 3, .int a2, .int a3, .null, .null] [] s Q := by
  unfold v_122_44 at h
  refine zn_ld rfl rfl rfl ?_
  refine zn_ld rfl rfl rfl ?_
  refine zn_get (v := .ref 3) rfl (zv_C (a := 83) (n := 1) rfl rfl rfl) ?_
  refine zn_zt [.ref 3] [.int a3] (c := []) rfl rfl rfl rfl rfl (Zt.imp (zp_45 hd (Or.inl rfl)) (fun vq sq hq => ?_))
  obtain ⟨rfl, hq⟩ := hq
  rw [hq]
  change Zn _ _ _ _ _ _ _ _ _ _ _ [.int (s.1 29 2 / 10), .int a3] _ _
  refine zn_brP rfl rfl ⟨fun hcn => ?_, fun hcn => ?_⟩
  · replace h := h.1 ((i_le (x := s.1 29 2 / 10) (y := a3) rfl rfl).mp hcn)
    refine zn_ld rfl rfl rfl ?_
    refine zn_c [.int 1000000, .int a2] (xo_push (.int 1000000)) rfl rfl ?_
    refine zn_brP rfl rfl ⟨fun hcn => ?_, fun hcn => ?_⟩
    · replace h := h.1 ((i_le (x := 1000000) (y := a2) (show (1000000 : Int32).toInt = 1000000 by decide) rfl).mp hcn)
      exact m_122_65_3 hd  h
    · replace h := h.2 (fun q => hcn ((i_le (x := 1000000) (y := a2) (show (1000000 : Int32).toInt = 1000000 by decide) rfl).mpr q))
      refine zn_ld rfl rfl rfl ?_
      refine zn_get (v := .ref 3) rfl (zv_C (a := 83) (n := 1) rfl rfl rfl) ?_
      refine zn_c [.int 3, .ref 3] (xo_push (.int 3)) rfl rfl ?_
      refine zn_ld rfl rfl rfl ?_
      refine zn_zt [.ref 3, .int 3, .int a2] [] rfl rfl rfl rfl rfl (Zt.imp h (fun v1 s2 h => ?_))
      obtain ⟨rfl, h⟩ := h
      change Zn _ _ _ _ _ _ _ _ _ _ _ [] _ _
      exact m_122_65_3 hd  h
  · replace h := h.2 (fun q => hcn ((i_le (x := s.1 29 2 / 10) (y := a3) rfl rfl).mpr q))
    refine zn_ld rfl rfl rfl ?_
    refine zn_ld rfl rfl rfl ?_
    refine zn_ld rfl rfl rfl ?_
    refine zn_zt [.ref 83, .int a3] [.int a2] rfl rfl rfl rfl rfl (Zt.imp h (fun v3 s4 h => ?_))
    obtain ⟨x5, rfl, h⟩ := h
    change Zn _ _ _ _ _ _ _ _ _ _ _ [.int x5, .int a2] _ _
    refine zn_step (f := xMn) (st' := [.int (if x5 < a2 then x5 else a2)]) rfl (fun l => l) (fun _ h => h) (fun hh loc cs sl _ _ _ => rmn (Nat.le_of_ble_eq_true rfl)) ?_
    replace h := h (if x5 < a2 then x5 else a2) (i_mn a2 x5)
    refine zn_st [.ref 83, .ref 3, .int (if x5 < a2 then x5 else a2), .int a3, .null, .null] rfl rfl rfl ?_
    replace h := h _ (i_add (x := a3) (y := 1) rfl (show (1 : Int32).toInt = 1 by decide))
    refine zn_inc [.ref 83, .ref 3, .int (if x5 < a2 then x5 else a2), .int (a3 + 1), .null, .null] rfl rfl rfl rfl ?_
    refine zn_go rfl ?_
    exact r44 (if x5 < a2 then x5 else a2) (a3 + 1) s4 h
theorem ml_122_44_3 {d d0 : Nat} (hd : d = d0 + 8)  {a2 : Int32} {a3 : Int32} {s : zS} {Q : Option Value → zS → Prop}  (h : vl_122_44 (fun j => Zt d (wd 3 j) j) 3  a2 a3 s Q) : Zn d [(83, 1), (83, 2)] [(3, 98)] ([(83, 2, 4), (83, 1, 3), (75, 0, 3), (75, 1, 21), (75, 2, 25)] : zW) ([(83, 2, 4), (83, 1, 3), (75, 0, 3), (75, 1, 21), (75, 2, 25)] : zW) xL_10 4 (none) xE_122 (xE_122.drop 44) [.ref 83, .ref 3, .int a2, .int a3, .null, .null] [] s Q := by
  obtain ⟨I, μ, h0, h1⟩ := h
  have key : ∀ (n : Nat) (a2 : Int32) (a3 : Int32) (s : zS), μ a2 a3 s = n → I a2 a3 s → Zn d [(83, 1), (83, 2)] [(3, 98)] ([(83, 2, 4), (83, 1, 3), (75, 0, 3), (75, 1, 21), (75, 2, 25)] : zW) ([(83, 2, 4), (83, 1, 3), (75, 0, 3), (75, 1, 21), (75, 2, 25)] : zW) xL_10 4 (none) xE_122 (xE_122.drop 44) [.ref 83, .ref 3, .int a2, .int a3, .null, .null] [] s Q := by
    intro n
    induction n using Nat.strongRecOn with
    | ind n ih =>
      intro a2 a3 s e hI
      exact m_122_44_3 hd (fun a2' a3' s' q => ih _ (by rw [← e]; exact q.2) a2' a3' s' rfl q.1) (h1 a2 a3 s hI)
  exact key _ a2 a3 s rfl h0
set_option maxRecDepth 20000 in
theorem m_122_29_3 {d d0 : Nat} (hd : d = d0 + 8) {R29 : Int32 → Int32 → zS → Prop} {a2 : Int32} {a3 : Int32} {s : zS} {Q : Option Value → zS → Prop} (r29 : ∀ a2 a3 s, R29 a2 a3 s → Zn d [(83, 1), (83, 2)] [(3, 98)] ([(83, 2, 4), (83, 1, 3), (75, 0, 3), (75, 1, 21), (75, 2, 25)] : zW) ([(83, 2, 4), (83, 1, 3), (75, 0, 3), (75, 1, 21), (75, 2, 25)] : zW) xL_10 4 (none) xE_122 (xE_122.drop 29) [.ref 83, .ref 3, .int a2, .int a3, .null, .null] [] s Q) (h : v_122_29 (fun j => Zt d (wd 3 j) j) 3 R29 a2 a3 s Q) : Zn d [(83, 1), (83, 2)] [(3, 98)] ([(83, 2, 4), (83, 1, 3), (75, 0, 3), (75, 1, 21), (75, 2, 25)] : zW) ([(83, 2, 4), (83, 1, 3), (75, 0, 3), (75, 1, 21), (75, 2, 25)] : zW) xL_10 4 (none) xE_122 (xE_122.drop 29) [.ref 83, .ref 3, .int a2, .int a3, .null, .null] [] s Q := by
  unfold v_122_29 at h
  refine zn_ld rfl rfl rfl ?_
  refine zn_ld rfl rfl rfl ?_
  refine zn_get (v := .ref 3) rfl (zv_C (a := 83) (n := 1) rfl rfl rfl) ?_
  refine zn_zt [.ref 3] [.int a3] (c := []) rfl rfl rfl rfl rfl (Zt.imp (zp_44 hd (Or.inl rfl)) (fun vq sq hq => ?_))
  obtain ⟨rfl, hq⟩ := hq
  rw [hq]
  change Zn _ _ _ _ _ _ _ _ _ _ _ [.int (s.1 27 2 / 6), .int a3] _ _
  refine zn_brP rfl rfl ⟨fun hcn => ?_, fun hcn => ?_⟩
  · replace h := h.1 ((i_le (x := s.1 27 2 / 6) (y := a3) rfl rfl).mp hcn)
    refine zn_c [.int 0] (xo_push (.int 0)) rfl rfl ?_
    refine zn_st [.ref 83, .ref 3, .int a2, .int 0, .null, .null] rfl rfl rfl ?_
    exact ml_122_44_3 hd  h
  · replace h := h.2 (fun q => hcn ((i_le (x := s.1 27 2 / 6) (y := a3) rfl rfl).mpr q))
    refine zn_ld rfl rfl rfl ?_
    refine zn_ld rfl rfl rfl ?_
    refine zn_ld rfl rfl rfl ?_
    refine zn_zt [.ref 83, .int a3] [.int a2] rfl rfl rfl rfl rfl (Zt.imp h (fun v1 s2 h => ?_))
    obtain ⟨x3, rfl, h⟩ := h
    change Zn _ _ _ _ _ _ _ _ _ _ _ [.int x3, .int a2] _ _
    refine zn_step (f := xMn) (st' := [.int (if x3 < a2 then x3 else a2)]) rfl (fun l => l) (fun _ h => h) (fun hh loc cs sl _ _ _ => rmn (Nat.le_of_ble_eq_true rfl)) ?_
    replace h := h (if x3 < a2 then x3 else a2) (i_mn a2 x3)
    refine zn_st [.ref 83, .ref 3, .int (if x3 < a2 then x3 else a2), .int a3, .null, .null] rfl rfl rfl ?_
    replace h := h _ (i_add (x := a3) (y := 1) rfl (show (1 : Int32).toInt = 1 by decide))
    refine zn_inc [.ref 83, .ref 3, .int (if x3 < a2 then x3 else a2), .int (a3 + 1), .null, .null] rfl rfl rfl rfl ?_
    refine zn_go rfl ?_
    exact r29 (if x3 < a2 then x3 else a2) (a3 + 1) s2 h
theorem ml_122_29_3 {d d0 : Nat} (hd : d = d0 + 8)  {a2 : Int32} {a3 : Int32} {s : zS} {Q : Option Value → zS → Prop}  (h : vl_122_29 (fun j => Zt d (wd 3 j) j) 3  a2 a3 s Q) : Zn d [(83, 1), (83, 2)] [(3, 98)] ([(83, 2, 4), (83, 1, 3), (75, 0, 3), (75, 1, 21), (75, 2, 25)] : zW) ([(83, 2, 4), (83, 1, 3), (75, 0, 3), (75, 1, 21), (75, 2, 25)] : zW) xL_10 4 (none) xE_122 (xE_122.drop 29) [.ref 83, .ref 3, .int a2, .int a3, .null, .null] [] s Q := by
  obtain ⟨I, μ, h0, h1⟩ := h
  have key : ∀ (n : Nat) (a2 : Int32) (a3 : Int32) (s : zS), μ a2 a3 s = n → I a2 a3 s → Zn d [(83, 1), (83, 2)] [(3, 98)] ([(83, 2, 4), (83, 1, 3), (75, 0, 3), (75, 1, 21), (75, 2, 25)] : zW) ([(83, 2, 4), (83, 1, 3), (75, 0, 3), (75, 1, 21), (75, 2, 25)] : zW) xL_10 4 (none) xE_122 (xE_122.drop 29) [.ref 83, .ref 3, .int a2, .int a3, .null, .null] [] s Q := by
    intro n
    induction n using Nat.strongRecOn with
    | ind n ih =>
      intro a2 a3 s e hI
      exact m_122_29_3 hd (fun a2' a3' s' q => ih _ (by rw [← e]; exact q.2) a2' a3' s' rfl q.1) (h1 a2 a3 s hI)
  exact key _ a2 a3 s rfl h0
set_option maxRecDepth 20000 in
theorem m_122_14_3 {d d0 : Nat} (hd : d = d0 + 8) {R14 : Int32 → Int32 → zS → Prop} {a2 : Int32} {a3 : Int32} {s : zS} {Q : Option Value → zS → Prop} (r14 : ∀ a2 a3 s, R14 a2 a3 s → Zn d [(83, 1), (83, 2)] [(3, 98)] ([(83, 2, 4), (83, 1, 3), (75, 0, 3), (75, 1, 21), (75, 2, 25)] : zW) ([(83, 2, 4), (83, 1, 3), (75, 0, 3), (75, 1, 21), (75, 2, 25)] : zW) xL_10 4 (none) xE_122 (xE_122.drop 14) [.ref 83, .ref 3, .int a2, .int a3, .null, .null] [] s Q) (h : v_122_14 (fun j => Zt d (wd 3 j) j) 3 R14 a2 a3 s Q) : Zn d [(83, 1), (83, 2)] [(3, 98)] ([(83, 2, 4), (83, 1, 3), (75, 0, 3), (75, 1, 21), (75, 2, 25)] : zW) ([(83, 2, 4), (83, 1, 3), (75, 0, 3), (75, 1, 21), (75, 2, 25)] : zW) xL_10 4 (none) xE_122 (xE_122.drop 14) [.ref 83, .ref 3, .int a2, .int a3, .null, .null] [] s Q := by
  unfold v_122_14 at h
  refine zn_ld rfl rfl rfl ?_
  refine zn_ld rfl rfl rfl ?_
  refine zn_get (v := .ref 3) rfl (zv_C (a := 83) (n := 1) rfl rfl rfl) ?_
  refine zn_zt [.ref 3] [.int a3] (c := []) rfl rfl rfl rfl rfl (Zt.imp (zp_48 hd (Or.inl rfl)) (fun vq sq hq => ?_))
  obtain ⟨rfl, hq⟩ := hq
  rw [hq]
  change Zn _ _ _ _ _ _ _ _ _ _ _ [.int (s.1 35 2 / 3), .int a3] _ _
  refine zn_brP rfl rfl ⟨fun hcn => ?_, fun hcn => ?_⟩
  · replace h := h.1 ((i_le (x := s.1 35 2 / 3) (y := a3) rfl rfl).mp hcn)
    refine zn_c [.int 0] (xo_push (.int 0)) rfl rfl ?_
    refine zn_st [.ref 83, .ref 3, .int a2, .int 0, .null, .null] rfl rfl rfl ?_
    exact ml_122_29_3 hd  h
  · replace h := h.2 (fun q => hcn ((i_le (x := s.1 35 2 / 3) (y := a3) rfl rfl).mpr q))
    refine zn_ld rfl rfl rfl ?_
    refine zn_ld rfl rfl rfl ?_
    refine zn_ld rfl rfl rfl ?_
    refine zn_zt [.ref 83, .int a3] [.int a2] rfl rfl rfl rfl rfl (Zt.imp h (fun v1 s2 h => ?_))
    obtain ⟨x3, rfl, h⟩ := h
    change Zn _ _ _ _ _ _ _ _ _ _ _ [.int x3, .int a2] _ _
    refine zn_step (f := xMn) (st' := [.int (if x3 < a2 then x3 else a2)]) rfl (fun l => l) (fun _ h => h) (fun hh loc cs sl _ _ _ => rmn (Nat.le_of_ble_eq_true rfl)) ?_
    replace h := h (if x3 < a2 then x3 else a2) (i_mn a2 x3)
    refine zn_st [.ref 83, .ref 3, .int (if x3 < a2 then x3 else a2), .int a3, .null, .null] rfl rfl rfl ?_
    replace h := h _ (i_add (x := a3) (y := 1) rfl (show (1 : Int32).toInt = 1 by decide))
    refine zn_inc [.ref 83, .ref 3, .int (if x3 < a2 then x3 else a2), .int (a3 + 1), .null, .null] rfl rfl rfl rfl ?_
    refine zn_go rfl ?_
    exact r14 (if x3 < a2 then x3 else a2) (a3 + 1) s2 h
theorem ml_122_14_3 {d d0 : Nat} (hd : d = d0 + 8)  {a2 : Int32} {a3 : Int32} {s : zS} {Q : Option Value → zS → Prop}  (h : vl_122_14 (fun j => Zt d (wd 3 j) j) 3  a2 a3 s Q) : Zn d [(83, 1), (83, 2)] [(3, 98)] ([(83, 2, 4), (83, 1, 3), (75, 0, 3), (75, 1, 21), (75, 2, 25)] : zW) ([(83, 2, 4), (83, 1, 3), (75, 0, 3), (75, 1, 21), (75, 2, 25)] : zW) xL_10 4 (none) xE_122 (xE_122.drop 14) [.ref 83, .ref 3, .int a2, .int a3, .null, .null] [] s Q := by
  obtain ⟨I, μ, h0, h1⟩ := h
  have key : ∀ (n : Nat) (a2 : Int32) (a3 : Int32) (s : zS), μ a2 a3 s = n → I a2 a3 s → Zn d [(83, 1), (83, 2)] [(3, 98)] ([(83, 2, 4), (83, 1, 3), (75, 0, 3), (75, 1, 21), (75, 2, 25)] : zW) ([(83, 2, 4), (83, 1, 3), (75, 0, 3), (75, 1, 21), (75, 2, 25)] : zW) xL_10 4 (none) xE_122 (xE_122.drop 14) [.ref 83, .ref 3, .int a2, .int a3, .null, .null] [] s Q := by
    intro n
    induction n using Nat.strongRecOn with
    | ind n ih =>
      intro a2 a3 s e hI
      exact m_122_14_3 hd (fun a2' a3' s' q => ih _ (by rw [← e]; exact q.2) a2' a3' s' rfl q.1) (h1 a2 a3 s hI)
  exact key _ a2 a3 s rfl h0
set_option maxRecDepth 20000 in
theorem m_122_0_3 {d d0 : Nat} (hd : d = d0 + 8)   {s : zS} {Q : Option Value → zS → Prop}  (h : v_122_0 (fun j => Zt d (wd 3 j) j) 3   s Q) : Zn d [(83, 1), (83, 2)] [(3, 98)] ([(75, 0, 3), (75, 1, 21), (75, 2, 25)] : zW) ([(83, 2, 4), (83, 1, 3), (75, 0, 3), (75, 1, 21), (75, 2, 25)] : zW) xL_10 4 (none) xE_122 (xE_122.drop 0) [.ref 83, .ref 3, .null, .null, .null, .null] [] s Q := by
  unfold v_122_0 at h
  refine zn_ld rfl rfl rfl ?_
  refine zn_ld rfl rfl rfl ?_
  refine zn_ld rfl rfl rfl ?_
  refine zn_get (v := .ref 4) rfl (zv_R (a := 3) rfl rfl) ?_
  refine zn_zu [.ref 83, .ref 3, .ref 4] [] (c := []) (c' := [(83, 2, 4), (83, 1, 3)]) (w1 := ([(75, 0, 3), (75, 1, 21), (75, 2, 25)] : zW)) rfl rfl rfl rfl rfl rfl rfl (Zu.imp (zp_121 hd (Or.inl rfl)) (fun vq sq hq => ?_))
  obtain ⟨rfl, hq⟩ := hq
  rw [hq]
  change Zn _ _ _ _ _ _ _ _ _ _ _ [] _ _
  refine zn_ld rfl rfl rfl ?_
  refine zn_get (v := .ref 3) rfl (zv_C (a := 83) (n := 1) rfl rfl rfl) ?_
  refine zn_get (v := .int (s.1 3 14)) rfl (zv_I (a := 3) rfl rfl) ?_
  refine zn_brP rfl rfl ⟨fun hcn => ?_, fun hcn => ?_⟩
  · replace h := h.1 ((i_eq (x := s.1 3 14) (y := 0) rfl (show (0 : Int32).toInt = 0 by decide)).mp hcn)
    refine zn_c [.int 1000000] (xo_push (.int 1000000)) rfl rfl ?_
    refine zn_st [.ref 83, .ref 3, .int 1000000, .null, .null, .null] rfl rfl rfl ?_
    refine zn_c [.int 0] (xo_push (.int 0)) rfl rfl ?_
    refine zn_st [.ref 83, .ref 3, .int 1000000, .int 0, .null, .null] rfl rfl rfl ?_
    exact ml_122_14_3 hd  h
  · replace h := h.2 (fun q => hcn ((i_eq (x := s.1 3 14) (y := 0) rfl (show (0 : Int32).toInt = 0 by decide)).mpr q))
    exact zn_ret0 rfl h
theorem zq_122_3 {d : Nat}  {s : zS} {Q : Option Value → zS → Prop} (h : v_122_0 (fun j => Zt (d + 8) (wd 3 j) j) 3  s Q) : Zu (d + 9) [(83, 1), (83, 2)] ([(75, 0, 3), (75, 1, 21), (75, 2, 25)] : zW) ([(83, 2, 4), (83, 1, 3), (75, 0, 3), (75, 1, 21), (75, 2, 25)] : zW) 122 [.ref 83, .ref 3] s Q := zu_of (E := xE_122) (L := xL_10) (ml := 4) (ret := none) rfl rfl rfl (m_122_0_3 rfl h)
set_option maxRecDepth 20000 in
theorem m_122_65_39 {d d0 : Nat} (hd : d = d0 + 8)  {a2 : Int32} {a3 : Int32} {s : zS} {Q : Option Value → zS → Prop}  (h : v_122_65 (fun j => Zt d (wd 39 j) j) 39  a2 a3 s Q) : Zn d [(83, 1), (83, 2)] [(39, 98)] ([(83, 2, 40), (83, 1, 39), (75, 0, 39), (75, 1, 57), (75, 2, 61)] : zW) ([(83, 2, 40), (83, 1, 39), (75, 0, 39), (75, 1, 57), (75, 2, 61)] : zW) xL_10 4 (none) xE_122 (xE_122.drop 65) [.ref 83, .ref 39, .int a2, .int a3, .null, .null] [] s Q := by
  unfold v_122_65 at h
  exact zn_ret0 rfl h
set_option maxRecDepth 20000 in
theorem m_122_44_39 {d d0 : Nat} (hd : d = d0 + 8) {R44 : Int32 → Int32 → zS → Prop} {a2 : Int32} {a3 : Int32} {s : zS} {Q : Option Value → zS → Prop} (r44 : ∀ a2 a3 s, R44 a2 a3 s → Zn d [(83, 1), (83, 2)] [(39, 98)] ([(83, 2, 40), (83, 1, 39), (75, 0, 39), (75, 1, 57), (75, 2, 61)] : zW) ([(83, 2, 40), (83, 1, 39), (75, 0, 39), (75, 1, 57), (75, 2, 61)] : zW) xL_10 4 (none) xE_122 (xE_122.drop 44) [.ref 83, .ref 39, .int a2, .int a3, .null, .null] [] s Q) (h : v_122_44 (fun j => Zt d (wd 39 j) j) 39 R44 a2 a3 s Q) : Zn d [(83, 1), (83, 2)] [(39, 98)] ([(83, 2, 40), (83, 1, 39), (75, 0, 39), (75, 1, 57), (75, 2, 61)] : zW) ([(83, 2, 40), (83, 1, 39), (75, 0, 39), (75, 1, 57), (75, 2, 61)] : zW) xL_10 4 (none) xE_122 (xE_122.drop 44) [.ref 83, .ref 39, .int a2, .int a3, .null, .null] [] s Q := by
  unfold v_122_44 at h
  refine zn_ld rfl rfl rfl ?_
  refine zn_ld rfl rfl rfl ?_
  refine zn_get (v := .ref 39) rfl (zv_C (a := 83) (n := 1) rfl rfl rfl) ?_
  refine zn_zt [.ref 39] [.int a3] (c := []) rfl rfl rfl rfl rfl (Zt.imp (zp_45 hd (Or.inr rfl)) (fun vq sq hq => ?_))
  obtain ⟨rfl, hq⟩ := hq
  rw [hq]
  change Zn _ _ _ _ _ _ _ _ _ _ _ [.int (s.1 65 2 / 10), .int a3] _ _
  refine zn_brP rfl rfl ⟨fun hcn => ?_, fun hcn => ?_⟩
  · replace h := h.1 ((i_le (x := s.1 65 2 / 10) (y := a3) rfl rfl).mp hcn)
    refine zn_ld rfl rfl rfl ?_
    refine zn_c [.int 1000000, .int a2] (xo_push (.int 1000000)) rfl rfl ?_
    refine zn_brP rfl rfl ⟨fun hcn => ?_, fun hcn => ?_⟩
    · replace h := h.1 ((i_le (x := 1000000) (y := a2) (show (1000000 : Int32).toInt = 1000000 by decide) rfl).mp hcn)
      exact m_122_65_39 hd  h
    · replace h := h.2 (fun q => hcn ((i_le (x := 1000000) (y := a2) (show (1000000 : Int32).toInt = 1000000 by decide) rfl).mpr q))
      refine zn_ld rfl rfl rfl ?_
      refine zn_get (v := .ref 39) rfl (zv_C (a := 83) (n := 1) rfl rfl rfl) ?_
      refine zn_c [.int 3, .ref 39] (xo_push (.int 3)) rfl rfl ?_
      refine zn_ld rfl rfl rfl ?_
      refine zn_zt [.ref 39, .int 3, .int a2] [] rfl rfl rfl rfl rfl (Zt.imp h (fun v1 s2 h => ?_))
      obtain ⟨rfl, h⟩ := h
      change Zn _ _ _ _ _ _ _ _ _ _ _ [] _ _
      exact m_122_65_39 hd  h
  · replace h := h.2 (fun q => hcn ((i_le (x := s.1 65 2 / 10) (y := a3) rfl rfl).mpr q))
    refine zn_ld rfl rfl rfl ?_
    refine zn_ld rfl rfl rfl ?_
    refine zn_ld rfl rfl rfl ?_
    refine zn_zt [.ref 83, .int a3] [.int a2] rfl rfl rfl rfl rfl (Zt.imp h (fun v3 s4 h => ?_))
    obtain ⟨x5, rfl, h⟩ := h
    change Zn _ _ _ _ _ _ _ _ _ _ _ [.int x5, .int a2] _ _
    refine zn_step (f := xMn) (st' := [.int (if x5 < a2 then x5 else a2)]) rfl (fun l => l) (fun _ h => h) (fun hh loc cs sl _ _ _ => rmn (Nat.le_of_ble_eq_true rfl)) ?_
    replace h := h (if x5 < a2 then x5 else a2) (i_mn a2 x5)
    refine zn_st [.ref 83, .ref 39, .int (if x5 < a2 then x5 else a2), .int a3, .null, .null] rfl rfl rfl ?_
    replace h := h _ (i_add (x := a3) (y := 1) rfl (show (1 : Int32).toInt = 1 by decide))
    refine zn_inc [.ref 83, .ref 39, .int (if x5 < a2 then x5 else a2), .int (a3 + 1), .null, .null] rfl rfl rfl rfl ?_
    refine zn_go rfl ?_
    exact r44 (if x5 < a2 then x5 else a2) (a3 + 1) s4 h
theorem ml_122_44_39 {d d0 : Nat} (hd : d = d0 + 8)  {a2 : Int32} {a3 : Int32} {s : zS} {Q : Option Value → zS → Prop}  (h : vl_122_44 (fun j => Zt d (wd 39 j) j) 39  a2 a3 s Q) : Zn d [(83, 1), (83, 2)] [(39, 98)] ([(83, 2, 40), (83, 1, 39), (75, 0, 39), (75, 1, 57), (75, 2, 61)] : zW) ([(83, 2, 40), (83, 1, 39), (75, 0, 39), (75, 1, 57), (75, 2, 61)] : zW) xL_10 4 (none) xE_122 (xE_122.drop 44) [.ref 83, .ref 39, .int a2, .int a3, .null, .null] [] s Q := by
  obtain ⟨I, μ, h0, h1⟩ := h
  have key : ∀ (n : Nat) (a2 : Int32) (a3 : Int32) (s : zS), μ a2 a3 s = n → I a2 a3 s → Zn d [(83, 1), (83, 2)] [(39, 98)] ([(83, 2, 40), (83, 1, 39), (75, 0, 39), (75, 1, 57), (75, 2, 61)] : zW) ([(83, 2, 40), (83, 1, 39), (75, 0, 39), (75, 1, 57), (75, 2, 61)] : zW) xL_10 4 (none) xE_122 (xE_122.drop 44) [.ref 83, .ref 39, .int a2, .int a3, .null, .null] [] s Q := by
    intro n
    induction n using Nat.strongRecOn with
    | ind n ih =>
      intro a2 a3 s e hI
      exact m_122_44_39 hd (fun a2' a3' s' q => ih _ (by rw [← e]; exact q.2) a2' a3' s' rfl q.1) (h1 a2 a3 s hI)
  exact key _ a2 a3 s rfl h0
set_option maxRecDepth 20000 in
theorem m_122_29_39 {d d0 : Nat} (hd : d = d0 + 8) {R29 : Int32 → Int32 → zS → Prop} {a2 : Int32} {a3 : Int32} {s : zS} {Q : Option Value → zS → Prop} (r29 : ∀ a2 a3 s, R29 a2 a3 s → Zn d [(83, 1), (83, 2)] [(39, 98)] ([(83, 2, 40), (83, 1, 39), (75, 0, 39), (75, 1, 57), (75, 2, 61)] : zW) ([(83, 2, 40), (83, 1, 39), (75, 0, 39), (75, 1, 57), (75, 2, 61)] : zW) xL_10 4 (none) xE_122 (xE_122.drop 29) [.ref 83, .ref 39, .int a2, .int a3, .null, .null] [] s Q) (h : v_122_29 (fun j => Zt d (wd 39 j) j) 39 R29 a2 a3 s Q) : Zn d [(83, 1), (83, 2)] [(39, 98)] ([(83, 2, 40), (83, 1, 39), (75, 0, 39), (75, 1, 57), (75, 2, 61)] : zW) ([(83, 2, 40), (83, 1, 39), (75, 0, 39), (75, 1, 57), (75, 2, 61)] : zW) xL_10 4 (none) xE_122 (xE_122.drop 29) [.ref 83, .ref 39, .int a2, .int a3, .null, .null] [] s Q := by
  unfold v_122_29 at h
  refine zn_ld rfl rfl rfl ?_
  refine zn_ld rfl rfl rfl ?_
  refine zn_get (v := .ref 39) rfl (zv_C (a := 83) (n := 1) rfl rfl rfl) ?_
  refine zn_zt [.ref 39] [.int a3] (c := []) rfl rfl rfl rfl rfl (Zt.imp (zp_44 hd (Or.inr rfl)) (fun vq sq hq => ?_))
  obtain ⟨rfl, hq⟩ := hq
  rw [hq]
  change Zn _ _ _ _ _ _ _ _ _ _ _ [.int (s.1 63 2 / 6), .int a3] _ _
  refine zn_brP rfl rfl ⟨fun hcn => ?_, fun hcn => ?_⟩
  · replace h := h.1 ((i_le (x := s.1 63 2 / 6) (y := a3) rfl rfl).mp hcn)
    refine zn_c [.int 0] (xo_push (.int 0)) rfl rfl ?_
    refine zn_st [.ref 83, .ref 39, .int a2, .int 0, .null, .null] rfl rfl rfl ?_
    exact ml_122_44_39 hd  h
  · replace h := h.2 (fun q => hcn ((i_le (x := s.1 63 2 / 6) (y := a3) rfl rfl).mpr q))
    refine zn_ld rfl rfl rfl ?_
    refine zn_ld rfl rfl rfl ?_
    refine zn_ld rfl rfl rfl ?_
    refine zn_zt [.ref 83, .int a3] [.int a2] rfl rfl rfl rfl rfl (Zt.imp h (fun v1 s2 h => ?_))
    obtain ⟨x3, rfl, h⟩ := h
    change Zn _ _ _ _ _ _ _ _ _ _ _ [.int x3, .int a2] _ _
    refine zn_step (f := xMn) (st' := [.int (if x3 < a2 then x3 else a2)]) rfl (fun l => l) (fun _ h => h) (fun hh loc cs sl _ _ _ => rmn (Nat.le_of_ble_eq_true rfl)) ?_
    replace h := h (if x3 < a2 then x3 else a2) (i_mn a2 x3)
    refine zn_st [.ref 83, .ref 39, .int (if x3 < a2 then x3 else a2), .int a3, .null, .null] rfl rfl rfl ?_
    replace h := h _ (i_add (x := a3) (y := 1) rfl (show (1 : Int32).toInt = 1 by decide))
    refine zn_inc [.ref 83, .ref 39, .int (if x3 < a2 then x3 else a2), .int (a3 + 1), .null, .null] rfl rfl rfl rfl ?_
    refine zn_go rfl ?_
    exact r29 (if x3 < a2 then x3 else a2) (a3 + 1) s2 h
theorem ml_122_29_39 {d d0 : Nat} (hd : d = d0 + 8)  {a2 : Int32} {a3 : Int32} {s : zS} {Q : Option Value → zS → Prop}  (h : vl_122_29 (fun j => Zt d (wd 39 j) j) 39  a2 a3 s Q) : Zn d [(83, 1), (83, 2)] [(39, 98)] ([(83, 2, 40), (83, 1, 39), (75, 0, 39), (75, 1, 57), (75, 2, 61)] : zW) ([(83, 2, 40), (83, 1, 39), (75, 0, 39), (75, 1, 57), (75, 2, 61)] : zW) xL_10 4 (none) xE_122 (xE_122.drop 29) [.ref 83, .ref 39, .int a2, .int a3, .null, .null] [] s Q := by
  obtain ⟨I, μ, h0, h1⟩ := h
  have key : ∀ (n : Nat) (a2 : Int32) (a3 : Int32) (s : zS), μ a2 a3 s = n → I a2 a3 s → Zn d [(83, 1), (83, 2)] [(39, 98)] ([(83, 2, 40), (83, 1, 39), (75, 0, 39), (75, 1, 57), (75, 2, 61)] : zW) ([(83, 2, 40), (83, 1, 39), (75, 0, 39), (75, 1, 57), (75, 2, 61)] : zW) xL_10 4 (none) xE_122 (xE_122.drop 29) [.ref 83, .ref 39, .int a2, .int a3, .null, .null] [] s Q := by
    intro n
    induction n using Nat.strongRecOn with
    | ind n ih =>
      intro a2 a3 s e hI
      exact m_122_29_39 hd (fun a2' a3' s' q => ih _ (by rw [← e]; exact q.2) a2' a3' s' rfl q.1) (h1 a2 a3 s hI)
  exact key _ a2 a3 s rfl h0
set_option maxRecDepth 20000 in
theorem m_122_14_39 {d d0 : Nat} (hd : d = d0 + 8) {R14 : Int32 → Int32 → zS → Prop} {a2 : Int32} {a3 : Int32} {s : zS} {Q : Option Value → zS → Prop} (r14 : ∀ a2 a3 s, R14 a2 a3 s → Zn d [(83, 1), (83, 2)] [(39, 98)] ([(83, 2, 40), (83, 1, 39), (75, 0, 39), (75, 1, 57), (75, 2, 61)] : zW) ([(83, 2, 40), (83, 1, 39), (75, 0, 39), (75, 1, 57), (75, 2, 61)] : zW) xL_10 4 (none) xE_122 (xE_122.drop 14) [.ref 83, .ref 39, .int a2, .int a3, .null, .null] [] s Q) (h : v_122_14 (fun j => Zt d (wd 39 j) j) 39 R14 a2 a3 s Q) : Zn d [(83, 1), (83, 2)] [(39, 98)] ([(83, 2, 40), (83, 1, 39), (75, 0, 39), (75, 1, 57), (75, 2, 61)] : zW) ([(83, 2, 40), (83, 1, 39), (75, 0, 39), (75, 1, 57), (75, 2, 61)] : zW) xL_10 4 (none) xE_122 (xE_122.drop 14) [.ref 83, .ref 39, .int a2, .int a3, .null, .null] [] s Q := by
  unfold v_122_14 at h
  refine zn_ld rfl rfl rfl ?_
  refine zn_ld rfl rfl rfl ?_
  refine zn_get (v := .ref 39) rfl (zv_C (a := 83) (n := 1) rfl rfl rfl) ?_
  refine zn_zt [.ref 39] [.int a3] (c := []) rfl rfl rfl rfl rfl (Zt.imp (zp_48 hd (Or.inr rfl)) (fun vq sq hq => ?_))
  obtain ⟨rfl, hq⟩ := hq
  rw [hq]
  change Zn _ _ _ _ _ _ _ _ _ _ _ [.int (s.1 71 2 / 3), .int a3] _ _
  refine zn_brP rfl rfl ⟨fun hcn => ?_, fun hcn => ?_⟩
  · replace h := h.1 ((i_le (x := s.1 71 2 / 3) (y := a3) rfl rfl).mp hcn)
    refine zn_c [.int 0] (xo_push (.int 0)) rfl rfl ?_
    refine zn_st [.ref 83, .ref 39, .int a2, .int 0, .null, .null] rfl rfl rfl ?_
    exact ml_122_29_39 hd  h
  · replace h := h.2 (fun q => hcn ((i_le (x := s.1 71 2 / 3) (y := a3) rfl rfl).mpr q))
    refine zn_ld rfl rfl rfl ?_
    refine zn_ld rfl rfl rfl ?_
    refine zn_ld rfl rfl rfl ?_
    refine zn_zt [.ref 83, .int a3] [.int a2] rfl rfl rfl rfl rfl (Zt.imp h (fun v1 s2 h => ?_))
    obtain ⟨x3, rfl, h⟩ := h
    change Zn _ _ _ _ _ _ _ _ _ _ _ [.int x3, .int a2] _ _
    refine zn_step (f := xMn) (st' := [.int (if x3 < a2 then x3 else a2)]) rfl (fun l => l) (fun _ h => h) (fun hh loc cs sl _ _ _ => rmn (Nat.le_of_ble_eq_true rfl)) ?_
    replace h := h (if x3 < a2 then x3 else a2) (i_mn a2 x3)
    refine zn_st [.ref 83, .ref 39, .int (if x3 < a2 then x3 else a2), .int a3, .null, .null] rfl rfl rfl ?_
    replace h := h _ (i_add (x := a3) (y := 1) rfl (show (1 : Int32).toInt = 1 by decide))
    refine zn_inc [.ref 83, .ref 39, .int (if x3 < a2 then x3 else a2), .int (a3 + 1), .null, .null] rfl rfl rfl rfl ?_
    refine zn_go rfl ?_
    exact r14 (if x3 < a2 then x3 else a2) (a3 + 1) s2 h
theorem ml_122_14_39 {d d0 : Nat} (hd : d = d0 + 8)  {a2 : Int32} {a3 : Int32} {s : zS} {Q : Option Value → zS → Prop}  (h : vl_122_14 (fun j => Zt d (wd 39 j) j) 39  a2 a3 s Q) : Zn d [(83, 1), (83, 2)] [(39, 98)] ([(83, 2, 40), (83, 1, 39), (75, 0, 39), (75, 1, 57), (75, 2, 61)] : zW) ([(83, 2, 40), (83, 1, 39), (75, 0, 39), (75, 1, 57), (75, 2, 61)] : zW) xL_10 4 (none) xE_122 (xE_122.drop 14) [.ref 83, .ref 39, .int a2, .int a3, .null, .null] [] s Q := by
  obtain ⟨I, μ, h0, h1⟩ := h
  have key : ∀ (n : Nat) (a2 : Int32) (a3 : Int32) (s : zS), μ a2 a3 s = n → I a2 a3 s → Zn d [(83, 1), (83, 2)] [(39, 98)] ([(83, 2, 40), (83, 1, 39), (75, 0, 39), (75, 1, 57), (75, 2, 61)] : zW) ([(83, 2, 40), (83, 1, 39), (75, 0, 39), (75, 1, 57), (75, 2, 61)] : zW) xL_10 4 (none) xE_122 (xE_122.drop 14) [.ref 83, .ref 39, .int a2, .int a3, .null, .null] [] s Q := by
    intro n
    induction n using Nat.strongRecOn with
    | ind n ih =>
      intro a2 a3 s e hI
      exact m_122_14_39 hd (fun a2' a3' s' q => ih _ (by rw [← e]; exact q.2) a2' a3' s' rfl q.1) (h1 a2 a3 s hI)
  exact key _ a2 a3 s rfl h0
set_option maxRecDepth 20000 in
theorem m_122_0_39 {d d0 : Nat} (hd : d = d0 + 8)   {s : zS} {Q : Option Value → zS → Prop}  (h : v_122_0 (fun j => Zt d (wd 39 j) j) 39   s Q) : Zn d [(83, 1), (83, 2)] [(39, 98)] ([(75, 0, 39), (75, 1, 57), (75, 2, 61)] : zW) ([(83, 2, 40), (83, 1, 39), (75, 0, 39), (75, 1, 57), (75, 2, 61)] : zW) xL_10 4 (none) xE_122 (xE_122.drop 0) [.ref 83, .ref 39, .null, .null, .null, .null] [] s Q := by
  unfold v_122_0 at h
  refine zn_ld rfl rfl rfl ?_
  refine zn_ld rfl rfl rfl ?_
  refine zn_ld rfl rfl rfl ?_
  refine zn_get (v := .ref 40) rfl (zv_R (a := 39) rfl rfl) ?_
  refine zn_zu [.ref 83, .ref 39, .ref 40] [] (c := []) (c' := [(83, 2, 40), (83, 1, 39)]) (w1 := ([(75, 0, 39), (75, 1, 57), (75, 2, 61)] : zW)) rfl rfl rfl rfl rfl rfl rfl (Zu.imp (zp_121 hd (Or.inr rfl)) (fun vq sq hq => ?_))
  obtain ⟨rfl, hq⟩ := hq
  rw [hq]
  change Zn _ _ _ _ _ _ _ _ _ _ _ [] _ _
  refine zn_ld rfl rfl rfl ?_
  refine zn_get (v := .ref 39) rfl (zv_C (a := 83) (n := 1) rfl rfl rfl) ?_
  refine zn_get (v := .int (s.1 39 14)) rfl (zv_I (a := 39) rfl rfl) ?_
  refine zn_brP rfl rfl ⟨fun hcn => ?_, fun hcn => ?_⟩
  · replace h := h.1 ((i_eq (x := s.1 39 14) (y := 0) rfl (show (0 : Int32).toInt = 0 by decide)).mp hcn)
    refine zn_c [.int 1000000] (xo_push (.int 1000000)) rfl rfl ?_
    refine zn_st [.ref 83, .ref 39, .int 1000000, .null, .null, .null] rfl rfl rfl ?_
    refine zn_c [.int 0] (xo_push (.int 0)) rfl rfl ?_
    refine zn_st [.ref 83, .ref 39, .int 1000000, .int 0, .null, .null] rfl rfl rfl ?_
    exact ml_122_14_39 hd  h
  · replace h := h.2 (fun q => hcn ((i_eq (x := s.1 39 14) (y := 0) rfl (show (0 : Int32).toInt = 0 by decide)).mpr q))
    exact zn_ret0 rfl h
theorem zq_122_39 {d : Nat}  {s : zS} {Q : Option Value → zS → Prop} (h : v_122_0 (fun j => Zt (d + 8) (wd 39 j) j) 39  s Q) : Zu (d + 9) [(83, 1), (83, 2)] ([(75, 0, 39), (75, 1, 57), (75, 2, 61)] : zW) ([(83, 2, 40), (83, 1, 39), (75, 0, 39), (75, 1, 57), (75, 2, 61)] : zW) 122 [.ref 83, .ref 39] s Q := zu_of (E := xE_122) (L := xL_10) (ml := 4) (ret := none) rfl rfl rfl (m_122_0_39 rfl h)
theorem zc_122 {d P : Nat} (hP : P = 3 ∨ P = 39)  {s : zS} {Q : Option Value → zS → Prop} (h : v_122_0 (fun j => Zt (d + 8) (wd P j) j) P  s Q) : Zu (d + 9) [(83, 1), (83, 2)] [(75, 0, P), (75, 1, P + 18), (75, 2, P + 22)] [(83, 2, P + 1), (83, 1, P), (75, 0, P), (75, 1, P + 18), (75, 2, P + 22)] 122 [.ref 83, .ref P] s Q := by
  rcases hP with rfl | rfl
  · exact zq_122_3 h
  · exact zq_122_39 h
/-! FeatherBench$Told.tellAll -/
def v_128_56 (T : Nat → List Value → zS → (Option Value → zS → Prop) → Prop) (P : Nat)  (a2 : Int32) (s : zS) (Q : Option Value → zS → Prop) : Prop :=
  Q none s
def v_128_54 (T : Nat → List Value → zS → (Option Value → zS → Prop) → Prop) (P : Nat) (R7 : Int32 → zS → Prop) (a2 : Int32) (a3 : Int32) (a4 : Int32) (s : zS) (Q : Option Value → zS → Prop) : Prop :=
  ∀ x1 : Int32, (-2147483648 ≤ a2.toInt + 1 ∧ a2.toInt + 1 ≤ 2147483647 → x1.toInt = a2.toInt + 1) → R7 x1 s
def v_128_38 (T : Nat → List Value → zS → (Option Value → zS → Prop) → Prop) (P : Nat) (R7 : Int32 → zS → Prop) (R38 : Int32 → Int32 → Int32 → zS → Prop) (a2 : Int32) (a3 : Int32) (a4 : Int32) (s : zS) (Q : Option Value → zS → Prop) : Prop :=
  ((zg s (P + 32) (a2 * 3 + 2)).toInt ≤ a4.toInt → v_128_54 T P R7 a2 a3 a4 s Q) ∧ (¬ ((zg s (P + 32) (a2 * 3 + 2)).toInt ≤ a4.toInt) → (¬ ((s.1 P 14).toInt = 0) → v_128_54 T P R7 a2 a3 a4 s Q) ∧ ((s.1 P 14).toInt = 0 → T 131 [.ref 83, .int a4] s (fun v2 s3 => v2 = none ∧ (∀ x4 : Int32, (-2147483648 ≤ a4.toInt + 1 ∧ a4.toInt + 1 ≤ 2147483647 → x4.toInt = a4.toInt + 1) → R38 a2 a3 x4 s3))))
def vl_128_38 (T : Nat → List Value → zS → (Option Value → zS → Prop) → Prop) (P : Nat) (R7 : Int32 → zS → Prop) (a2 : Int32) (a3 : Int32) (a4 : Int32) (s : zS) (Q : Option Value → zS → Prop) : Prop :=
  ∃ (I : Int32 → Int32 → Int32 → zS → Prop) (μ : Int32 → Int32 → Int32 → zS → Nat), I a2 a3 a4 s ∧ ∀ (a2 : Int32) (a3 : Int32) (a4 : Int32) (s : zS), I a2 a3 a4 s → v_128_38 T P R7 (fun a2' a3' a4' s' => I a2' a3' a4' s' ∧ μ a2' a3' a4' s' < μ a2 a3 a4 s) a2 a3 a4 s Q
def v_128_29 (T : Nat → List Value → zS → (Option Value → zS → Prop) → Prop) (P : Nat) (R7 : Int32 → zS → Prop) (a2 : Int32) (a3 : Int32) (s : zS) (Q : Option Value → zS → Prop) : Prop :=
  T 130 [.ref 83, .int a3] s (fun v1 s2 => v1 = none ∧ (vl_128_38 T P R7 a2 a3 (zg s2 (P + 32) (a2 * 3 + 1)) s2 Q))
def v_128_7 (T : Nat → List Value → zS → (Option Value → zS → Prop) → Prop) (P : Nat) (R7 : Int32 → zS → Prop) (a2 : Int32) (s : zS) (Q : Option Value → zS → Prop) : Prop :=
  ((s.1 (P + 32) 2 / 3).toInt ≤ a2.toInt → v_128_56 T P  a2 s Q) ∧ (¬ ((s.1 (P + 32) 2 / 3).toInt ≤ a2.toInt) → (¬ ((s.1 P 14).toInt = 0) → v_128_56 T P  a2 s Q) ∧ ((s.1 P 14).toInt = 0 → (0 ≤ (zg s (P + 32) (a2 * 3 + 0)).toInt → v_128_29 T P R7 a2 (zg s (P + 32) (a2 * 3 + 0)) s Q) ∧ (¬ (0 ≤ (zg s (P + 32) (a2 * 3 + 0)).toInt) → ∀ x2 : Int32, (-2147483648 ≤ (-1) - (zg s (P + 32) (a2 * 3 + 0)).toInt ∧ (-1) - (zg s (P + 32) (a2 * 3 + 0)).toInt ≤ 2147483647 → x2.toInt = (-1) - (zg s (P + 32) (a2 * 3 + 0)).toInt) → T 129 [.ref 83, .int x2] s (fun v3 s4 => v3 = none ∧ (v_128_29 T P R7 a2 (zg s (P + 32) (a2 * 3 + 0)) s4 Q)))))
def vl_128_7 (T : Nat → List Value → zS → (Option Value → zS → Prop) → Prop) (P : Nat)  (a2 : Int32) (s : zS) (Q : Option Value → zS → Prop) : Prop :=
  ∃ (I : Int32 → zS → Prop) (μ : Int32 → zS → Nat), I a2 s ∧ ∀ (a2 : Int32) (s : zS), I a2 s → v_128_7 T P (fun a2' s' => I a2' s' ∧ μ a2' s' < μ a2 s) a2 s Q
def v_128_0 (T : Nat → List Value → zS → (Option Value → zS → Prop) → Prop) (P : Nat)   (s : zS) (Q : Option Value → zS → Prop) : Prop :=
  vl_128_7 T P  0 s Q
set_option maxRecDepth 20000 in
theorem m_128_56_3 {d d0 : Nat} (hd : d = d0 + 8)  {a2 : Int32} {s : zS} {Q : Option Value → zS → Prop}  (h : v_128_56 (fun j => Zt d (wd 3 j) j) 3  a2 s Q) : Zn d [(83, 1), (83, 2)] [(3, 99), (3, 98)] ([(83, 2, 4), (83, 1, 3), (75, 0, 3), (75, 1, 21), (75, 2, 25)] : zW) ([(83, 2, 4), (83, 1, 3), (75, 0, 3), (75, 1, 21), (75, 2, 25)] : zW) xL_10 5 (none) xE_128 (xE_128.drop 56) [.ref 83, .ref 3, .int a2, .null, .null, .null, .null] [] s Q := by
  unfold v_128_56 at h
  exact zn_ret0 rfl h
set_option maxRecDepth 20000 in
theorem m_128_54_3 {d d0 : Nat} (hd : d = d0 + 8) {R7 : Int32 → zS → Prop} {a2 : Int32} {a3 : Int32} {a4 : Int32} {s : zS} {Q : Option Value → zS → Prop} (r7 : ∀ a2 s, R7 a2 s → Zn d [(83, 1), (83, 2)] [(3, 99), (3, 98)] ([(83, 2, 4), (83, 1, 3), (75, 0, 3), (75, 1, 21), (75, 2, 25)] : zW) ([(83, 2, 4), (83, 1, 3), (75, 0, 3), (75, 1, 21), (75, 2, 25)] : zW) xL_10 5 (none) xE_128 (xE_128.drop 7) [.ref 83, .ref 3, .int a2, .null, .null, .null, .null] [] s Q) (h : v_128_54 (fun j => Zt d (wd 3 j) j) 3 R7 a2 a3 a4 s Q) : Zn d [(83, 1), (83, 2)] [(3, 99), (3, 98)] ([(83, 2, 4), (83, 1, 3), (75, 0, 3), (75, 1, 21), (75, 2, 25)] : zW) ([(83, 2, 4), (83, 1, 3), (75, 0, 3), (75, 1, 21), (75, 2, 25)] : zW) xL_10 5 (none) xE_128 (xE_128.drop 54) [.ref 83, .ref 3, .int a2, .int a3, .int a4, .null, .null] [] s Q := by
  unfold v_128_54 at h
  replace h := h _ (i_add (x := a2) (y := 1) rfl (show (1 : Int32).toInt = 1 by decide))
  refine zn_inc [.ref 83, .ref 3, .int (a2 + 1), .int a3, .int a4, .null, .null] rfl rfl rfl rfl ?_
  refine zn_go rfl ?_
  refine zn_fg 3 ?_
  refine zn_fg 4 ?_
  exact r7 (a2 + 1) s h
set_option maxRecDepth 20000 in
theorem m_128_38_3 {d d0 : Nat} (hd : d = d0 + 8) {R7 : Int32 → zS → Prop} {R38 : Int32 → Int32 → Int32 → zS → Prop} {a2 : Int32} {a3 : Int32} {a4 : Int32} {s : zS} {Q : Option Value → zS → Prop} (r7 : ∀ a2 s, R7 a2 s → Zn d [(83, 1), (83, 2)] [(3, 99), (3, 98)] ([(83, 2, 4), (83, 1, 3), (75, 0, 3), (75, 1, 21), (75, 2, 25)] : zW) ([(83, 2, 4), (83, 1, 3), (75, 0, 3), (75, 1, 21), (75, 2, 25)] : zW) xL_10 5 (none) xE_128 (xE_128.drop 7) [.ref 83, .ref 3, .int a2, .null, .null, .null, .null] [] s Q) (r38 : ∀ a2 a3 a4 s, R38 a2 a3 a4 s → Zn d [(83, 1), (83, 2)] [(3, 99), (3, 98)] ([(83, 2, 4), (83, 1, 3), (75, 0, 3), (75, 1, 21), (75, 2, 25)] : zW) ([(83, 2, 4), (83, 1, 3), (75, 0, 3), (75, 1, 21), (75, 2, 25)] : zW) xL_10 5 (none) xE_128 (xE_128.drop 38) [.ref 83, .ref 3, .int a2, .int a3, .int a4, .null, .null] [] s Q) (h : v_128_38 (fun j => Zt d (wd 3 j) j) 3 R7 R38 a2 a3 a4 s Q) : Zn d [(83, 1), (83, 2)] [(3, 99), (3, 98)] ([(83, 2, 4), (83, 1, 3), (75, 0, 3), (75, 1, 21), (75, 2, 25)] : zW) ([(83, 2, 4), (83, 1, 3), (75, 0, 3), (75, 1, 21), (75, 2, 25)] : zW) xL_10 5 (none) xE_128 (xE_128.drop 38) [.ref 83, .ref 3, .int a2, .int a3, .int a4, .null, .null] [] s Q := by
  unfold v_128_38 at h
  refine zn_ld rfl rfl rfl ?_
  refine zn_ld rfl rfl rfl ?_
  refine zn_get (v := .ref 3) rfl (zv_C (a := 83) (n := 1) rfl rfl rfl) ?_
  refine zn_ld rfl rfl rfl ?_
  refine zn_c [.int 2, .int a2, .ref 3, .int a4] (xo_push (.int 2)) rfl rfl ?_
  refine zn_zt [.ref 3, .int a2, .int 2] [.int a4] (c := []) rfl rfl rfl rfl rfl (Zt.imp (zp_43 hd (Or.inl rfl)) (fun vq sq hq => ?_))
  obtain ⟨rfl, hq⟩ := hq
  rw [hq]
  change Zn _ _ _ _ _ _ _ _ _ _ _ [.int (zg s 35 (a2 * 3 + 2)), .int a4] _ _
  refine zn_brP rfl rfl ⟨fun hcn => ?_, fun hcn => ?_⟩
  · replace h := h.1 ((i_le (x := zg s 35 (a2 * 3 + 2)) (y := a4) rfl rfl).mp hcn)
    exact m_128_54_3 hd r7 h
  · replace h := h.2 (fun q => hcn ((i_le (x := zg s 35 (a2 * 3 + 2)) (y := a4) rfl rfl).mpr q))
    refine zn_ld rfl rfl rfl ?_
    refine zn_get (v := .ref 3) rfl (zv_C (a := 83) (n := 1) rfl rfl rfl) ?_
    refine zn_get (v := .int (s.1 3 14)) rfl (zv_I (a := 3) rfl rfl) ?_
    refine zn_brN rfl rfl ⟨fun hcn => ?_, fun hcn => ?_⟩
    · replace h := h.1 (fun q => hcn ((i_eq (x := s.1 3 14) (y := 0) rfl (show (0 : Int32).toInt = 0 by decide)).mpr q))
      exact m_128_54_3 hd r7 h
    · replace h := h.2 ((i_eq (x := s.1 3 14) (y := 0) rfl (show (0 : Int32).toInt = 0 by decide)).mp hcn)
      refine zn_ld rfl rfl rfl ?_
      refine zn_ld rfl rfl rfl ?_
      refine zn_zt [.ref 83, .int a4] [] rfl rfl rfl rfl rfl (Zt.imp h (fun v2 s3 h => ?_))
      obtain ⟨rfl, h⟩ := h
      change Zn _ _ _ _ _ _ _ _ _ _ _ [] _ _
      replace h := h _ (i_add (x := a4) (y := 1) rfl (show (1 : Int32).toInt = 1 by decide))
      refine zn_inc [.ref 83, .ref 3, .int a2, .int a3, .int (a4 + 1), .null, .null] rfl rfl rfl rfl ?_
      refine zn_go rfl ?_
      exact r38 a2 a3 (a4 + 1) s3 h
theorem ml_128_38_3 {d d0 : Nat} (hd : d = d0 + 8) {R7 : Int32 → zS → Prop} {a2 : Int32} {a3 : Int32} {a4 : Int32} {s : zS} {Q : Option Value → zS → Prop} (r7 : ∀ a2 s, R7 a2 s → Zn d [(83, 1), (83, 2)] [(3, 99), (3, 98)] ([(83, 2, 4), (83, 1, 3), (75, 0, 3), (75, 1, 21), (75, 2, 25)] : zW) ([(83, 2, 4), (83, 1, 3), (75, 0, 3), (75, 1, 21), (75, 2, 25)] : zW) xL_10 5 (none) xE_128 (xE_128.drop 7) [.ref 83, .ref 3, .int a2, .null, .null, .null, .null] [] s Q) (h : vl_128_38 (fun j => Zt d (wd 3 j) j) 3 R7 a2 a3 a4 s Q) : Zn d [(83, 1), (83, 2)] [(3, 99), (3, 98)] ([(83, 2, 4), (83, 1, 3), (75, 0, 3), (75, 1, 21), (75, 2, 25)] : zW) ([(83, 2, 4), (83, 1, 3), (75, 0, 3), (75, 1, 21), (75, 2, 25)] : zW) xL_10 5 (none) xE_128 (xE_128.drop 38) [.ref 83, .ref 3, .int a2, .int a3, .int a4, .null, .null] [] s Q := by
  obtain ⟨I, μ, h0, h1⟩ := h
  have key : ∀ (n : Nat) (a2 : Int32) (a3 : Int32) (a4 : Int32) (s : zS), μ a2 a3 a4 s = n → I a2 a3 a4 s → Zn d [(83, 1), (83, 2)] [(3, 99), (3, 98)] ([(83, 2, 4), (83, 1, 3), (75, 0, 3), (75, 1, 21), (75, 2, 25)] : zW) ([(83, 2, 4), (83, 1, 3), (75, 0, 3), (75, 1, 21), (75, 2, 25)] : zW) xL_10 5 (none) xE_128 (xE_128.drop 38) [.ref 83, .ref 3, .int a2, .int a3, .int a4, .null, .null] [] s Q := by
    intro n
    induction n using Nat.strongRecOn with
    | ind n ih =>
      intro a2 a3 a4 s e hI
      exact m_128_38_3 hd r7 (fun a2' a3' a4' s' q => ih _ (by rw [← e]; exact q.2) a2' a3' a4' s' rfl q.1) (h1 a2 a3 a4 s hI)
  exact key _ a2 a3 a4 s rfl h0
set_option maxRecDepth 20000 in
theorem m_128_29_3 {d d0 : Nat} (hd : d = d0 + 8) {R7 : Int32 → zS → Prop} {a2 : Int32} {a3 : Int32} {s : zS} {Q : Option Value → zS → Prop} (r7 : ∀ a2 s, R7 a2 s → Zn d [(83, 1), (83, 2)] [(3, 99), (3, 98)] ([(83, 2, 4), (83, 1, 3), (75, 0, 3), (75, 1, 21), (75, 2, 25)] : zW) ([(83, 2, 4), (83, 1, 3), (75, 0, 3), (75, 1, 21), (75, 2, 25)] : zW) xL_10 5 (none) xE_128 (xE_128.drop 7) [.ref 83, .ref 3, .int a2, .null, .null, .null, .null] [] s Q) (h : v_128_29 (fun j => Zt d (wd 3 j) j) 3 R7 a2 a3 s Q) : Zn d [(83, 1), (83, 2)] [(3, 99), (3, 98)] ([(83, 2, 4), (83, 1, 3), (75, 0, 3), (75, 1, 21), (75, 2, 25)] : zW) ([(83, 2, 4), (83, 1, 3), (75, 0, 3), (75, 1, 21), (75, 2, 25)] : zW) xL_10 5 (none) xE_128 (xE_128.drop 29) [.ref 83, .ref 3, .int a2, .int a3, .null, .null, .null] [] s Q := by
  unfold v_128_29 at h
  refine zn_ld rfl rfl rfl ?_
  refine zn_ld rfl rfl rfl ?_
  refine zn_zt [.ref 83, .int a3] [] rfl rfl rfl rfl rfl (Zt.imp h (fun v1 s2 h => ?_))
  obtain ⟨rfl, h⟩ := h
  change Zn _ _ _ _ _ _ _ _ _ _ _ [] _ _
  refine zn_ld rfl rfl rfl ?_
  refine zn_get (v := .ref 3) rfl (zv_C (a := 83) (n := 1) rfl rfl rfl) ?_
  refine zn_ld rfl rfl rfl ?_
  refine zn_c [.int 1, .int a2, .ref 3] (xo_push (.int 1)) rfl rfl ?_
  refine zn_zt [.ref 3, .int a2, .int 1] [] (c := []) rfl rfl rfl rfl rfl (Zt.imp (zp_43 hd (Or.inl rfl)) (fun vq sq hq => ?_))
  obtain ⟨rfl, hq⟩ := hq
  rw [hq]
  change Zn _ _ _ _ _ _ _ _ _ _ _ [.int (zg s2 35 (a2 * 3 + 1))] _ _
  refine zn_st [.ref 83, .ref 3, .int a2, .int a3, .int (zg s2 35 (a2 * 3 + 1)), .null, .null] rfl rfl rfl ?_
  exact ml_128_38_3 hd r7 h
set_option maxRecDepth 20000 in
theorem m_128_7_3 {d d0 : Nat} (hd : d = d0 + 8) {R7 : Int32 → zS → Prop} {a2 : Int32} {s : zS} {Q : Option Value → zS → Prop} (r7 : ∀ a2 s, R7 a2 s → Zn d [(83, 1), (83, 2)] [(3, 99), (3, 98)] ([(83, 2, 4), (83, 1, 3), (75, 0, 3), (75, 1, 21), (75, 2, 25)] : zW) ([(83, 2, 4), (83, 1, 3), (75, 0, 3), (75, 1, 21), (75, 2, 25)] : zW) xL_10 5 (none) xE_128 (xE_128.drop 7) [.ref 83, .ref 3, .int a2, .null, .null, .null, .null] [] s Q) (h : v_128_7 (fun j => Zt d (wd 3 j) j) 3 R7 a2 s Q) : Zn d [(83, 1), (83, 2)] [(3, 99), (3, 98)] ([(83, 2, 4), (83, 1, 3), (75, 0, 3), (75, 1, 21), (75, 2, 25)] : zW) ([(83, 2, 4), (83, 1, 3), (75, 0, 3), (75, 1, 21), (75, 2, 25)] : zW) xL_10 5 (none) xE_128 (xE_128.drop 7) [.ref 83, .ref 3, .int a2, .null, .null, .null, .null] [] s Q := by
  unfold v_128_7 at h
  refine zn_ld rfl rfl rfl ?_
  refine zn_ld rfl rfl rfl ?_
  refine zn_get (v := .ref 3) rfl (zv_C (a := 83) (n := 1) rfl rfl rfl) ?_
  refine zn_zt [.ref 3] [.int a2] (c := []) rfl rfl rfl rfl rfl (Zt.imp (zp_48 hd (Or.inl rfl)) (fun vq sq hq => ?_))
  obtain ⟨rfl, hq⟩ := hq
  rw [hq]
  change Zn _ _ _ _ _ _ _ _ _ _ _ [.int (s.1 35 2 / 3), .int a2] _ _
  refine zn_brP rfl rfl ⟨fun hcn => ?_, fun hcn => ?_⟩
  · replace h := h.1 ((i_le (x := s.1 35 2 / 3) (y := a2) rfl rfl).mp hcn)
    exact m_128_56_3 hd  h
  · replace h := h.2 (fun q => hcn ((i_le (x := s.1 35 2 / 3) (y := a2) rfl rfl).mpr q))
    refine zn_ld rfl rfl rfl ?_
    refine zn_get (v := .ref 3) rfl (zv_C (a := 83) (n := 1) rfl rfl rfl) ?_
    refine zn_get (v := .int (s.1 3 14)) rfl (zv_I (a := 3) rfl rfl) ?_
    refine zn_brN rfl rfl ⟨fun hcn => ?_, fun hcn => ?_⟩
    · replace h := h.1 (fun q => hcn ((i_eq (x := s.1 3 14) (y := 0) rfl (show (0 : Int32).toInt = 0 by decide)).mpr q))
      exact m_128_56_3 hd  h
    · replace h := h.2 ((i_eq (x := s.1 3 14) (y := 0) rfl (show (0 : Int32).toInt = 0 by decide)).mp hcn)
      refine zn_ld rfl rfl rfl ?_
      refine zn_get (v := .ref 3) rfl (zv_C (a := 83) (n := 1) rfl rfl rfl) ?_
      refine zn_ld rfl rfl rfl ?_
      refine zn_c [.int 0, .int a2, .ref 3] (xo_push (.int 0)) rfl rfl ?_
      refine zn_zt [.ref 3, .int a2, .int 0] [] (c := []) rfl rfl rfl rfl rfl (Zt.imp (zp_43 hd (Or.inl rfl)) (fun vq sq hq => ?_))
      obtain ⟨rfl, hq⟩ := hq
      rw [hq]
      change Zn _ _ _ _ _ _ _ _ _ _ _ [.int (zg s 35 (a2 * 3 + 0))] _ _
      refine zn_st [.ref 83, .ref 3, .int a2, .int (zg s 35 (a2 * 3 + 0)), .null, .null, .null] rfl rfl rfl ?_
      refine zn_ld rfl rfl rfl ?_
      refine zn_brP rfl rfl ⟨fun hcn => ?_, fun hcn => ?_⟩
      · replace h := h.1 ((i_le (x := 0) (y := zg s 35 (a2 * 3 + 0)) (show (0 : Int32).toInt = 0 by decide) rfl).mp hcn)
        exact m_128_29_3 hd r7 h
      · replace h := h.2 (fun q => hcn ((i_le (x := 0) (y := zg s 35 (a2 * 3 + 0)) (show (0 : Int32).toInt = 0 by decide) rfl).mpr q))
        refine zn_ld rfl rfl rfl ?_
        refine zn_c [.int (-1), .ref 83] (xo_push (.int (-1))) rfl rfl ?_
        refine zn_ld rfl rfl rfl ?_
        replace h := h _ (i_sub (x := (-1)) (y := zg s 35 (a2 * 3 + 0)) (show ((-1) : Int32).toInt = (-1) by decide) rfl)
        refine zn_c [.int ((-1) - (zg s 35 (a2 * 3 + 0))), .ref 83] xo_isub rfl rfl ?_
        refine zn_zt [.ref 83, .int ((-1) - (zg s 35 (a2 * 3 + 0)))] [] rfl rfl rfl rfl rfl (Zt.imp h (fun v3 s4 h => ?_))
        obtain ⟨rfl, h⟩ := h
        change Zn _ _ _ _ _ _ _ _ _ _ _ [] _ _
        exact m_128_29_3 hd r7 h
theorem ml_128_7_3 {d d0 : Nat} (hd : d = d0 + 8)  {a2 : Int32} {s : zS} {Q : Option Value → zS → Prop}  (h : vl_128_7 (fun j => Zt d (wd 3 j) j) 3  a2 s Q) : Zn d [(83, 1), (83, 2)] [(3, 99), (3, 98)] ([(83, 2, 4), (83, 1, 3), (75, 0, 3), (75, 1, 21), (75, 2, 25)] : zW) ([(83, 2, 4), (83, 1, 3), (75, 0, 3), (75, 1, 21), (75, 2, 25)] : zW) xL_10 5 (none) xE_128 (xE_128.drop 7) [.ref 83, .ref 3, .int a2, .null, .null, .null, .null] [] s Q := by
  obtain ⟨I, μ, h0, h1⟩ := h
  have key : ∀ (n : Nat) (a2 : Int32) (s : zS), μ a2 s = n → I a2 s → Zn d [(83, 1), (83, 2)] [(3, 99), (3, 98)] ([(83, 2, 4), (83, 1, 3), (75, 0, 3), (75, 1, 21), (75, 2, 25)] : zW) ([(83, 2, 4), (83, 1, 3), (75, 0, 3), (75, 1, 21), (75, 2, 25)] : zW) xL_10 5 (none) xE_128 (xE_128.drop 7) [.ref 83, .ref 3, .int a2, .null, .null, .null, .null] [] s Q := by
    intro n
    induction n using Nat.strongRecOn with
    | ind n ih =>
      intro a2 s e hI
      exact m_128_7_3 hd (fun a2' s' q => ih _ (by rw [← e]; exact q.2) a2' s' rfl q.1) (h1 a2 s hI)
  exact key _ a2 s rfl h0
set_option maxRecDepth 20000 in
theorem m_128_0_3 {d d0 : Nat} (hd : d = d0 + 8)   {s : zS} {Q : Option Value → zS → Prop}  (h : v_128_0 (fun j => Zt d (wd 3 j) j) 3   s Q) : Zn d [(83, 1), (83, 2)] [(3, 99), (3, 98)] ([(75, 0, 3), (75, 1, 21), (75, 2, 25)] : zW) ([(83, 2, 4), (83, 1, 3), (75, 0, 3), (75, 1, 21), (75, 2, 25)] : zW) xL_10 5 (none) xE_128 (xE_128.drop 0) [.ref 83, .ref 3, .null, .null, .null, .null, .null] [] s Q := by
  unfold v_128_0 at h
  refine zn_ld rfl rfl rfl ?_
  refine zn_ld rfl rfl rfl ?_
  refine zn_ld rfl rfl rfl ?_
  refine zn_get (v := .ref 4) rfl (zv_R (a := 3) rfl rfl) ?_
  refine zn_zu [.ref 83, .ref 3, .ref 4] [] (c := []) (c' := [(83, 2, 4), (83, 1, 3)]) (w1 := ([(75, 0, 3), (75, 1, 21), (75, 2, 25)] : zW)) rfl rfl rfl rfl rfl rfl rfl (Zu.imp (zp_121 hd (Or.inl rfl)) (fun vq sq hq => ?_))
  obtain ⟨rfl, hq⟩ := hq
  rw [hq]
  change Zn _ _ _ _ _ _ _ _ _ _ _ [] _ _
  refine zn_c [.int 0] (xo_push (.int 0)) rfl rfl ?_
  refine zn_st [.ref 83, .ref 3, .int 0, .null, .null, .null, .null] rfl rfl rfl ?_
  exact ml_128_7_3 hd  h
theorem zq_128_3 {d : Nat}  {s : zS} {Q : Option Value → zS → Prop} (h : v_128_0 (fun j => Zt (d + 8) (wd 3 j) j) 3  s Q) : Zu (d + 9) [(83, 1), (83, 2)] ([(75, 0, 3), (75, 1, 21), (75, 2, 25)] : zW) ([(83, 2, 4), (83, 1, 3), (75, 0, 3), (75, 1, 21), (75, 2, 25)] : zW) 128 [.ref 83, .ref 3] s Q := zu_of (E := xE_128) (L := xL_10) (ml := 5) (ret := none) rfl rfl rfl (m_128_0_3 rfl h)
set_option maxRecDepth 20000 in
theorem m_128_56_39 {d d0 : Nat} (hd : d = d0 + 8)  {a2 : Int32} {s : zS} {Q : Option Value → zS → Prop}  (h : v_128_56 (fun j => Zt d (wd 39 j) j) 39  a2 s Q) : Zn d [(83, 1), (83, 2)] [(39, 99), (39, 98)] ([(83, 2, 40), (83, 1, 39), (75, 0, 39), (75, 1, 57), (75, 2, 61)] : zW) ([(83, 2, 40), (83, 1, 39), (75, 0, 39), (75, 1, 57), (75, 2, 61)] : zW) xL_10 5 (none) xE_128 (xE_128.drop 56) [.ref 83, .ref 39, .int a2, .null, .null, .null, .null] [] s Q := by
  unfold v_128_56 at h
  exact zn_ret0 rfl h
set_option maxRecDepth 20000 in
theorem m_128_54_39 {d d0 : Nat} (hd : d = d0 + 8) {R7 : Int32 → zS → Prop} {a2 : Int32} {a3 : Int32} {a4 : Int32} {s : zS} {Q : Option Value → zS → Prop} (r7 : ∀ a2 s, R7 a2 s → Zn d [(83, 1), (83, 2)] [(39, 99), (39, 98)] ([(83, 2, 40), (83, 1, 39), (75, 0, 39), (75, 1, 57), (75, 2, 61)] : zW) ([(83, 2, 40), (83, 1, 39), (75, 0, 39), (75, 1, 57), (75, 2, 61)] : zW) xL_10 5 (none) xE_128 (xE_128.drop 7) [.ref 83, .ref 39, .int a2, .null, .null, .null, .null] [] s Q) (h : v_128_54 (fun j => Zt d (wd 39 j) j) 39 R7 a2 a3 a4 s Q) : Zn d [(83, 1), (83, 2)] [(39, 99), (39, 98)] ([(83, 2, 40), (83, 1, 39), (75, 0, 39), (75, 1, 57), (75, 2, 61)] : zW) ([(83, 2, 40), (83, 1, 39), (75, 0, 39), (75, 1, 57), (75, 2, 61)] : zW) xL_10 5 (none) xE_128 (xE_128.drop 54) [.ref 83, .ref 39, .int a2, .int a3, .int a4, .null, .null] [] s Q := by
  unfold v_128_54 at h
  replace h := h _ (i_add (x := a2) (y := 1) rfl (show (1 : Int32).toInt = 1 by decide))
  refine zn_inc [.ref 83, .ref 39, .int (a2 + 1), .int a3, .int a4, .null, .null] rfl rfl rfl rfl ?_
  refine zn_go rfl ?_
  refine zn_fg 3 ?_
  refine zn_fg 4 ?_
  exact r7 (a2 + 1) s h
set_option maxRecDepth 20000 in
theorem m_128_38_39 {d d0 : Nat} (hd : d = d0 + 8) {R7 : Int32 → zS → Prop} {R38 : Int32 → Int32 → Int32 → zS → Prop} {a2 : Int32} {a3 : Int32} {a4 : Int32} {s : zS} {Q : Option Value → zS → Prop} (r7 : ∀ a2 s, R7 a2 s → Zn d [(83, 1), (83, 2)] [(39, 99), (39, 98)] ([(83, 2, 40), (83, 1, 39), (75, 0, 39), (75, 1, 57), (75, 2, 61)] : zW) ([(83, 2, 40), (83, 1, 39), (75, 0, 39), (75, 1, 57), (75, 2, 61)] : zW) xL_10 5 (none) xE_128 (xE_128.drop 7) [.ref 83, .ref 39, .int a2, .null, .null, .null, .null] [] s Q) (r38 : ∀ a2 a3 a4 s, R38 a2 a3 a4 s → Zn d [(83, 1), (83, 2)] [(39, 99), (39, 98)] ([(83, 2, 40), (83, 1, 39), (75, 0, 39), (75, 1, 57), (75, 2, 61)] : zW) ([(83, 2, 40), (83, 1, 39), (75, 0, 39), (75, 1, 57), (75, 2, 61)] : zW) xL_10 5 (none) xE_128 (xE_128.drop 38) [.ref 83, .ref 39, .int a2, .int a3, .int a4, .null, .null] [] s Q) (h : v_128_38 (fun j => Zt d (wd 39 j) j) 39 R7 R38 a2 a3 a4 s Q) : Zn d [(83, 1), (83, 2)] [(39, 99), (39, 98)] ([(83, 2, 40), (83, 1, 39), (75, 0, 39), (75, 1, 57), (75, 2, 61)] : zW) ([(83, 2, 40), (83, 1, 39), (75, 0, 39), (75, 1, 57), (75, 2, 61)] : zW) xL_10 5 (none) xE_128 (xE_128.drop 38) [.ref 83, .ref 39, .int a2, .int a3, .int a4, .null, .null] [] s Q := by
  unfold v_128_38 at h
  refine zn_ld rfl rfl rfl ?_
  refine zn_ld rfl rfl rfl ?_
  refine zn_get (v := .ref 39) rfl (zv_C (a := 83) (n := 1) rfl rfl rfl) ?_
  refine zn_ld rfl rfl rfl ?_
  refine zn_c [.int 2, .int a2, .ref 39, .int a4] (xo_push (.int 2)) rfl rfl ?_
  refine zn_zt [.ref 39, .int a2, .int 2] [.int a4] (c := []) rfl rfl rfl rfl rfl (Zt.imp (zp_43 hd (Or.inr rfl)) (fun vq sq hq => ?_))
  obtain ⟨rfl, hq⟩ := hq
  rw [hq]
  change Zn _ _ _ _ _ _ _ _ _ _ _ [.int (zg s 71 (a2 * 3 + 2)), .int a4] _ _
  refine zn_brP rfl rfl ⟨fun hcn => ?_, fun hcn => ?_⟩
  · replace h := h.1 ((i_le (x := zg s 71 (a2 * 3 + 2)) (y := a4) rfl rfl).mp hcn)
    exact m_128_54_39 hd r7 h
  · replace h := h.2 (fun q => hcn ((i_le (x := zg s 71 (a2 * 3 + 2)) (y := a4) rfl rfl).mpr q))
    refine zn_ld rfl rfl rfl ?_
    refine zn_get (v := .ref 39) rfl (zv_C (a := 83) (n := 1) rfl rfl rfl) ?_
    refine zn_get (v := .int (s.1 39 14)) rfl (zv_I (a := 39) rfl rfl) ?_
    refine zn_brN rfl rfl ⟨fun hcn => ?_, fun hcn => ?_⟩
    · replace h := h.1 (fun q => hcn ((i_eq (x := s.1 39 14) (y := 0) rfl (show (0 : Int32).toInt = 0 by decide)).mpr q))
      exact m_128_54_39 hd r7 h
    · replace h := h.2 ((i_eq (x := s.1 39 14) (y := 0) rfl (show (0 : Int32).toInt = 0 by decide)).mp hcn)
      refine zn_ld rfl rfl rfl ?_
      refine zn_ld rfl rfl rfl ?_
      refine zn_zt [.ref 83, .int a4] [] rfl rfl rfl rfl rfl (Zt.imp h (fun v2 s3 h => ?_))
      obtain ⟨rfl, h⟩ := h
      change Zn _ _ _ _ _ _ _ _ _ _ _ [] _ _
      replace h := h _ (i_add (x := a4) (y := 1) rfl (show (1 : Int32).toInt = 1 by decide))
      refine zn_inc [.ref 83, .ref 39, .int a2, .int a3, .int (a4 + 1), .null, .null] rfl rfl rfl rfl ?_
      refine zn_go rfl ?_
      exact r38 a2 a3 (a4 + 1) s3 h
theorem ml_128_38_39 {d d0 : Nat} (hd : d = d0 + 8) {R7 : Int32 → zS → Prop} {a2 : Int32} {a3 : Int32} {a4 : Int32} {s : zS} {Q : Option Value → zS → Prop} (r7 : ∀ a2 s, R7 a2 s → Zn d [(83, 1), (83, 2)] [(39, 99), (39, 98)] ([(83, 2, 40), (83, 1, 39), (75, 0, 39), (75, 1, 57), (75, 2, 61)] : zW) ([(83, 2, 40), (83, 1, 39), (75, 0, 39), (75, 1, 57), (75, 2, 61)] : zW) xL_10 5 (none) xE_128 (xE_128.drop 7) [.ref 83, .ref 39, .int a2, .null, .null, .null, .null] [] s Q) (h : vl_128_38 (fun j => Zt d (wd 39 j) j) 39 R7 a2 a3 a4 s Q) : Zn d [(83, 1), (83, 2)] [(39, 99), (39, 98)] ([(83, 2, 40), (83, 1, 39), (75, 0, 39), (75, 1, 57), (75, 2, 61)] : zW) ([(83, 2, 40), (83, 1, 39), (75, 0, 39), (75, 1, 57), (75, 2, 61)] : zW) xL_10 5 (none) xE_128 (xE_128.drop 38) [.ref 83, .ref 39, .int a2, .int a3, .int a4, .null, .null] [] s Q := by
  obtain ⟨I, μ, h0, h1⟩ := h
  have key : ∀ (n : Nat) (a2 : Int32) (a3 : Int32) (a4 : Int32) (s : zS), μ a2 a3 a4 s = n → I a2 a3 a4 s → Zn d [(83, 1), (83, 2)] [(39, 99), (39, 98)] ([(83, 2, 40), (83, 1, 39), (75, 0, 39), (75, 1, 57), (75, 2, 61)] : zW) ([(83, 2, 40), (83, 1, 39), (75, 0, 39), (75, 1, 57), (75, 2, 61)] : zW) xL_10 5 (none) xE_128 (xE_128.drop 38) [.ref 83, .ref 39, .int a2, .int a3, .int a4, .null, .null] [] s Q := by
    intro n
    induction n using Nat.strongRecOn with
    | ind n ih =>
      intro a2 a3 a4 s e hI
      exact m_128_38_39 hd r7 (fun a2' a3' a4' s' q => ih _ (by rw [← e]; exact q.2) a2' a3' a4' s' rfl q.1) (h1 a2 a3 a4 s hI)
  exact key _ a2 a3 a4 s rfl h0
set_option maxRecDepth 20000 in
theorem m_128_29_39 {d d0 : Nat} (hd : d = d0 + 8) {R7 : Int32 → zS → Prop} {a2 : Int32} {a3 : Int32} {s : zS} {Q : Option Value → zS → Prop} (r7 : ∀ a2 s, R7 a2 s → Zn d [(83, 1), (83, 2)] [(39, 99), (39, 98)] ([(83, 2, 40), (83, 1, 39), (75, 0, 39), (75, 1, 57), (75, 2, 61)] : zW) ([(83, 2, 40), (83, 1, 39), (75, 0, 39), (75, 1, 57), (75, 2, 61)] : zW) xL_10 5 (none) xE_128 (xE_128.drop 7) [.ref 83, .ref 39, .int a2, .null, .null, .null, .null] [] s Q) (h : v_128_29 (fun j => Zt d (wd 39 j) j) 39 R7 a2 a3 s Q) : Zn d [(83, 1), (83, 2)] [(39, 99), (39, 98)] ([(83, 2, 40), (83, 1, 39), (75, 0, 39), (75, 1, 57), (75, 2, 61)] : zW) ([(83, 2, 40), (83, 1, 39), (75, 0, 39), (75, 1, 57), (75, 2, 61)] : zW) xL_10 5 (none) xE_128 (xE_128.drop 29) [.ref 83, .ref 39, .int a2, .int a3, .null, .null, .null] [] s Q := by
  unfold v_128_29 at h
  refine zn_ld rfl rfl rfl ?_
  refine zn_ld rfl rfl rfl ?_
  refine zn_zt [.ref 83, .int a3] [] rfl rfl rfl rfl rfl (Zt.imp h (fun v1 s2 h => ?_))
  obtain ⟨rfl, h⟩ := h
  change Zn _ _ _ _ _ _ _ _ _ _ _ [] _ _
  refine zn_ld rfl rfl rfl ?_
  refine zn_get (v := .ref 39) rfl (zv_C (a := 83) (n := 1) rfl rfl rfl) ?_
  refine zn_ld rfl rfl rfl ?_
  refine zn_c [.int 1, .int a2, .ref 39] (xo_push (.int 1)) rfl rfl ?_
  refine zn_zt [.ref 39, .int a2, .int 1] [] (c := []) rfl rfl rfl rfl rfl (Zt.imp (zp_43 hd (Or.inr rfl)) (fun vq sq hq => ?_))
  obtain ⟨rfl, hq⟩ := hq
  rw [hq]
  change Zn _ _ _ _ _ _ _ _ _ _ _ [.int (zg s2 71 (a2 * 3 + 1))] _ _
  refine zn_st [.ref 83, .ref 39, .int a2, .int a3, .int (zg s2 71 (a2 * 3 + 1)), .null, .null] rfl rfl rfl ?_
  exact ml_128_38_39 hd r7 h
set_option maxRecDepth 20000 in
theorem m_128_7_39 {d d0 : Nat} (hd : d = d0 + 8) {R7 : Int32 → zS → Prop} {a2 : Int32} {s : zS} {Q : Option Value → zS → Prop} (r7 : ∀ a2 s, R7 a2 s → Zn d [(83, 1), (83, 2)] [(39, 99), (39, 98)] ([(83, 2, 40), (83, 1, 39), (75, 0, 39), (75, 1, 57), (75, 2, 61)] : zW) ([(83, 2, 40), (83, 1, 39), (75, 0, 39), (75, 1, 57), (75, 2, 61)] : zW) xL_10 5 (none) xE_128 (xE_128.drop 7) [.ref 83, .ref 39, .int a2, .null, .null, .null, .null] [] s Q) (h : v_128_7 (fun j => Zt d (wd 39 j) j) 39 R7 a2 s Q) : Zn d [(83, 1), (83, 2)] [(39, 99), (39, 98)] ([(83, 2, 40), (83, 1, 39), (75, 0, 39), (75, 1, 57), (75, 2, 61)] : zW) ([(83, 2, 40), (83, 1, 39), (75, 0, 39), (75, 1, 57), (75, 2, 61)] : zW) xL_10 5 (none) xE_128 (xE_128.drop 7) [.ref 83, .ref 39, .int a2, .null, .null, .null, .null] [] s Q := by
  unfold v_128_7 at h
  refine zn_ld rfl rfl rfl ?_
  refine zn_ld rfl rfl rfl ?_
  refine zn_get (v := .ref 39) rfl (zv_C (a := 83) (n := 1) rfl rfl rfl) ?_
  refine zn_zt [.ref 39] [.int a2] (c := []) rfl rfl rfl rfl rfl (Zt.imp (zp_48 hd (Or.inr rfl)) (fun vq sq hq => ?_))
  obtain ⟨rfl, hq⟩ := hq
  rw [hq]
  change Zn _ _ _ _ _ _ _ _ _ _ _ [.int (s.1 71 2 / 3), .int a2] _ _
  refine zn_brP rfl rfl ⟨fun hcn => ?_, fun hcn => ?_⟩
  · replace h := h.1 ((i_le (x := s.1 71 2 / 3) (y := a2) rfl rfl).mp hcn)
    exact m_128_56_39 hd  h
  · replace h := h.2 (fun q => hcn ((i_le (x := s.1 71 2 / 3) (y := a2) rfl rfl).mpr q))
    refine zn_ld rfl rfl rfl ?_
    refine zn_get (v := .ref 39) rfl (zv_C (a := 83) (n := 1) rfl rfl rfl) ?_
    refine zn_get (v := .int (s.1 39 14)) rfl (zv_I (a := 39) rfl rfl) ?_
    refine zn_brN rfl rfl ⟨fun hcn => ?_, fun hcn => ?_⟩
    · replace h := h.1 (fun q => hcn ((i_eq (x := s.1 39 14) (y := 0) rfl (show (0 : Int32).toInt = 0 by decide)).mpr q))
      exact m_128_56_39 hd  h
    · replace h := h.2 ((i_eq (x := s.1 39 14) (y := 0) rfl (show (0 : Int32).toInt = 0 by decide)).mp hcn)
      refine zn_ld rfl rfl rfl ?_
      refine zn_get (v := .ref 39) rfl (zv_C (a := 83) (n := 1) rfl rfl rfl) ?_
      refine zn_ld rfl rfl rfl ?_
      refine zn_c [.int 0, .int a2, .ref 39] (xo_push (.int 0)) rfl rfl ?_
      refine zn_zt [.ref 39, .int a2, .int 0] [] (c := []) rfl rfl rfl rfl rfl (Zt.imp (zp_43 hd (Or.inr rfl)) (fun vq sq hq => ?_))
      obtain ⟨rfl, hq⟩ := hq
      rw [hq]
      change Zn _ _ _ _ _ _ _ _ _ _ _ [.int (zg s 71 (a2 * 3 + 0))] _ _
      refine zn_st [.ref 83, .ref 39, .int a2, .int (zg s 71 (a2 * 3 + 0)), .null, .null, .null] rfl rfl rfl ?_
      refine zn_ld rfl rfl rfl ?_
      refine zn_brP rfl rfl ⟨fun hcn => ?_, fun hcn => ?_⟩
      · replace h := h.1 ((i_le (x := 0) (y := zg s 71 (a2 * 3 + 0)) (show (0 : Int32).toInt = 0 by decide) rfl).mp hcn)
        exact m_128_29_39 hd r7 h
      · replace h := h.2 (fun q => hcn ((i_le (x := 0) (y := zg s 71 (a2 * 3 + 0)) (show (0 : Int32).toInt = 0 by decide) rfl).mpr q))
        refine zn_ld rfl rfl rfl ?_
        refine zn_c [.int (-1), .ref 83] (xo_push (.int (-1))) rfl rfl ?_
        refine zn_ld rfl rfl rfl ?_
        replace h := h _ (i_sub (x := (-1)) (y := zg s 71 (a2 * 3 + 0)) (show ((-1) : Int32).toInt = (-1) by decide) rfl)
        refine zn_c [.int ((-1) - (zg s 71 (a2 * 3 + 0))), .ref 83] xo_isub rfl rfl ?_
        refine zn_zt [.ref 83, .int ((-1) - (zg s 71 (a2 * 3 + 0)))] [] rfl rfl rfl rfl rfl (Zt.imp h (fun v3 s4 h => ?_))
        obtain ⟨rfl, h⟩ := h
        change Zn _ _ _ _ _ _ _ _ _ _ _ [] _ _
        exact m_128_29_39 hd r7 h
theorem ml_128_7_39 {d d0 : Nat} (hd : d = d0 + 8)  {a2 : Int32} {s : zS} {Q : Option Value → zS → Prop}  (h : vl_128_7 (fun j => Zt d (wd 39 j) j) 39  a2 s Q) : Zn d [(83, 1), (83, 2)] [(39, 99), (39, 98)] ([(83, 2, 40), (83, 1, 39), (75, 0, 39), (75, 1, 57), (75, 2, 61)] : zW) ([(83, 2, 40), (83, 1, 39), (75, 0, 39), (75, 1, 57), (75, 2, 61)] : zW) xL_10 5 (none) xE_128 (xE_128.drop 7) [.ref 83, .ref 39, .int a2, .null, .null, .null, .null] [] s Q := by
  obtain ⟨I, μ, h0, h1⟩ := h
  have key : ∀ (n : Nat) (a2 : Int32) (s : zS), μ a2 s = n → I a2 s → Zn d [(83, 1), (83, 2)] [(39, 99), (39, 98)] ([(83, 2, 40), (83, 1, 39), (75, 0, 39), (75, 1, 57), (75, 2, 61)] : zW) ([(83, 2, 40), (83, 1, 39), (75, 0, 39), (75, 1, 57), (75, 2, 61)] : zW) xL_10 5 (none) xE_128 (xE_128.drop 7) [.ref 83, .ref 39, .int a2, .null, .null, .null, .null] [] s Q := by
    intro n
    induction n using Nat.strongRecOn with
    | ind n ih =>
      intro a2 s e hI
      exact m_128_7_39 hd (fun a2' s' q => ih _ (by rw [← e]; exact q.2) a2' s' rfl q.1) (h1 a2 s hI)
  exact key _ a2 s rfl h0
set_option maxRecDepth 20000 in
theorem m_128_0_39 {d d0 : Nat} (hd : d = d0 + 8)   {s : zS} {Q : Option Value → zS → Prop}  (h : v_128_0 (fun j => Zt d (wd 39 j) j) 39   s Q) : Zn d [(83, 1), (83, 2)] [(39, 99), (39, 98)] ([(75, 0, 39), (75, 1, 57), (75, 2, 61)] : zW) ([(83, 2, 40), (83, 1, 39), (75, 0, 39), (75, 1, 57), (75, 2, 61)] : zW) xL_10 5 (none) xE_128 (xE_128.drop 0) [.ref 83, .ref 39, .null, .null, .null, .null, .null] [] s Q := by
  unfold v_128_0 at h
  refine zn_ld rfl rfl rfl ?_
  refine zn_ld rfl rfl rfl ?_
  refine zn_ld rfl rfl rfl ?_
  refine zn_get (v := .ref 40) rfl (zv_R (a := 39) rfl rfl) ?_
  refine zn_zu [.ref 83, .ref 39, .ref 40] [] (c := []) (c' := [(83, 2, 40), (83, 1, 39)]) (w1 := ([(75, 0, 39), (75, 1, 57), (75, 2, 61)] : zW)) rfl rfl rfl rfl rfl rfl rfl (Zu.imp (zp_121 hd (Or.inr rfl)) (fun vq sq hq => ?_))
  obtain ⟨rfl, hq⟩ := hq
  rw [hq]
  change Zn _ _ _ _ _ _ _ _ _ _ _ [] _ _
  refine zn_c [.int 0] (xo_push (.int 0)) rfl rfl ?_
  refine zn_st [.ref 83, .ref 39, .int 0, .null, .null, .null, .null] rfl rfl rfl ?_
  exact ml_128_7_39 hd  h
theorem zq_128_39 {d : Nat}  {s : zS} {Q : Option Value → zS → Prop} (h : v_128_0 (fun j => Zt (d + 8) (wd 39 j) j) 39  s Q) : Zu (d + 9) [(83, 1), (83, 2)] ([(75, 0, 39), (75, 1, 57), (75, 2, 61)] : zW) ([(83, 2, 40), (83, 1, 39), (75, 0, 39), (75, 1, 57), (75, 2, 61)] : zW) 128 [.ref 83, .ref 39] s Q := zu_of (E := xE_128) (L := xL_10) (ml := 5) (ret := none) rfl rfl rfl (m_128_0_39 rfl h)
theorem zc_128 {d P : Nat} (hP : P = 3 ∨ P = 39)  {s : zS} {Q : Option Value → zS → Prop} (h : v_128_0 (fun j => Zt (d + 8) (wd P j) j) P  s Q) : Zu (d + 9) [(83, 1), (83, 2)] [(75, 0, P), (75, 1, P + 18), (75, 2, P + 22)] [(83, 2, P + 1), (83, 1, P), (75, 0, P), (75, 1, P + 18), (75, 2, P + 22)] 128 [.ref 83, .ref P] s Q := by
  rcases hP with rfl | rfl
  · exact zq_128_3 h
  · exact zq_128_39 h
/-! FeatherBench$Told.lookAtAll -/
def v_134_67 (T : Nat → List Value → zS → (Option Value → zS → Prop) → Prop) (P : Nat)  (a2 : Int32) (s : zS) (Q : Option Value → zS → Prop) : Prop :=
  Q none s
def v_134_65 (T : Nat → List Value → zS → (Option Value → zS → Prop) → Prop) (P : Nat) (R7 : Int32 → zS → Prop) (a2 : Int32) (a3 : Int32) (s : zS) (Q : Option Value → zS → Prop) : Prop :=
  ∀ x1 : Int32, (-2147483648 ≤ a2.toInt + 1 ∧ a2.toInt + 1 ≤ 2147483647 → x1.toInt = a2.toInt + 1) → R7 x1 s
def v_134_63 (T : Nat → List Value → zS → (Option Value → zS → Prop) → Prop) (P : Nat) (R7 : Int32 → zS → Prop) (R29 : Int32 → Int32 → zS → Prop) (a2 : Int32) (a3 : Int32) (a4 : Int32) (s : zS) (Q : Option Value → zS → Prop) : Prop :=
  ∀ x1 : Int32, (-2147483648 ≤ a3.toInt + 1 ∧ a3.toInt + 1 ≤ 2147483647 → x1.toInt = a3.toInt + 1) → R29 a2 x1 s
def v_134_29 (T : Nat → List Value → zS → (Option Value → zS → Prop) → Prop) (P : Nat) (R7 : Int32 → zS → Prop) (R29 : Int32 → Int32 → zS → Prop) (a2 : Int32) (a3 : Int32) (s : zS) (Q : Option Value → zS → Prop) : Prop :=
  ((zg s (P + 32) (a2 * 3 + 2)).toInt ≤ a3.toInt → v_134_65 T P R7 a2 a3 s Q) ∧ (¬ ((zg s (P + 32) (a2 * 3 + 2)).toInt ≤ a3.toInt) → (¬ ((s.1 P 14).toInt = 0) → v_134_65 T P R7 a2 a3 s Q) ∧ ((s.1 P 14).toInt = 0 → ((zg s (P + 30) (a3 * 5 + 3)).toInt < 0 → v_134_63 T P R7 R29 a2 a3 (zg s (P + 30) (a3 * 5 + 3)) s Q) ∧ (¬ ((zg s (P + 30) (a3 * 5 + 3)).toInt < 0) → ∀ s4, s4 = zf s 75 6 (zg s (P + 30) (a3 * 5 + 4)) → T 83 [.ref 75, .int (zg s (P + 30) (a3 * 5 + 3))] s4 (fun v5 s6 => ∃ x7, v5 = some (.int x7) ∧ (T 135 [.ref 83, .int (zg s (P + 30) (a3 * 5 + 3)), .int x7] s6 (fun v8 s9 => v8 = none ∧ (v_134_63 T P R7 R29 a2 a3 (zg s (P + 30) (a3 * 5 + 3)) s9 Q)))))))
def vl_134_29 (T : Nat → List Value → zS → (Option Value → zS → Prop) → Prop) (P : Nat) (R7 : Int32 → zS → Prop) (a2 : Int32) (a3 : Int32) (s : zS) (Q : Option Value → zS → Prop) : Prop :=
  ∃ (I : Int32 → Int32 → zS → Prop) (μ : Int32 → Int32 → zS → Nat), I a2 a3 s ∧ ∀ (a2 : Int32) (a3 : Int32) (s : zS), I a2 a3 s → v_134_29 T P R7 (fun a2' a3' s' => I a2' a3' s' ∧ μ a2' a3' s' < μ a2 a3 s) a2 a3 s Q
def v_134_7 (T : Nat → List Value → zS → (Option Value → zS → Prop) → Prop) (P : Nat) (R7 : Int32 → zS → Prop) (a2 : Int32) (s : zS) (Q : Option Value → zS → Prop) : Prop :=
  ((s.1 (P + 32) 2 / 3).toInt ≤ a2.toInt → v_134_67 T P  a2 s Q) ∧ (¬ ((s.1 (P + 32) 2 / 3).toInt ≤ a2.toInt) → (¬ ((s.1 P 14).toInt = 0) → v_134_67 T P  a2 s Q) ∧ ((s.1 P 14).toInt = 0 → T 130 [.ref 83, .int (zg s (P + 32) (a2 * 3 + 0))] s (fun v2 s3 => v2 = none ∧ (vl_134_29 T P R7 a2 (zg s3 (P + 32) (a2 * 3 + 1)) s3 Q))))
def vl_134_7 (T : Nat → List Value → zS → (Option Value → zS → Prop) → Prop) (P : Nat)  (a2 : Int32) (s : zS) (Q : Option Value → zS → Prop) : Prop :=
  ∃ (I : Int32 → zS → Prop) (μ : Int32 → zS → Nat), I a2 s ∧ ∀ (a2 : Int32) (s : zS), I a2 s → v_134_7 T P (fun a2' s' => I a2' s' ∧ μ a2' s' < μ a2 s) a2 s Q
def v_134_0 (T : Nat → List Value → zS → (Option Value → zS → Prop) → Prop) (P : Nat)   (s : zS) (Q : Option Value → zS → Prop) : Prop :=
  vl_134_7 T P  0 s Q
set_option maxRecDepth 20000 in
theorem m_134_67_3 {d d0 : Nat} (hd : d = d0 + 8)  {a2 : Int32} {s : zS} {Q : Option Value → zS → Prop}  (h : v_134_67 (fun j => Zt d (wd 3 j) j) 3  a2 s Q) : Zn d [(83, 1), (83, 2)] [(3, 98)] ([(83, 2, 4), (83, 1, 3), (75, 0, 3), (75, 1, 21), (75, 2, 25)] : zW) ([(83, 2, 4), (83, 1, 3), (75, 0, 3), (75, 1, 21), (75, 2, 25)] : zW) xL_10 5 (none) xE_134 (xE_134.drop 67) [.ref 83, .ref 3, .int a2, .null, .null, .null, .null] [] s Q := by
  unfold v_134_67 at h
  exact zn_ret0 rfl h
set_option maxRecDepth 20000 in
theorem m_134_65_3 {d d0 : Nat} (hd : d = d0 + 8) {R7 : Int32 → zS → Prop} {a2 : Int32} {a3 : Int32} {s : zS} {Q : Option Value → zS → Prop} (r7 : ∀ a2 s, R7 a2 s → Zn d [(83, 1), (83, 2)] [(3, 98)] ([(83, 2, 4), (83, 1, 3), (75, 0, 3), (75, 1, 21), (75, 2, 25)] : zW) ([(83, 2, 4), (83, 1, 3), (75, 0, 3), (75, 1, 21), (75, 2, 25)] : zW) xL_10 5 (none) xE_134 (xE_134.drop 7) [.ref 83, .ref 3, .int a2, .null, .null, .null, .null] [] s Q) (h : v_134_65 (fun j => Zt d (wd 3 j) j) 3 R7 a2 a3 s Q) : Zn d [(83, 1), (83, 2)] [(3, 98)] ([(83, 2, 4), (83, 1, 3), (75, 0, 3), (75, 1, 21), (75, 2, 25)] : zW) ([(83, 2, 4), (83, 1, 3), (75, 0, 3), (75, 1, 21), (75, 2, 25)] : zW) xL_10 5 (none) xE_134 (xE_134.drop 65) [.ref 83, .ref 3, .int a2, .int a3, .null, .null, .null] [] s Q := by
  unfold v_134_65 at h
  replace h := h _ (i_add (x := a2) (y := 1) rfl (show (1 : Int32).toInt = 1 by decide))
  refine zn_inc [.ref 83, .ref 3, .int (a2 + 1), .int a3, .null, .null, .null] rfl rfl rfl rfl ?_
  refine zn_go rfl ?_
  refine zn_fg 3 ?_
  exact r7 (a2 + 1) s h
set_option maxRecDepth 20000 in
theorem m_134_63_3 {d d0 : Nat} (hd : d = d0 + 8) {R7 : Int32 → zS → Prop} {R29 : Int32 → Int32 → zS → Prop} {a2 : Int32} {a3 : Int32} {a4 : Int32} {s : zS} {Q : Option Value → zS → Prop} (r7 : ∀ a2 s, R7 a2 s → Zn d [(83, 1), (83, 2)] [(3, 98)] ([(83, 2, 4), (83, 1, 3), (75, 0, 3), (75, 1, 21), (75, 2, 25)] : zW) ([(83, 2, 4), (83, 1, 3), (75, 0, 3), (75, 1, 21), (75, 2, 25)] : zW) xL_10 5 (none) xE_134 (xE_134.drop 7) [.ref 83, .ref 3, .int a2, .null, .null, .null, .null] [] s Q) (r29 : ∀ a2 a3 s, R29 a2 a3 s → Zn d [(83, 1), (83, 2)] [(3, 98)] ([(83, 2, 4), (83, 1, 3), (75, 0, 3), (75, 1, 21), (75, 2, 25)] : zW) ([(83, 2, 4), (83, 1, 3), (75, 0, 3), (75, 1, 21), (75, 2, 25)] : zW) xL_10 5 (none) xE_134 (xE_134.drop 29) [.ref 83, .ref 3, .int a2, .int a3, .null, .null, .null] [] s Q) (h : v_134_63 (fun j => Zt d (wd 3 j) j) 3 R7 R29 a2 a3 a4 s Q) : Zn d [(83, 1), (83, 2)] [(3, 98)] ([(83, 2, 4), (83, 1, 3), (75, 0, 3), (75, 1, 21), (75, 2, 25)] : zW) ([(83, 2, 4), (83, 1, 3), (75, 0, 3), (75, 1, 21), (75, 2, 25)] : zW) xL_10 5 (none) xE_134 (xE_134.drop 63) [.ref 83, .ref 3, .int a2, .int a3, .int a4, .null, .null] [] s Q := by
  unfold v_134_63 at h
  replace h := h _ (i_add (x := a3) (y := 1) rfl (show (1 : Int32).toInt = 1 by decide))
  refine zn_inc [.ref 83, .ref 3, .int a2, .int (a3 + 1), .int a4, .null, .null] rfl rfl rfl rfl ?_
  refine zn_go rfl ?_
  refine zn_fg 4 ?_
  exact r29 a2 (a3 + 1) s h
set_option maxRecDepth 20000 in
theorem m_134_29_3 {d d0 : Nat} (hd : d = d0 + 8) {R7 : Int32 → zS → Prop} {R29 : Int32 → Int32 → zS → Prop} {a2 : Int32} {a3 : Int32} {s : zS} {Q : Option Value → zS → Prop} (r7 : ∀ a2 s, R7 a2 s → Zn d [(83, 1), (83, 2)] [(3, 98)] ([(83, 2, 4), (83, 1, 3), (75, 0, 3), (75, 1, 21), (75, 2, 25)] : zW) ([(83, 2, 4), (83, 1, 3), (75, 0, 3), (75, 1, 21), (75, 2, 25)] : zW) xL_10 5 (none) xE_134 (xE_134.drop 7) [.ref 83, .ref 3, .int a2, .null, .null, .null, .null] [] s Q) (r29 : ∀ a2 a3 s, R29 a2 a3 s → Zn d [(83, 1), (83, 2)] [(3, 98)] ([(83, 2, 4), (83, 1, 3), (75, 0, 3), (75, 1, 21), (75, 2, 25)] : zW) ([(83, 2, 4), (83, 1, 3), (75, 0, 3), (75, 1, 21), (75, 2, 25)] : zW) xL_10 5 (none) xE_134 (xE_134.drop 29) [.ref 83, .ref 3, .int a2, .int a3, .null, .null, .null] [] s Q) (h : v_134_29 (fun j => Zt d (wd 3 j) j) 3 R7 R29 a2 a3 s Q) : Zn d [(83, 1), (83, 2)] [(3, 98)] ([(83, 2, 4), (83, 1, 3), (75, 0, 3), (75, 1, 21), (75, 2, 25)] : zW) ([(83, 2, 4), (83, 1, 3), (75, 0, 3), (75, 1, 21), (75, 2, 25)] : zW) xL_10 5 (none) xE_134 (xE_134.drop 29) [.ref 83, .ref 3, .int a2, .int a3, .null, .null, .null] [] s Q := by
  unfold v_134_29 at h
  refine zn_ld rfl rfl rfl ?_
  refine zn_ld rfl rfl rfl ?_
  refine zn_get (v := .ref 3) rfl (zv_C (a := 83) (n := 1) rfl rfl rfl) ?_
  refine zn_ld rfl rfl rfl ?_
  refine zn_c [.int 2, .int a2, .ref 3, .int a3] (xo_push (.int 2)) rfl rfl ?_
  refine zn_zt [.ref 3, .int a2, .int 2] [.int a3] (c := []) rfl rfl rfl rfl rfl (Zt.imp (zp_43 hd (Or.inl rfl)) (fun vq sq hq => ?_))
  obtain ⟨rfl, hq⟩ := hq
  rw [hq]
  change Zn _ _ _ _ _ _ _ _ _ _ _ [.int (zg s 35 (a2 * 3 + 2)), .int a3] _ _
  refine zn_brP rfl rfl ⟨fun hcn => ?_, fun hcn => ?_⟩
  · replace h := h.1 ((i_le (x := zg s 35 (a2 * 3 + 2)) (y := a3) rfl rfl).mp hcn)
    exact m_134_65_3 hd r7 h
  · replace h := h.2 (fun q => hcn ((i_le (x := zg s 35 (a2 * 3 + 2)) (y := a3) rfl rfl).mpr q))
    refine zn_ld rfl rfl rfl ?_
    refine zn_get (v := .ref 3) rfl (zv_C (a := 83) (n := 1) rfl rfl rfl) ?_
    refine zn_get (v := .int (s.1 3 14)) rfl (zv_I (a := 3) rfl rfl) ?_
    refine zn_brN rfl rfl ⟨fun hcn => ?_, fun hcn => ?_⟩
    · replace h := h.1 (fun q => hcn ((i_eq (x := s.1 3 14) (y := 0) rfl (show (0 : Int32).toInt = 0 by decide)).mpr q))
      exact m_134_65_3 hd r7 h
    · replace h := h.2 ((i_eq (x := s.1 3 14) (y := 0) rfl (show (0 : Int32).toInt = 0 by decide)).mp hcn)
      refine zn_ld rfl rfl rfl ?_
      refine zn_get (v := .ref 3) rfl (zv_C (a := 83) (n := 1) rfl rfl rfl) ?_
      refine zn_ld rfl rfl rfl ?_
      refine zn_c [.int 3, .int a3, .ref 3] (xo_push (.int 3)) rfl rfl ?_
      refine zn_zt [.ref 3, .int a3, .int 3] [] (c := []) rfl rfl rfl rfl rfl (Zt.imp (zp_42 hd (Or.inl rfl)) (fun vq sq hq => ?_))
      obtain ⟨rfl, hq⟩ := hq
      rw [hq]
      change Zn _ _ _ _ _ _ _ _ _ _ _ [.int (zg s 33 (a3 * 5 + 3))] _ _
      refine zn_st [.ref 83, .ref 3, .int a2, .int a3, .int (zg s 33 (a3 * 5 + 3)), .null, .null] rfl rfl rfl ?_
      refine zn_ld rfl rfl rfl ?_
      refine zn_brP rfl rfl ⟨fun hcn => ?_, fun hcn => ?_⟩
      · replace h := h.1 ((i_lt (x := zg s 33 (a3 * 5 + 3)) (y := 0) rfl (show (0 : Int32).toInt = 0 by decide)).mp hcn)
        exact m_134_63_3 hd r7 r29 h
      · replace h := h.2 (fun q => hcn ((i_lt (x := zg s 33 (a3 * 5 + 3)) (y := 0) rfl (show (0 : Int32).toInt = 0 by decide)).mpr q))
        refine zn_ld rfl rfl rfl ?_
        refine zn_get (v := .ref 75) rfl (zv_R (a := 83) rfl rfl) ?_
        refine zn_ld rfl rfl rfl ?_
        refine zn_get (v := .ref 3) rfl (zv_C (a := 83) (n := 1) rfl rfl rfl) ?_
        refine zn_ld rfl rfl rfl ?_
        refine zn_c [.int 4, .int a3, .ref 3, .ref 75] (xo_push (.int 4)) rfl rfl ?_
        refine zn_zt [.ref 3, .int a3, .int 4] [.ref 75] (c := []) rfl rfl rfl rfl rfl (Zt.imp (zp_42 hd (Or.inl rfl)) (fun vq sq hq => ?_))
        obtain ⟨rfl, hq⟩ := hq
        rw [hq]
        change Zn _ _ _ _ _ _ _ _ _ _ _ [.int (zg s 33 (a3 * 5 + 4)), .ref 75] _ _
        refine zn_putI (a := 75) rfl rfl rfl rfl ⟨Int32.le_toInt _, Int.le_of_lt_add_one (Int32.toInt_lt _)⟩ rfl rfl rfl ?_
        replace h := h _ rfl
        refine zn_ld rfl rfl rfl ?_
        refine zn_ld rfl rfl rfl ?_
        refine zn_ld rfl rfl rfl ?_
        refine zn_get (v := .ref 75) rfl (zv_R (a := 83) rfl rfl) ?_
        refine zn_ld rfl rfl rfl ?_
        refine zn_zt [.ref 75, .int (zg s 33 (a3 * 5 + 3))] [.int (zg s 33 (a3 * 5 + 3)), .ref 83] rfl rfl rfl rfl rfl (Zt.imp h (fun v5 s6 h => ?_))
        obtain ⟨x7, rfl, h⟩ := h
        change Zn _ _ _ _ _ _ _ _ _ _ _ [.int x7, .int (zg s 33 (a3 * 5 + 3)), .ref 83] _ _
        refine zn_zt [.ref 83, .int (zg s 33 (a3 * 5 + 3)), .int x7] [] rfl rfl rfl rfl rfl (Zt.imp h (fun v8 s9 h => ?_))
        obtain ⟨rfl, h⟩ := h
        change Zn _ _ _ _ _ _ _ _ _ _ _ [] _ _
        exact m_134_63_3 hd r7 r29 h
theorem ml_134_29_3 {d d0 : Nat} (hd : d = d0 + 8) {R7 : Int32 → zS → Prop} {a2 : Int32} {a3 : Int32} {s : zS} {Q : Option Value → zS → Prop} (r7 : ∀ a2 s, R7 a2 s → Zn d [(83, 1), (83, 2)] [(3, 98)] ([(83, 2, 4), (83, 1, 3), (75, 0, 3), (75, 1, 21), (75, 2, 25)] : zW) ([(83, 2, 4), (83, 1, 3), (75, 0, 3), (75, 1, 21), (75, 2, 25)] : zW) xL_10 5 (none) xE_134 (xE_134.drop 7) [.ref 83, .ref 3, .int a2, .null, .null, .null, .null] [] s Q) (h : vl_134_29 (fun j => Zt d (wd 3 j) j) 3 R7 a2 a3 s Q) : Zn d [(83, 1), (83, 2)] [(3, 98)] ([(83, 2, 4), (83, 1, 3), (75, 0, 3), (75, 1, 21), (75, 2, 25)] : zW) ([(83, 2, 4), (83, 1, 3), (75, 0, 3), (75, 1, 21), (75, 2, 25)] : zW) xL_10 5 (none) xE_134 (xE_134.drop 29) [.ref 83, .ref 3, .int a2, .int a3, .null, .null, .null] [] s Q := by
  obtain ⟨I, μ, h0, h1⟩ := h
  have key : ∀ (n : Nat) (a2 : Int32) (a3 : Int32) (s : zS), μ a2 a3 s = n → I a2 a3 s → Zn d [(83, 1), (83, 2)] [(3, 98)] ([(83, 2, 4), (83, 1, 3), (75, 0, 3), (75, 1, 21), (75, 2, 25)] : zW) ([(83, 2, 4), (83, 1, 3), (75, 0, 3), (75, 1, 21), (75, 2, 25)] : zW) xL_10 5 (none) xE_134 (xE_134.drop 29) [.ref 83, .ref 3, .int a2, .int a3, .null, .null, .null] [] s Q := by
    intro n
    induction n using Nat.strongRecOn with
    | ind n ih =>
      intro a2 a3 s e hI
      exact m_134_29_3 hd r7 (fun a2' a3' s' q => ih _ (by rw [← e]; exact q.2) a2' a3' s' rfl q.1) (h1 a2 a3 s hI)
  exact key _ a2 a3 s rfl h0
set_option maxRecDepth 20000 in
theorem m_134_7_3 {d d0 : Nat} (hd : d = d0 + 8) {R7 : Int32 → zS → Prop} {a2 : Int32} {s : zS} {Q : Option Value → zS → Prop} (r7 : ∀ a2 s, R7 a2 s → Zn d [(83, 1), (83, 2)] [(3, 98)] ([(83, 2, 4), (83, 1, 3), (75, 0, 3), (75, 1, 21), (75, 2, 25)] : zW) ([(83, 2, 4), (83, 1, 3), (75, 0, 3), (75, 1, 21), (75, 2, 25)] : zW) xL_10 5 (none) xE_134 (xE_134.drop 7) [.ref 83, .ref 3, .int a2, .null, .null, .null, .null] [] s Q) (h : v_134_7 (fun j => Zt d (wd 3 j) j) 3 R7 a2 s Q) : Zn d [(83, 1), (83, 2)] [(3, 98)] ([(83, 2, 4), (83, 1, 3), (75, 0, 3), (75, 1, 21), (75, 2, 25)] : zW) ([(83, 2, 4), (83, 1, 3), (75, 0, 3), (75, 1, 21), (75, 2, 25)] : zW) xL_10 5 (none) xE_134 (xE_134.drop 7) [.ref 83, .ref 3, .int a2, .null, .null, .null, .null] [] s Q := by
  unfold v_134_7 at h
  refine zn_ld rfl rfl rfl ?_
  refine zn_ld rfl rfl rfl ?_
  refine zn_get (v := .ref 3) rfl (zv_C (a := 83) (n := 1) rfl rfl rfl) ?_
  refine zn_zt [.ref 3] [.int a2] (c := []) rfl rfl rfl rfl rfl (Zt.imp (zp_48 hd (Or.inl rfl)) (fun vq sq hq => ?_))
  obtain ⟨rfl, hq⟩ := hq
  rw [hq]
  change Zn _ _ _ _ _ _ _ _ _ _ _ [.int (s.1 35 2 / 3), .int a2] _ _
  refine zn_brP rfl rfl ⟨fun hcn => ?_, fun hcn => ?_⟩
  · replace h := h.1 ((i_le (x := s.1 35 2 / 3) (y := a2) rfl rfl).mp hcn)
    exact m_134_67_3 hd  h
  · replace h := h.2 (fun q => hcn ((i_le (x := s.1 35 2 / 3) (y := a2) rfl rfl).mpr q))
    refine zn_ld rfl rfl rfl ?_
    refine zn_get (v := .ref 3) rfl (zv_C (a := 83) (n := 1) rfl rfl rfl) ?_
    refine zn_get (v := .int (s.1 3 14)) rfl (zv_I (a := 3) rfl rfl) ?_
    refine zn_brN rfl rfl ⟨fun hcn => ?_, fun hcn => ?_⟩
    · replace h := h.1 (fun q => hcn ((i_eq (x := s.1 3 14) (y := 0) rfl (show (0 : Int32).toInt = 0 by decide)).mpr q))
      exact m_134_67_3 hd  h
    · replace h := h.2 ((i_eq (x := s.1 3 14) (y := 0) rfl (show (0 : Int32).toInt = 0 by decide)).mp hcn)
      refine zn_ld rfl rfl rfl ?_
      refine zn_ld rfl rfl rfl ?_
      refine zn_get (v := .ref 3) rfl (zv_C (a := 83) (n := 1) rfl rfl rfl) ?_
      refine zn_ld rfl rfl rfl ?_
      refine zn_c [.int 0, .int a2, .ref 3, .ref 83] (xo_push (.int 0)) rfl rfl ?_
      refine zn_zt [.ref 3, .int a2, .int 0] [.ref 83] (c := []) rfl rfl rfl rfl rfl (Zt.imp (zp_43 hd (Or.inl rfl)) (fun vq sq hq => ?_))
      obtain ⟨rfl, hq⟩ := hq
      rw [hq]
      change Zn _ _ _ _ _ _ _ _ _ _ _ [.int (zg s 35 (a2 * 3 + 0)), .ref 83] _ _
      refine zn_zt [.ref 83, .int (zg s 35 (a2 * 3 + 0))] [] rfl rfl rfl rfl rfl (Zt.imp h (fun v2 s3 h => ?_))
      obtain ⟨rfl, h⟩ := h
      change Zn _ _ _ _ _ _ _ _ _ _ _ [] _ _
      refine zn_ld rfl rfl rfl ?_
      refine zn_get (v := .ref 3) rfl (zv_C (a := 83) (n := 1) rfl rfl rfl) ?_
      refine zn_ld rfl rfl rfl ?_
      refine zn_c [.int 1, .int a2, .ref 3] (xo_push (.int 1)) rfl rfl ?_
      refine zn_zt [.ref 3, .int a2, .int 1] [] (c := []) rfl rfl rfl rfl rfl (Zt.imp (zp_43 hd (Or.inl rfl)) (fun vq sq hq => ?_))
      obtain ⟨rfl, hq⟩ := hq
      rw [hq]
      change Zn _ _ _ _ _ _ _ _ _ _ _ [.int (zg s3 35 (a2 * 3 + 1))] _ _
      refine zn_st [.ref 83, .ref 3, .int a2, .int (zg s3 35 (a2 * 3 + 1)), .null, .null, .null] rfl rfl rfl ?_
      exact ml_134_29_3 hd r7 h
theorem ml_134_7_3 {d d0 : Nat} (hd : d = d0 + 8)  {a2 : Int32} {s : zS} {Q : Option Value → zS → Prop}  (h : vl_134_7 (fun j => Zt d (wd 3 j) j) 3  a2 s Q) : Zn d [(83, 1), (83, 2)] [(3, 98)] ([(83, 2, 4), (83, 1, 3), (75, 0, 3), (75, 1, 21), (75, 2, 25)] : zW) ([(83, 2, 4), (83, 1, 3), (75, 0, 3), (75, 1, 21), (75, 2, 25)] : zW) xL_10 5 (none) xE_134 (xE_134.drop 7) [.ref 83, .ref 3, .int a2, .null, .null, .null, .null] [] s Q := by
  obtain ⟨I, μ, h0, h1⟩ := h
  have key : ∀ (n : Nat) (a2 : Int32) (s : zS), μ a2 s = n → I a2 s → Zn d [(83, 1), (83, 2)] [(3, 98)] ([(83, 2, 4), (83, 1, 3), (75, 0, 3), (75, 1, 21), (75, 2, 25)] : zW) ([(83, 2, 4), (83, 1, 3), (75, 0, 3), (75, 1, 21), (75, 2, 25)] : zW) xL_10 5 (none) xE_134 (xE_134.drop 7) [.ref 83, .ref 3, .int a2, .null, .null, .null, .null] [] s Q := by
    intro n
    induction n using Nat.strongRecOn with
    | ind n ih =>
      intro a2 s e hI
      exact m_134_7_3 hd (fun a2' s' q => ih _ (by rw [← e]; exact q.2) a2' s' rfl q.1) (h1 a2 s hI)
  exact key _ a2 s rfl h0
set_option maxRecDepth 20000 in
theorem m_134_0_3 {d d0 : Nat} (hd : d = d0 + 8)   {s : zS} {Q : Option Value → zS → Prop}  (h : v_134_0 (fun j => Zt d (wd 3 j) j) 3   s Q) : Zn d [(83, 1), (83, 2)] [(3, 98)] ([(75, 0, 3), (75, 1, 21), (75, 2, 25)] : zW) ([(83, 2, 4), (83, 1, 3), (75, 0, 3), (75, 1, 21), (75, 2, 25)] : zW) xL_10 5 (none) xE_134 (xE_134.drop 0) [.ref 83, .ref 3, .null, .null, .null, .null, .null] [] s Q := by
  unfold v_134_0 at h
  refine zn_ld rfl rfl rfl ?_
  refine zn_ld rfl rfl rfl ?_
  refine zn_ld rfl rfl rfl ?_
  refine zn_get (v := .ref 4) rfl (zv_R (a := 3) rfl rfl) ?_
  refine zn_zu [.ref 83, .ref 3, .ref 4] [] (c := []) (c' := [(83, 2, 4), (83, 1, 3)]) (w1 := ([(75, 0, 3), (75, 1, 21), (75, 2, 25)] : zW)) rfl rfl rfl rfl rfl rfl rfl (Zu.imp (zp_121 hd (Or.inl rfl)) (fun vq sq hq => ?_))
  obtain ⟨rfl, hq⟩ := hq
  rw [hq]
  change Zn _ _ _ _ _ _ _ _ _ _ _ [] _ _
  refine zn_c [.int 0] (xo_push (.int 0)) rfl rfl ?_
  refine zn_st [.ref 83, .ref 3, .int 0, .null, .null, .null, .null] rfl rfl rfl ?_
  exact ml_134_7_3 hd  h
theorem zq_134_3 {d : Nat}  {s : zS} {Q : Option Value → zS → Prop} (h : v_134_0 (fun j => Zt (d + 8) (wd 3 j) j) 3  s Q) : Zu (d + 9) [(83, 1), (83, 2)] ([(75, 0, 3), (75, 1, 21), (75, 2, 25)] : zW) ([(83, 2, 4), (83, 1, 3), (75, 0, 3), (75, 1, 21), (75, 2, 25)] : zW) 134 [.ref 83, .ref 3] s Q := zu_of (E := xE_134) (L := xL_10) (ml := 5) (ret := none) rfl rfl rfl (m_134_0_3 rfl h)
set_option maxRecDepth 20000 in
theorem m_134_67_39 {d d0 : Nat} (hd : d = d0 + 8)  {a2 : Int32} {s : zS} {Q : Option Value → zS → Prop}  (h : v_134_67 (fun j => Zt d (wd 39 j) j) 39  a2 s Q) : Zn d [(83, 1), (83, 2)] [(39, 98)] ([(83, 2, 40), (83, 1, 39), (75, 0, 39), (75, 1, 57), (75, 2, 61)] : zW) ([(83, 2, 40), (83, 1, 39), (75, 0, 39), (75, 1, 57), (75, 2, 61)] : zW) xL_10 5 (none) xE_134 (xE_134.drop 67) [.ref 83, .ref 39, .int a2, .null, .null, .null, .null] [] s Q := by
  unfold v_134_67 at h
  exact zn_ret0 rfl h
set_option maxRecDepth 20000 in
theorem m_134_65_39 {d d0 : Nat} (hd : d = d0 + 8) {R7 : Int32 → zS → Prop} {a2 : Int32} {a3 : Int32} {s : zS} {Q : Option Value → zS → Prop} (r7 : ∀ a2 s, R7 a2 s → Zn d [(83, 1), (83, 2)] [(39, 98)] ([(83, 2, 40), (83, 1, 39), (75, 0, 39), (75, 1, 57), (75, 2, 61)] : zW) ([(83, 2, 40), (83, 1, 39), (75, 0, 39), (75, 1, 57), (75, 2, 61)] : zW) xL_10 5 (none) xE_134 (xE_134.drop 7) [.ref 83, .ref 39, .int a2, .null, .null, .null, .null] [] s Q) (h : v_134_65 (fun j => Zt d (wd 39 j) j) 39 R7 a2 a3 s Q) : Zn d [(83, 1), (83, 2)] [(39, 98)] ([(83, 2, 40), (83, 1, 39), (75, 0, 39), (75, 1, 57), (75, 2, 61)] : zW) ([(83, 2, 40), (83, 1, 39), (75, 0, 39), (75, 1, 57), (75, 2, 61)] : zW) xL_10 5 (none) xE_134 (xE_134.drop 65) [.ref 83, .ref 39, .int a2, .int a3, .null, .null, .null] [] s Q := by
  unfold v_134_65 at h
  replace h := h _ (i_add (x := a2) (y := 1) rfl (show (1 : Int32).toInt = 1 by decide))
  refine zn_inc [.ref 83, .ref 39, .int (a2 + 1), .int a3, .null, .null, .null] rfl rfl rfl rfl ?_
  refine zn_go rfl ?_
  refine zn_fg 3 ?_
  exact r7 (a2 + 1) s h
set_option maxRecDepth 20000 in
theorem m_134_63_39 {d d0 : Nat} (hd : d = d0 + 8) {R7 : Int32 → zS → Prop} {R29 : Int32 → Int32 → zS → Prop} {a2 : Int32} {a3 : Int32} {a4 : Int32} {s : zS} {Q : Option Value → zS → Prop} (r7 : ∀ a2 s, R7 a2 s → Zn d [(83, 1), (83, 2)] [(39, 98)] ([(83, 2, 40), (83, 1, 39), (75, 0, 39), (75, 1, 57), (75, 2, 61)] : zW) ([(83, 2, 40), (83, 1, 39), (75, 0, 39), (75, 1, 57), (75, 2, 61)] : zW) xL_10 5 (none) xE_134 (xE_134.drop 7) [.ref 83, .ref 39, .int a2, .null, .null, .null, .null] [] s Q) (r29 : ∀ a2 a3 s, R29 a2 a3 s → Zn d [(83, 1), (83, 2)] [(39, 98)] ([(83, 2, 40), (83, 1, 39), (75, 0, 39), (75, 1, 57), (75, 2, 61)] : zW) ([(83, 2, 40), (83, 1, 39), (75, 0, 39), (75, 1, 57), (75, 2, 61)] : zW) xL_10 5 (none) xE_134 (xE_134.drop 29) [.ref 83, .ref 39, .int a2, .int a3, .null, .null, .null] [] s Q) (h : v_134_63 (fun j => Zt d (wd 39 j) j) 39 R7 R29 a2 a3 a4 s Q) : Zn d [(83, 1), (83, 2)] [(39, 98)] ([(83, 2, 40), (83, 1, 39), (75, 0, 39), (75, 1, 57), (75, 2, 61)] : zW) ([(83, 2, 40), (83, 1, 39), (75, 0, 39), (75, 1, 57), (75, 2, 61)] : zW) xL_10 5 (none) xE_134 (xE_134.drop 63) [.ref 83, .ref 39, .int a2, .int a3, .int a4, .null, .null] [] s Q := by
  unfold v_134_63 at h
  replace h := h _ (i_add (x := a3) (y := 1) rfl (show (1 : Int32).toInt = 1 by decide))
  refine zn_inc [.ref 83, .ref 39, .int a2, .int (a3 + 1), .int a4, .null, .null] rfl rfl rfl rfl ?_
  refine zn_go rfl ?_
  refine zn_fg 4 ?_
  exact r29 a2 (a3 + 1) s h
set_option maxRecDepth 20000 in
theorem m_134_29_39 {d d0 : Nat} (hd : d = d0 + 8) {R7 : Int32 → zS → Prop} {R29 : Int32 → Int32 → zS → Prop} {a2 : Int32} {a3 : Int32} {s : zS} {Q : Option Value → zS → Prop} (r7 : ∀ a2 s, R7 a2 s → Zn d [(83, 1), (83, 2)] [(39, 98)] ([(83, 2, 40), (83, 1, 39), (75, 0, 39), (75, 1, 57), (75, 2, 61)] : zW) ([(83, 2, 40), (83, 1, 39), (75, 0, 39), (75, 1, 57), (75, 2, 61)] : zW) xL_10 5 (none) xE_134 (xE_134.drop 7) [.ref 83, .ref 39, .int a2, .null, .null, .null, .null] [] s Q) (r29 : ∀ a2 a3 s, R29 a2 a3 s → Zn d [(83, 1), (83, 2)] [(39, 98)] ([(83, 2, 40), (83, 1, 39), (75, 0, 39), (75, 1, 57), (75, 2, 61)] : zW) ([(83, 2, 40), (83, 1, 39), (75, 0, 39), (75, 1, 57), (75, 2, 61)] : zW) xL_10 5 (none) xE_134 (xE_134.drop 29) [.ref 83, .ref 39, .int a2, .int a3, .null, .null, .null] [] s Q) (h : v_134_29 (fun j => Zt d (wd 39 j) j) 39 R7 R29 a2 a3 s Q) : Zn d [(83, 1), (83, 2)] [(39, 98)] ([(83, 2, 40), (83, 1, 39), (75, 0, 39), (75, 1, 57), (75, 2, 61)] : zW) ([(83, 2, 40), (83, 1, 39), (75, 0, 39), (75, 1, 57), (75, 2, 61)] : zW) xL_10 5 (none) xE_134 (xE_134.drop 29) [.ref 83, .ref 39, .int a2, .int a3, .null, .null, .null] [] s Q := by
  unfold v_134_29 at h
  refine zn_ld rfl rfl rfl ?_
  refine zn_ld rfl rfl rfl ?_
  refine zn_get (v := .ref 39) rfl (zv_C (a := 83) (n := 1) rfl rfl rfl) ?_
  refine zn_ld rfl rfl rfl ?_
  refine zn_c [.int 2, .int a2, .ref 39, .int a3] (xo_push (.int 2)) rfl rfl ?_
  refine zn_zt [.ref 39, .int a2, .int 2] [.int a3] (c := []) rfl rfl rfl rfl rfl (Zt.imp (zp_43 hd (Or.inr rfl)) (fun vq sq hq => ?_))
  obtain ⟨rfl, hq⟩ := hq
  rw [hq]
  change Zn _ _ _ _ _ _ _ _ _ _ _ [.int (zg s 71 (a2 * 3 + 2)), .int a3] _ _
  refine zn_brP rfl rfl ⟨fun hcn => ?_, fun hcn => ?_⟩
  · replace h := h.1 ((i_le (x := zg s 71 (a2 * 3 + 2)) (y := a3) rfl rfl).mp hcn)
    exact m_134_65_39 hd r7 h
  · replace h := h.2 (fun q => hcn ((i_le (x := zg s 71 (a2 * 3 + 2)) (y := a3) rfl rfl).mpr q))
    refine zn_ld rfl rfl rfl ?_
    refine zn_get (v := .ref 39) rfl (zv_C (a := 83) (n := 1) rfl rfl rfl) ?_
    refine zn_get (v := .int (s.1 39 14)) rfl (zv_I (a := 39) rfl rfl) ?_
    refine zn_brN rfl rfl ⟨fun hcn => ?_, fun hcn => ?_⟩
    · replace h := h.1 (fun q => hcn ((i_eq (x := s.1 39 14) (y := 0) rfl (show (0 : Int32).toInt = 0 by decide)).mpr q))
      exact m_134_65_39 hd r7 h
    · replace h := h.2 ((i_eq (x := s.1 39 14) (y := 0) rfl (show (0 : Int32).toInt = 0 by decide)).mp hcn)
      refine zn_ld rfl rfl rfl ?_
      refine zn_get (v := .ref 39) rfl (zv_C (a := 83) (n := 1) rfl rfl rfl) ?_
      refine zn_ld rfl rfl rfl ?_
      refine zn_c [.int 3, .int a3, .ref 39] (xo_push (.int 3)) rfl rfl ?_
      refine zn_zt [.ref 39, .int a3, .int 3] [] (c := []) rfl rfl rfl rfl rfl (Zt.imp (zp_42 hd (Or.inr rfl)) (fun vq sq hq => ?_))
      obtain ⟨rfl, hq⟩ := hq
      rw [hq]
      change Zn _ _ _ _ _ _ _ _ _ _ _ [.int (zg s 69 (a3 * 5 + 3))] _ _
      refine zn_st [.ref 83, .ref 39, .int a2, .int a3, .int (zg s 69 (a3 * 5 + 3)), .null, .null] rfl rfl rfl ?_
      refine zn_ld rfl rfl rfl ?_
      refine zn_brP rfl rfl ⟨fun hcn => ?_, fun hcn => ?_⟩
      · replace h := h.1 ((i_lt (x := zg s 69 (a3 * 5 + 3)) (y := 0) rfl (show (0 : Int32).toInt = 0 by decide)).mp hcn)
        exact m_134_63_39 hd r7 r29 h
      · replace h := h.2 (fun q => hcn ((i_lt (x := zg s 69 (a3 * 5 + 3)) (y := 0) rfl (show (0 : Int32).toInt = 0 by decide)).mpr q))
        refine zn_ld rfl rfl rfl ?_
        refine zn_get (v := .ref 75) rfl (zv_R (a := 83) rfl rfl) ?_
        refine zn_ld rfl rfl rfl ?_
        refine zn_get (v := .ref 39) rfl (zv_C (a := 83) (n := 1) rfl rfl rfl) ?_
        refine zn_ld rfl rfl rfl ?_
        refine zn_c [.int 4, .int a3, .ref 39, .ref 75] (xo_push (.int 4)) rfl rfl ?_
        refine zn_zt [.ref 39, .int a3, .int 4] [.ref 75] (c := []) rfl rfl rfl rfl rfl (Zt.imp (zp_42 hd (Or.inr rfl)) (fun vq sq hq => ?_))
        obtain ⟨rfl, hq⟩ := hq
        rw [hq]
        change Zn _ _ _ _ _ _ _ _ _ _ _ [.int (zg s 69 (a3 * 5 + 4)), .ref 75] _ _
        refine zn_putI (a := 75) rfl rfl rfl rfl ⟨Int32.le_toInt _, Int.le_of_lt_add_one (Int32.toInt_lt _)⟩ rfl rfl rfl ?_
        replace h := h _ rfl
        refine zn_ld rfl rfl rfl ?_
        refine zn_ld rfl rfl rfl ?_
        refine zn_ld rfl rfl rfl ?_
        refine zn_get (v := .ref 75) rfl (zv_R (a := 83) rfl rfl) ?_
        refine zn_ld rfl rfl rfl ?_
        refine zn_zt [.ref 75, .int (zg s 69 (a3 * 5 + 3))] [.int (zg s 69 (a3 * 5 + 3)), .ref 83] rfl rfl rfl rfl rfl (Zt.imp h (fun v5 s6 h => ?_))
        obtain ⟨x7, rfl, h⟩ := h
        change Zn _ _ _ _ _ _ _ _ _ _ _ [.int x7, .int (zg s 69 (a3 * 5 + 3)), .ref 83] _ _
        refine zn_zt [.ref 83, .int (zg s 69 (a3 * 5 + 3)), .int x7] [] rfl rfl rfl rfl rfl (Zt.imp h (fun v8 s9 h => ?_))
        obtain ⟨rfl, h⟩ := h
        change Zn _ _ _ _ _ _ _ _ _ _ _ [] _ _
        exact m_134_63_39 hd r7 r29 h
theorem ml_134_29_39 {d d0 : Nat} (hd : d = d0 + 8) {R7 : Int32 → zS → Prop} {a2 : Int32} {a3 : Int32} {s : zS} {Q : Option Value → zS → Prop} (r7 : ∀ a2 s, R7 a2 s → Zn d [(83, 1), (83, 2)] [(39, 98)] ([(83, 2, 40), (83, 1, 39), (75, 0, 39), (75, 1, 57), (75, 2, 61)] : zW) ([(83, 2, 40), (83, 1, 39), (75, 0, 39), (75, 1, 57), (75, 2, 61)] : zW) xL_10 5 (none) xE_134 (xE_134.drop 7) [.ref 83, .ref 39, .int a2, .null, .null, .null, .null] [] s Q) (h : vl_134_29 (fun j => Zt d (wd 39 j) j) 39 R7 a2 a3 s Q) : Zn d [(83, 1), (83, 2)] [(39, 98)] ([(83, 2, 40), (83, 1, 39), (75, 0, 39), (75, 1, 57), (75, 2, 61)] : zW) ([(83, 2, 40), (83, 1, 39), (75, 0, 39), (75, 1, 57), (75, 2, 61)] : zW) xL_10 5 (none) xE_134 (xE_134.drop 29) [.ref 83, .ref 39, .int a2, .int a3, .null, .null, .null] [] s Q := by
  obtain ⟨I, μ, h0, h1⟩ := h
  have key : ∀ (n : Nat) (a2 : Int32) (a3 : Int32) (s : zS), μ a2 a3 s = n → I a2 a3 s → Zn d [(83, 1), (83, 2)] [(39, 98)] ([(83, 2, 40), (83, 1, 39), (75, 0, 39), (75, 1, 57), (75, 2, 61)] : zW) ([(83, 2, 40), (83, 1, 39), (75, 0, 39), (75, 1, 57), (75, 2, 61)] : zW) xL_10 5 (none) xE_134 (xE_134.drop 29) [.ref 83, .ref 39, .int a2, .int a3, .null, .null, .null] [] s Q := by
    intro n
    induction n using Nat.strongRecOn with
    | ind n ih =>
      intro a2 a3 s e hI
      exact m_134_29_39 hd r7 (fun a2' a3' s' q => ih _ (by rw [← e]; exact q.2) a2' a3' s' rfl q.1) (h1 a2 a3 s hI)
  exact key _ a2 a3 s rfl h0
set_option maxRecDepth 20000 in
theorem m_134_7_39 {d d0 : Nat} (hd : d = d0 + 8) {R7 : Int32 → zS → Prop} {a2 : Int32} {s : zS} {Q : Option Value → zS → Prop} (r7 : ∀ a2 s, R7 a2 s → Zn d [(83, 1), (83, 2)] [(39, 98)] ([(83, 2, 40), (83, 1, 39), (75, 0, 39), (75, 1, 57), (75, 2, 61)] : zW) ([(83, 2, 40), (83, 1, 39), (75, 0, 39), (75, 1, 57), (75, 2, 61)] : zW) xL_10 5 (none) xE_134 (xE_134.drop 7) [.ref 83, .ref 39, .int a2, .null, .null, .null, .null] [] s Q) (h : v_134_7 (fun j => Zt d (wd 39 j) j) 39 R7 a2 s Q) : Zn d [(83, 1), (83, 2)] [(39, 98)] ([(83, 2, 40), (83, 1, 39), (75, 0, 39), (75, 1, 57), (75, 2, 61)] : zW) ([(83, 2, 40), (83, 1, 39), (75, 0, 39), (75, 1, 57), (75, 2, 61)] : zW) xL_10 5 (none) xE_134 (xE_134.drop 7) [.ref 83, .ref 39, .int a2, .null, .null, .null, .null] [] s Q := by
  unfold v_134_7 at h
  refine zn_ld rfl rfl rfl ?_
  refine zn_ld rfl rfl rfl ?_
  refine zn_get (v := .ref 39) rfl (zv_C (a := 83) (n := 1) rfl rfl rfl) ?_
  refine zn_zt [.ref 39] [.int a2] (c := []) rfl rfl rfl rfl rfl (Zt.imp (zp_48 hd (Or.inr rfl)) (fun vq sq hq => ?_))
  obtain ⟨rfl, hq⟩ := hq
  rw [hq]
  change Zn _ _ _ _ _ _ _ _ _ _ _ [.int (s.1 71 2 / 3), .int a2] _ _
  refine zn_brP rfl rfl ⟨fun hcn => ?_, fun hcn => ?_⟩
  · replace h := h.1 ((i_le (x := s.1 71 2 / 3) (y := a2) rfl rfl).mp hcn)
    exact m_134_67_39 hd  h
  · replace h := h.2 (fun q => hcn ((i_le (x := s.1 71 2 / 3) (y := a2) rfl rfl).mpr q))
    refine zn_ld rfl rfl rfl ?_
    refine zn_get (v := .ref 39) rfl (zv_C (a := 83) (n := 1) rfl rfl rfl) ?_
    refine zn_get (v := .int (s.1 39 14)) rfl (zv_I (a := 39) rfl rfl) ?_
    refine zn_brN rfl rfl ⟨fun hcn => ?_, fun hcn => ?_⟩
    · replace h := h.1 (fun q => hcn ((i_eq (x := s.1 39 14) (y := 0) rfl (show (0 : Int32).toInt = 0 by decide)).mpr q))
      exact m_134_67_39 hd  h
    · replace h := h.2 ((i_eq (x := s.1 39 14) (y := 0) rfl (show (0 : Int32).toInt = 0 by decide)).mp hcn)
      refine zn_ld rfl rfl rfl ?_
      refine zn_ld rfl rfl rfl ?_
      refine zn_get (v := .ref 39) rfl (zv_C (a := 83) (n := 1) rfl rfl rfl) ?_
      refine zn_ld rfl rfl rfl ?_
      refine zn_c [.int 0, .int a2, .ref 39, .ref 83] (xo_push (.int 0)) rfl rfl ?_
      refine zn_zt [.ref 39, .int a2, .int 0] [.ref 83] (c := []) rfl rfl rfl rfl rfl (Zt.imp (zp_43 hd (Or.inr rfl)) (fun vq sq hq => ?_))
      obtain ⟨rfl, hq⟩ := hq
      rw [hq]
      change Zn _ _ _ _ _ _ _ _ _ _ _ [.int (zg s 71 (a2 * 3 + 0)), .ref 83] _ _
      refine zn_zt [.ref 83, .int (zg s 71 (a2 * 3 + 0))] [] rfl rfl rfl rfl rfl (Zt.imp h (fun v2 s3 h => ?_))
      obtain ⟨rfl, h⟩ := h
      change Zn _ _ _ _ _ _ _ _ _ _ _ [] _ _
      refine zn_ld rfl rfl rfl ?_
      refine zn_get (v := .ref 39) rfl (zv_C (a := 83) (n := 1) rfl rfl rfl) ?_
      refine zn_ld rfl rfl rfl ?_
      refine zn_c [.int 1, .int a2, .ref 39] (xo_push (.int 1)) rfl rfl ?_
      refine zn_zt [.ref 39, .int a2, .int 1] [] (c := []) rfl rfl rfl rfl rfl (Zt.imp (zp_43 hd (Or.inr rfl)) (fun vq sq hq => ?_))
      obtain ⟨rfl, hq⟩ := hq
      rw [hq]
      change Zn _ _ _ _ _ _ _ _ _ _ _ [.int (zg s3 71 (a2 * 3 + 1))] _ _
      refine zn_st [.ref 83, .ref 39, .int a2, .int (zg s3 71 (a2 * 3 + 1)), .null, .null, .null] rfl rfl rfl ?_
      exact ml_134_29_39 hd r7 h
theorem ml_134_7_39 {d d0 : Nat} (hd : d = d0 + 8)  {a2 : Int32} {s : zS} {Q : Option Value → zS → Prop}  (h : vl_134_7 (fun j => Zt d (wd 39 j) j) 39  a2 s Q) : Zn d [(83, 1), (83, 2)] [(39, 98)] ([(83, 2, 40), (83, 1, 39), (75, 0, 39), (75, 1, 57), (75, 2, 61)] : zW) ([(83, 2, 40), (83, 1, 39), (75, 0, 39), (75, 1, 57), (75, 2, 61)] : zW) xL_10 5 (none) xE_134 (xE_134.drop 7) [.ref 83, .ref 39, .int a2, .null, .null, .null, .null] [] s Q := by
  obtain ⟨I, μ, h0, h1⟩ := h
  have key : ∀ (n : Nat) (a2 : Int32) (s : zS), μ a2 s = n → I a2 s → Zn d [(83, 1), (83, 2)] [(39, 98)] ([(83, 2, 40), (83, 1, 39), (75, 0, 39), (75, 1, 57), (75, 2, 61)] : zW) ([(83, 2, 40), (83, 1, 39), (75, 0, 39), (75, 1, 57), (75, 2, 61)] : zW) xL_10 5 (none) xE_134 (xE_134.drop 7) [.ref 83, .ref 39, .int a2, .null, .null, .null, .null] [] s Q := by
    intro n
    induction n using Nat.strongRecOn with
    | ind n ih =>
      intro a2 s e hI
      exact m_134_7_39 hd (fun a2' s' q => ih _ (by rw [← e]; exact q.2) a2' s' rfl q.1) (h1 a2 s hI)
  exact key _ a2 s rfl h0
set_option maxRecDepth 20000 in
theorem m_134_0_39 {d d0 : Nat} (hd : d = d0 + 8)   {s : zS} {Q : Option Value → zS → Prop}  (h : v_134_0 (fun j => Zt d (wd 39 j) j) 39   s Q) : Zn d [(83, 1), (83, 2)] [(39, 98)] ([(75, 0, 39), (75, 1, 57), (75, 2, 61)] : zW) ([(83, 2, 40), (83, 1, 39), (75, 0, 39), (75, 1, 57), (75, 2, 61)] : zW) xL_10 5 (none) xE_134 (xE_134.drop 0) [.ref 83, .ref 39, .null, .null, .null, .null, .null] [] s Q := by
  unfold v_134_0 at h
  refine zn_ld rfl rfl rfl ?_
  refine zn_ld rfl rfl rfl ?_
  refine zn_ld rfl rfl rfl ?_
  refine zn_get (v := .ref 40) rfl (zv_R (a := 39) rfl rfl) ?_
  refine zn_zu [.ref 83, .ref 39, .ref 40] [] (c := []) (c' := [(83, 2, 40), (83, 1, 39)]) (w1 := ([(75, 0, 39), (75, 1, 57), (75, 2, 61)] : zW)) rfl rfl rfl rfl rfl rfl rfl (Zu.imp (zp_121 hd (Or.inr rfl)) (fun vq sq hq => ?_))
  obtain ⟨rfl, hq⟩ := hq
  rw [hq]
  change Zn _ _ _ _ _ _ _ _ _ _ _ [] _ _
  refine zn_c [.int 0] (xo_push (.int 0)) rfl rfl ?_
  refine zn_st [.ref 83, .ref 39, .int 0, .null, .null, .null, .null] rfl rfl rfl ?_
  exact ml_134_7_39 hd  h
theorem zq_134_39 {d : Nat}  {s : zS} {Q : Option Value → zS → Prop} (h : v_134_0 (fun j => Zt (d + 8) (wd 39 j) j) 39  s Q) : Zu (d + 9) [(83, 1), (83, 2)] ([(75, 0, 39), (75, 1, 57), (75, 2, 61)] : zW) ([(83, 2, 40), (83, 1, 39), (75, 0, 39), (75, 1, 57), (75, 2, 61)] : zW) 134 [.ref 83, .ref 39] s Q := zu_of (E := xE_134) (L := xL_10) (ml := 5) (ret := none) rfl rfl rfl (m_134_0_39 rfl h)
theorem zc_134 {d P : Nat} (hP : P = 3 ∨ P = 39)  {s : zS} {Q : Option Value → zS → Prop} (h : v_134_0 (fun j => Zt (d + 8) (wd P j) j) P  s Q) : Zu (d + 9) [(83, 1), (83, 2)] [(75, 0, P), (75, 1, P + 18), (75, 2, P + 22)] [(83, 2, P + 1), (83, 1, P), (75, 0, P), (75, 1, P + 18), (75, 2, P + 22)] 134 [.ref 83, .ref P] s Q := by
  rcases hP with rfl | rfl
  · exact zq_134_3 h
  · exact zq_134_39 h
/-! FeatherBench$Told.findHoldingItself -/
def v_136_67 (T : Nat → List Value → zS → (Option Value → zS → Prop) → Prop) (P : Nat)  (a2 : Int32) (s : zS) (Q : Option Value → zS → Prop) : Prop :=
  Q none s
def v_136_65 (T : Nat → List Value → zS → (Option Value → zS → Prop) → Prop) (P : Nat) (R7 : Int32 → zS → Prop) (a2 : Int32) (a3 : Int32) (a4 : Int32) (s : zS) (Q : Option Value → zS → Prop) : Prop :=
  ∀ x1 : Int32, (-2147483648 ≤ a2.toInt + 1 ∧ a2.toInt + 1 ≤ 2147483647 → x1.toInt = a2.toInt + 1) → R7 x1 s
def v_136_44 (T : Nat → List Value → zS → (Option Value → zS → Prop) → Prop) (P : Nat) (R7 : Int32 → zS → Prop) (R22 : Int32 → Int32 → Int32 → zS → Prop) (R27 : Int32 → Int32 → Int32 → Int32 → zS → Prop) (a2 : Int32) (a3 : Int32) (a4 : Int32) (a5 : Int32) (t0 : Int32) (t1 : Int32) (s : zS) (Q : Option Value → zS → Prop) : Prop :=
  ∀ x1 : Int32, (-2147483648 ≤ a5.toInt + 1 ∧ a5.toInt + 1 ≤ 2147483647 → x1.toInt = a5.toInt + 1) → R27 a2 (t0 ||| t1) a4 x1 s
def v_136_27 (T : Nat → List Value → zS → (Option Value → zS → Prop) → Prop) (P : Nat) (R7 : Int32 → zS → Prop) (R22 : Int32 → Int32 → Int32 → zS → Prop) (R27 : Int32 → Int32 → Int32 → Int32 → zS → Prop) (a2 : Int32) (a3 : Int32) (a4 : Int32) (a5 : Int32) (s : zS) (Q : Option Value → zS → Prop) : Prop :=
  ((s.1 (P + 24) 2 / 6).toInt ≤ a5.toInt → ∀ x1 : Int32, (-2147483648 ≤ a4.toInt + 1 ∧ a4.toInt + 1 ≤ 2147483647 → x1.toInt = a4.toInt + 1) → R22 a2 a3 x1 s) ∧ (¬ ((s.1 (P + 24) 2 / 6).toInt ≤ a5.toInt) → (((a3 >>> (a5 &&& 31)) &&& (1 : Int32)).toInt = 0 → v_136_44 T P R7 R22 R27 a2 a3 a4 a5 a3 0 s Q) ∧ (¬ (((a3 >>> (a5 &&& 31)) &&& (1 : Int32)).toInt = 0) → T 137 [.ref 83, .int a5] s (fun v2 s3 => ∃ x4, v2 = some (.int x4) ∧ (v_136_44 T P R7 R22 R27 a2 a3 a4 a5 a3 x4 s3 Q))))
def vl_136_27 (T : Nat → List Value → zS → (Option Value → zS → Prop) → Prop) (P : Nat) (R7 : Int32 → zS → Prop) (R22 : Int32 → Int32 → Int32 → zS → Prop) (a2 : Int32) (a3 : Int32) (a4 : Int32) (a5 : Int32) (s : zS) (Q : Option Value → zS → Prop) : Prop :=
  ∃ (I : Int32 → Int32 → Int32 → Int32 → zS → Prop) (μ : Int32 → Int32 → Int32 → Int32 → zS → Nat), I a2 a3 a4 a5 s ∧ ∀ (a2 : Int32) (a3 : Int32) (a4 : Int32) (a5 : Int32) (s : zS), I a2 a3 a4 a5 s → v_136_27 T P R7 R22 (fun a2' a3' a4' a5' s' => I a2' a3' a4' a5' s' ∧ μ a2' a3' a4' a5' s' < μ a2 a3 a4 a5 s) a2 a3 a4 a5 s Q
def v_136_22 (T : Nat → List Value → zS → (Option Value → zS → Prop) → Prop) (P : Nat) (R7 : Int32 → zS → Prop) (R22 : Int32 → Int32 → Int32 → zS → Prop) (a2 : Int32) (a3 : Int32) (a4 : Int32) (s : zS) (Q : Option Value → zS → Prop) : Prop :=
  (24 ≤ a4.toInt → (((a3 >>> (a2 &&& 31)) &&& (1 : Int32)).toInt = 0 → v_136_65 T P R7 a2 a3 a4 s Q) ∧ (¬ (((a3 >>> (a2 &&& 31)) &&& (1 : Int32)).toInt = 0) → T 38 [.ref P, .int 8, .int (zg s (P + 24) (a2 * 6 + 0))] s (fun v2 s3 => v2 = none ∧ (v_136_65 T P R7 a2 a3 a4 s3 Q)))) ∧ (¬ (24 ≤ a4.toInt) → vl_136_27 T P R7 R22 a2 a3 a4 0 s Q)
def vl_136_22 (T : Nat → List Value → zS → (Option Value → zS → Prop) → Prop) (P : Nat) (R7 : Int32 → zS → Prop) (a2 : Int32) (a3 : Int32) (a4 : Int32) (s : zS) (Q : Option Value → zS → Prop) : Prop :=
  ∃ (I : Int32 → Int32 → Int32 → zS → Prop) (μ : Int32 → Int32 → Int32 → zS → Nat), I a2 a3 a4 s ∧ ∀ (a2 : Int32) (a3 : Int32) (a4 : Int32) (s : zS), I a2 a3 a4 s → v_136_22 T P R7 (fun a2' a3' a4' s' => I a2' a3' a4' s' ∧ μ a2' a3' a4' s' < μ a2 a3 a4 s) a2 a3 a4 s Q
def v_136_7 (T : Nat → List Value → zS → (Option Value → zS → Prop) → Prop) (P : Nat) (R7 : Int32 → zS → Prop) (a2 : Int32) (s : zS) (Q : Option Value → zS → Prop) : Prop :=
  ((s.1 (P + 24) 2 / 6).toInt ≤ a2.toInt → v_136_67 T P  a2 s Q) ∧ (¬ ((s.1 (P + 24) 2 / 6).toInt ≤ a2.toInt) → (¬ ((s.1 P 14).toInt = 0) → v_136_67 T P  a2 s Q) ∧ ((s.1 P 14).toInt = 0 → T 137 [.ref 83, .int a2] s (fun v1 s2 => ∃ x3, v1 = some (.int x3) ∧ (vl_136_22 T P R7 a2 x3 0 s2 Q))))
def vl_136_7 (T : Nat → List Value → zS → (Option Value → zS → Prop) → Prop) (P : Nat)  (a2 : Int32) (s : zS) (Q : Option Value → zS → Prop) : Prop :=
  ∃ (I : Int32 → zS → Prop) (μ : Int32 → zS → Nat), I a2 s ∧ ∀ (a2 : Int32) (s : zS), I a2 s → v_136_7 T P (fun a2' s' => I a2' s' ∧ μ a2' s' < μ a2 s) a2 s Q
def v_136_0 (T : Nat → List Value → zS → (Option Value → zS → Prop) → Prop) (P : Nat)   (s : zS) (Q : Option Value → zS → Prop) : Prop :=
  vl_136_7 T P  0 s Q
set_option maxRecDepth 20000 in
theorem m_136_67_3 {d d0 : Nat} (hd : d = d0 + 8)  {a2 : Int32} {s : zS} {Q : Option Value → zS → Prop}  (h : v_136_67 (fun j => Zt d (wd 3 j) j) 3  a2 s Q) : Zn d [(83, 1), (83, 2)] [(3, 98)] ([(83, 2, 4), (83, 1, 3), (75, 0, 3), (75, 1, 21), (75, 2, 25)] : zW) ([(83, 2, 4), (83, 1, 3), (75, 0, 3), (75, 1, 21), (75, 2, 25)] : zW) xL_10 6 (none) xE_136 (xE_136.drop 67) [.ref 83, .ref 3, .int a2, .null, .null, .null, .null, .null] [] s Q := by
  unfold v_136_67 at h
  exact zn_ret0 rfl h
set_option maxRecDepth 20000 in
theorem m_136_65_3 {d d0 : Nat} (hd : d = d0 + 8) {R7 : Int32 → zS → Prop} {a2 : Int32} {a3 : Int32} {a4 : Int32} {s : zS} {Q : Option Value → zS → Prop} (r7 : ∀ a2 s, R7 a2 s → Zn d [(83, 1), (83, 2)] [(3, 98)] ([(83, 2, 4), (83, 1, 3), (75, 0, 3), (75, 1, 21), (75, 2, 25)] : zW) ([(83, 2, 4), (83, 1, 3), (75, 0, 3), (75, 1, 21), (75, 2, 25)] : zW) xL_10 6 (none) xE_136 (xE_136.drop 7) [.ref 83, .ref 3, .int a2, .null, .null, .null, .null, .null] [] s Q) (h : v_136_65 (fun j => Zt d (wd 3 j) j) 3 R7 a2 a3 a4 s Q) : Zn d [(83, 1), (83, 2)] [(3, 98)] ([(83, 2, 4), (83, 1, 3), (75, 0, 3), (75, 1, 21), (75, 2, 25)] : zW) ([(83, 2, 4), (83, 1, 3), (75, 0, 3), (75, 1, 21), (75, 2, 25)] : zW) xL_10 6 (none) xE_136 (xE_136.drop 65) [.ref 83, .ref 3, .int a2, .int a3, .int a4, .null, .null, .null] [] s Q := by
  unfold v_136_65 at h
  replace h := h _ (i_add (x := a2) (y := 1) rfl (show (1 : Int32).toInt = 1 by decide))
  refine zn_inc [.ref 83, .ref 3, .int (a2 + 1), .int a3, .int a4, .null, .null, .null] rfl rfl rfl rfl ?_
  refine zn_go rfl ?_
  refine zn_fg 3 ?_
  refine zn_fg 4 ?_
  exact r7 (a2 + 1) s h
set_option maxRecDepth 20000 in
theorem m_136_44_3 {d d0 : Nat} (hd : d = d0 + 8) {R7 : Int32 → zS → Prop} {R22 : Int32 → Int32 → Int32 → zS → Prop} {R27 : Int32 → Int32 → Int32 → Int32 → zS → Prop} {a2 : Int32} {a3 : Int32} {a4 : Int32} {a5 : Int32} {t0 : Int32} {t1 : Int32} {s : zS} {Q : Option Value → zS → Prop} (r7 : ∀ a2 s, R7 a2 s → Zn d [(83, 1), (83, 2)] [(3, 98)] ([(83, 2, 4), (83, 1, 3), (75, 0, 3), (75, 1, 21), (75, 2, 25)] : zW) ([(83, 2, 4), (83, 1, 3), (75, 0, 3), (75, 1, 21), (75, 2, 25)] : zW) xL_10 6 (none) xE_136 (xE_136.drop 7) [.ref 83, .ref 3, .int a2, .null, .null, .null, .null, .null] [] s Q) (r22 : ∀ a2 a3 a4 s, R22 a2 a3 a4 s → Zn d [(83, 1), (83, 2)] [(3, 98)] ([(83, 2, 4), (83, 1, 3), (75, 0, 3), (75, 1, 21), (75, 2, 25)] : zW) ([(83, 2, 4), (83, 1, 3), (75, 0, 3), (75, 1, 21), (75, 2, 25)] : zW) xL_10 6 (none) xE_136 (xE_136.drop 22) [.ref 83, .ref 3, .int a2, .int a3, .int a4, .null, .null, .null] [] s Q) (r27 : ∀ a2 a3 a4 a5 s, R27 a2 a3 a4 a5 s → Zn d [(83, 1), (83, 2)] [(3, 98)] ([(83, 2, 4), (83, 1, 3), (75, 0, 3), (75, 1, 21), (75, 2, 25)] : zW) ([(83, 2, 4), (83, 1, 3), (75, 0, 3), (75, 1, 21), (75, 2, 25)] : zW) xL_10 6 (none) xE_136 (xE_136.drop 27) [.ref 83, .ref 3, .int a2, .int a3, .int a4, .int a5, .null, .null] [] s Q) (h : v_136_44 (fun j => Zt d (wd 3 j) j) 3 R7 R22 R27 a2 a3 a4 a5 t0 t1 s Q) : Zn d [(83, 1), (83, 2)] [(3, 98)] ([(83, 2, 4), (83, 1, 3), (75, 0, 3), (75, 1, 21), (75, 2, 25)] : zW) ([(83, 2, 4), (83, 1, 3), (75, 0, 3), (75, 1, 21), (75, 2, 25)] : zW) xL_10 6 (none) xE_136 (xE_136.drop 44) [.ref 83, .ref 3, .int a2, .int a3, .int a4, .int a5, .null, .null] [.int t1, .int t0] s Q := by
  unfold v_136_44 at h
  refine zn_c [.int (t0 ||| t1)] xo_ior rfl rfl ?_
  refine zn_st [.ref 83, .ref 3, .int a2, .int (t0 ||| t1), .int a4, .int a5, .null, .null] rfl rfl rfl ?_
  replace h := h _ (i_add (x := a5) (y := 1) rfl (show (1 : Int32).toInt = 1 by decide))
  refine zn_inc [.ref 83, .ref 3, .int a2, .int (t0 ||| t1), .int a4, .int (a5 + 1), .null, .null] rfl rfl rfl rfl ?_
  refine zn_go rfl ?_
  exact r27 a2 (t0 ||| t1) a4 (a5 + 1) s h
set_option maxRecDepth 20000 in
theorem m_136_27_3 {d d0 : Nat} (hd : d = d0 + 8) {R7 : Int32 → zS → Prop} {R22 : Int32 → Int32 → Int32 → zS → Prop} {R27 : Int32 → Int32 → Int32 → Int32 → zS → Prop} {a2 : Int32} {a3 : Int32} {a4 : Int32} {a5 : Int32} {s : zS} {Q : Option Value → zS → Prop} (r7 : ∀ a2 s, R7 a2 s → Zn d [(83, 1), (83, 2)] [(3, 98)] ([(83, 2, 4), (83, 1, 3), (75, 0, 3), (75, 1, 21), (75, 2, 25)] : zW) ([(83, 2, 4), (83, 1, 3), (75, 0, 3), (75, 1, 21), (75, 2, 25)] : zW) xL_10 6 (none) xE_136 (xE_136.drop 7) [.ref 83, .ref 3, .int a2, .null, .null, .null, .null, .null] [] s Q) (r22 : ∀ a2 a3 a4 s, R22 a2 a3 a4 s → Zn d [(83, 1), (83, 2)] [(3, 98)] ([(83, 2, 4), (83, 1, 3), (75, 0, 3), (75, 1, 21), (75, 2, 25)] : zW) ([(83, 2, 4), (83, 1, 3), (75, 0, 3), (75, 1, 21), (75, 2, 25)] : zW) xL_10 6 (none) xE_136 (xE_136.drop 22) [.ref 83, .ref 3, .int a2, .int a3, .int a4, .null, .null, .null] [] s Q) (r27 : ∀ a2 a3 a4 a5 s, R27 a2 a3 a4 a5 s → Zn d [(83, 1), (83, 2)] [(3, 98)] ([(83, 2, 4), (83, 1, 3), (75, 0, 3), (75, 1, 21), (75, 2, 25)] : zW) ([(83, 2, 4), (83, 1, 3), (75, 0, 3), (75, 1, 21), (75, 2, 25)] : zW) xL_10 6 (none) xE_136 (xE_136.drop 27) [.ref 83, .ref 3, .int a2, .int a3, .int a4, .int a5, .null, .null] [] s Q) (h : v_136_27 (fun j => Zt d (wd 3 j) j) 3 R7 R22 R27 a2 a3 a4 a5 s Q) : Zn d [(83, 1), (83, 2)] [(3, 98)] ([(83, 2, 4), (83, 1, 3), (75, 0, 3), (75, 1, 21), (75, 2, 25)] : zW) ([(83, 2, 4), (83, 1, 3), (75, 0, 3), (75, 1, 21), (75, 2, 25)] : zW) xL_10 6 (none) xE_136 (xE_136.drop 27) [.ref 83, .ref 3, .int a2, .int a3, .int a4, .int a5, .null, .null] [] s Q := by
  unfold v_136_27 at h
  refine zn_ld rfl rfl rfl ?_
  refine zn_ld rfl rfl rfl ?_
  refine zn_get (v := .ref 3) rfl (zv_C (a := 83) (n := 1) rfl rfl rfl) ?_
  refine zn_zt [.ref 3] [.int a5] (c := []) rfl rfl rfl rfl rfl (Zt.imp (zp_44 hd (Or.inl rfl)) (fun vq sq hq => ?_))
  obtain ⟨rfl, hq⟩ := hq
  rw [hq]
  change Zn _ _ _ _ _ _ _ _ _ _ _ [.int (s.1 27 2 / 6), .int a5] _ _
  refine zn_brP rfl rfl ⟨fun hcn => ?_, fun hcn => ?_⟩
  · replace h := h.1 ((i_le (x := s.1 27 2 / 6) (y := a5) rfl rfl).mp hcn)
    replace h := h _ (i_add (x := a4) (y := 1) rfl (show (1 : Int32).toInt = 1 by decide))
    refine zn_inc [.ref 83, .ref 3, .int a2, .int a3, .int (a4 + 1), .int a5, .null, .null] rfl rfl rfl rfl ?_
    refine zn_go rfl ?_
    refine zn_fg 5 ?_
    exact r22 a2 a3 (a4 + 1) s h
  · replace h := h.2 (fun q => hcn ((i_le (x := s.1 27 2 / 6) (y := a5) rfl rfl).mpr q))
    refine zn_ld rfl rfl rfl ?_
    refine zn_ld rfl rfl rfl ?_
    refine zn_ld rfl rfl rfl ?_
    refine zn_c [.int (a3 >>> (a5 &&& 31)), .int a3] xo_ishr rfl rfl ?_
    refine zn_c [.int 1, .int (a3 >>> (a5 &&& 31)), .int a3] (xo_push (.int 1)) rfl rfl ?_
    refine zn_c [.int ((a3 >>> (a5 &&& 31)) &&& (1 : Int32)), .int a3] xo_iand rfl rfl ?_
    refine zn_brP rfl rfl ⟨fun hcn => ?_, fun hcn => ?_⟩
    · replace h := h.1 ((i_eq (x := (a3 >>> (a5 &&& 31)) &&& (1 : Int32)) (y := 0) rfl (show (0 : Int32).toInt = 0 by decide)).mp hcn)
      refine zn_c [.int 0, .int a3] (xo_push (.int 0)) rfl rfl ?_
      exact m_136_44_3 hd r7 r22 r27 h
    · replace h := h.2 (fun q => hcn ((i_eq (x := (a3 >>> (a5 &&& 31)) &&& (1 : Int32)) (y := 0) rfl (show (0 : Int32).toInt = 0 by decide)).mpr q))
      refine zn_ld rfl rfl rfl ?_
      refine zn_ld rfl rfl rfl ?_
      refine zn_zt [.ref 83, .int a5] [.int a3] rfl rfl rfl rfl rfl (Zt.imp h (fun v2 s3 h => ?_))
      obtain ⟨x4, rfl, h⟩ := h
      change Zn _ _ _ _ _ _ _ _ _ _ _ [.int x4, .int a3] _ _
      refine zn_go rfl ?_
      exact m_136_44_3 hd r7 r22 r27 h
theorem ml_136_27_3 {d d0 : Nat} (hd : d = d0 + 8) {R7 : Int32 → zS → Prop} {R22 : Int32 → Int32 → Int32 → zS → Prop} {a2 : Int32} {a3 : Int32} {a4 : Int32} {a5 : Int32} {s : zS} {Q : Option Value → zS → Prop} (r7 : ∀ a2 s, R7 a2 s → Zn d [(83, 1), (83, 2)] [(3, 98)] ([(83, 2, 4), (83, 1, 3), (75, 0, 3), (75, 1, 21), (75, 2, 25)] : zW) ([(83, 2, 4), (83, 1, 3), (75, 0, 3), (75, 1, 21), (75, 2, 25)] : zW) xL_10 6 (none) xE_136 (xE_136.drop 7) [.ref 83, .ref 3, .int a2, .null, .null, .null, .null, .null] [] s Q) (r22 : ∀ a2 a3 a4 s, R22 a2 a3 a4 s → Zn d [(83, 1), (83, 2)] [(3, 98)] ([(83, 2, 4), (83, 1, 3), (75, 0, 3), (75, 1, 21), (75, 2, 25)] : zW) ([(83, 2, 4), (83, 1, 3), (75, 0, 3), (75, 1, 21), (75, 2, 25)] : zW) xL_10 6 (none) xE_136 (xE_136.drop 22) [.ref 83, .ref 3, .int a2, .int a3, .int a4, .null, .null, .null] [] s Q) (h : vl_136_27 (fun j => Zt d (wd 3 j) j) 3 R7 R22 a2 a3 a4 a5 s Q) : Zn d [(83, 1), (83, 2)] [(3, 98)] ([(83, 2, 4), (83, 1, 3), (75, 0, 3), (75, 1, 21), (75, 2, 25)] : zW) ([(83, 2, 4), (83, 1, 3), (75, 0, 3), (75, 1, 21), (75, 2, 25)] : zW) xL_10 6 (none) xE_136 (xE_136.drop 27) [.ref 83, .ref 3, .int a2, .int a3, .int a4, .int a5, .null, .null] [] s Q := by
  obtain ⟨I, μ, h0, h1⟩ := h
  have key : ∀ (n : Nat) (a2 : Int32) (a3 : Int32) (a4 : Int32) (a5 : Int32) (s : zS), μ a2 a3 a4 a5 s = n → I a2 a3 a4 a5 s → Zn d [(83, 1), (83, 2)] [(3, 98)] ([(83, 2, 4), (83, 1, 3), (75, 0, 3), (75, 1, 21), (75, 2, 25)] : zW) ([(83, 2, 4), (83, 1, 3), (75, 0, 3), (75, 1, 21), (75, 2, 25)] : zW) xL_10 6 (none) xE_136 (xE_136.drop 27) [.ref 83, .ref 3, .int a2, .int a3, .int a4, .int a5, .null, .null] [] s Q := by
    intro n
    induction n using Nat.strongRecOn with
    | ind n ih =>
      intro a2 a3 a4 a5 s e hI
      exact m_136_27_3 hd r7 r22 (fun a2' a3' a4' a5' s' q => ih _ (by rw [← e]; exact q.2) a2' a3' a4' a5' s' rfl q.1) (h1 a2 a3 a4 a5 s hI)
  exact key _ a2 a3 a4 a5 s rfl h0
set_option maxRecDepth 20000 in
theorem m_136_22_3 {d d0 : Nat} (hd : d = d0 + 8) {R7 : Int32 → zS → Prop} {R22 : Int32 → Int32 → Int32 → zS → Prop} {a2 : Int32} {a3 : Int32} {a4 : Int32} {s : zS} {Q : Option Value → zS → Prop} (r7 : ∀ a2 s, R7 a2 s → Zn d [(83, 1), (83, 2)] [(3, 98)] ([(83, 2, 4), (83, 1, 3), (75, 0, 3), (75, 1, 21), (75, 2, 25)] : zW) ([(83, 2, 4), (83, 1, 3), (75, 0, 3), (75, 1, 21), (75, 2, 25)] : zW) xL_10 6 (none) xE_136 (xE_136.drop 7) [.ref 83, .ref 3, .int a2, .null, .null, .null, .null, .null] [] s Q) (r22 : ∀ a2 a3 a4 s, R22 a2 a3 a4 s → Zn d [(83, 1), (83, 2)] [(3, 98)] ([(83, 2, 4), (83, 1, 3), (75, 0, 3), (75, 1, 21), (75, 2, 25)] : zW) ([(83, 2, 4), (83, 1, 3), (75, 0, 3), (75, 1, 21), (75, 2, 25)] : zW) xL_10 6 (none) xE_136 (xE_136.drop 22) [.ref 83, .ref 3, .int a2, .int a3, .int a4, .null, .null, .null] [] s Q) (h : v_136_22 (fun j => Zt d (wd 3 j) j) 3 R7 R22 a2 a3 a4 s Q) : Zn d [(83, 1), (83, 2)] [(3, 98)] ([(83, 2, 4), (83, 1, 3), (75, 0, 3), (75, 1, 21), (75, 2, 25)] : zW) ([(83, 2, 4), (83, 1, 3), (75, 0, 3), (75, 1, 21), (75, 2, 25)] : zW) xL_10 6 (none) xE_136 (xE_136.drop 22) [.ref 83, .ref 3, .int a2, .int a3, .int a4, .null, .null, .null] [] s Q := by
  unfold v_136_22 at h
  refine zn_ld rfl rfl rfl ?_
  refine zn_c [.int 24, .int a4] (xo_push (.int 24)) rfl rfl ?_
  refine zn_brP rfl rfl ⟨fun hcn => ?_, fun hcn => ?_⟩
  · replace h := h.1 ((i_le (x := 24) (y := a4) (show (24 : Int32).toInt = 24 by decide) rfl).mp hcn)
    refine zn_ld rfl rfl rfl ?_
    refine zn_ld rfl rfl rfl ?_
    refine zn_c [.int (a3 >>> (a2 &&& 31))] xo_ishr rfl rfl ?_
    refine zn_c [.int 1, .int (a3 >>> (a2 &&& 31))] (xo_push (.int 1)) rfl rfl ?_
    refine zn_c [.int ((a3 >>> (a2 &&& 31)) &&& (1 : Int32))] xo_iand rfl rfl ?_
    refine zn_brP rfl rfl ⟨fun hcn => ?_, fun hcn => ?_⟩
    · replace h := h.1 ((i_eq (x := (a3 >>> (a2 &&& 31)) &&& (1 : Int32)) (y := 0) rfl (show (0 : Int32).toInt = 0 by decide)).mp hcn)
      exact m_136_65_3 hd r7 h
    · replace h := h.2 (fun q => hcn ((i_eq (x := (a3 >>> (a2 &&& 31)) &&& (1 : Int32)) (y := 0) rfl (show (0 : Int32).toInt = 0 by decide)).mpr q))
      refine zn_ld rfl rfl rfl ?_
      refine zn_get (v := .ref 3) rfl (zv_C (a := 83) (n := 1) rfl rfl rfl) ?_
      refine zn_c [.int 8, .ref 3] (xo_push (.int 8)) rfl rfl ?_
      refine zn_ld rfl rfl rfl ?_
      refine zn_get (v := .ref 3) rfl (zv_C (a := 83) (n := 1) rfl rfl rfl) ?_
      refine zn_ld rfl rfl rfl ?_
      refine zn_c [.int 0, .int a2, .ref 3, .int 8, .ref 3] (xo_push (.int 0)) rfl rfl ?_
      refine zn_zt [.ref 3, .int a2, .int 0] [.int 8, .ref 3] (c := []) rfl rfl rfl rfl rfl (Zt.imp (zp_39 hd (Or.inl rfl)) (fun vq sq hq => ?_))
      obtain ⟨rfl, hq⟩ := hq
      rw [hq]
      change Zn _ _ _ _ _ _ _ _ _ _ _ [.int (zg s 27 (a2 * 6 + 0)), .int 8, .ref 3] _ _
      refine zn_zt [.ref 3, .int 8, .int (zg s 27 (a2 * 6 + 0))] [] rfl rfl rfl rfl rfl (Zt.imp h (fun v2 s3 h => ?_))
      obtain ⟨rfl, h⟩ := h
      change Zn _ _ _ _ _ _ _ _ _ _ _ [] _ _
      exact m_136_65_3 hd r7 h
  · replace h := h.2 (fun q => hcn ((i_le (x := 24) (y := a4) (show (24 : Int32).toInt = 24 by decide) rfl).mpr q))
    refine zn_c [.int 0] (xo_push (.int 0)) rfl rfl ?_
    refine zn_st [.ref 83, .ref 3, .int a2, .int a3, .int a4, .int 0, .null, .null] rfl rfl rfl ?_
    exact ml_136_27_3 hd r7 r22 h
theorem ml_136_22_3 {d d0 : Nat} (hd : d = d0 + 8) {R7 : Int32 → zS → Prop} {a2 : Int32} {a3 : Int32} {a4 : Int32} {s : zS} {Q : Option Value → zS → Prop} (r7 : ∀ a2 s, R7 a2 s → Zn d [(83, 1), (83, 2)] [(3, 98)] ([(83, 2, 4), (83, 1, 3), (75, 0, 3), (75, 1, 21), (75, 2, 25)] : zW) ([(83, 2, 4), (83, 1, 3), (75, 0, 3), (75, 1, 21), (75, 2, 25)] : zW) xL_10 6 (none) xE_136 (xE_136.drop 7) [.ref 83, .ref 3, .int a2, .null, .null, .null, .null, .null] [] s Q) (h : vl_136_22 (fun j => Zt d (wd 3 j) j) 3 R7 a2 a3 a4 s Q) : Zn d [(83, 1), (83, 2)] [(3, 98)] ([(83, 2, 4), (83, 1, 3), (75, 0, 3), (75, 1, 21), (75, 2, 25)] : zW) ([(83, 2, 4), (83, 1, 3), (75, 0, 3), (75, 1, 21), (75, 2, 25)] : zW) xL_10 6 (none) xE_136 (xE_136.drop 22) [.ref 83, .ref 3, .int a2, .int a3, .int a4, .null, .null, .null] [] s Q := by
  obtain ⟨I, μ, h0, h1⟩ := h
  have key : ∀ (n : Nat) (a2 : Int32) (a3 : Int32) (a4 : Int32) (s : zS), μ a2 a3 a4 s = n → I a2 a3 a4 s → Zn d [(83, 1), (83, 2)] [(3, 98)] ([(83, 2, 4), (83, 1, 3), (75, 0, 3), (75, 1, 21), (75, 2, 25)] : zW) ([(83, 2, 4), (83, 1, 3), (75, 0, 3), (75, 1, 21), (75, 2, 25)] : zW) xL_10 6 (none) xE_136 (xE_136.drop 22) [.ref 83, .ref 3, .int a2, .int a3, .int a4, .null, .null, .null] [] s Q := by
    intro n
    induction n using Nat.strongRecOn with
    | ind n ih =>
      intro a2 a3 a4 s e hI
      exact m_136_22_3 hd r7 (fun a2' a3' a4' s' q => ih _ (by rw [← e]; exact q.2) a2' a3' a4' s' rfl q.1) (h1 a2 a3 a4 s hI)
  exact key _ a2 a3 a4 s rfl h0
set_option maxRecDepth 20000 in
theorem m_136_7_3 {d d0 : Nat} (hd : d = d0 + 8) {R7 : Int32 → zS → Prop} {a2 : Int32} {s : zS} {Q : Option Value → zS → Prop} (r7 : ∀ a2 s, R7 a2 s → Zn d [(83, 1), (83, 2)] [(3, 98)] ([(83, 2, 4), (83, 1, 3), (75, 0, 3), (75, 1, 21), (75, 2, 25)] : zW) ([(83, 2, 4), (83, 1, 3), (75, 0, 3), (75, 1, 21), (75, 2, 25)] : zW) xL_10 6 (none) xE_136 (xE_136.drop 7) [.ref 83, .ref 3, .int a2, .null, .null, .null, .null, .null] [] s Q) (h : v_136_7 (fun j => Zt d (wd 3 j) j) 3 R7 a2 s Q) : Zn d [(83, 1), (83, 2)] [(3, 98)] ([(83, 2, 4), (83, 1, 3), (75, 0, 3), (75, 1, 21), (75, 2, 25)] : zW) ([(83, 2, 4), (83, 1, 3), (75, 0, 3), (75, 1, 21), (75, 2, 25)] : zW) xL_10 6 (none) xE_136 (xE_136.drop 7) [.ref 83, .ref 3, .int a2, .null, .null, .null, .null, .null] [] s Q := by
  unfold v_136_7 at h
  refine zn_ld rfl rfl rfl ?_
  refine zn_ld rfl rfl rfl ?_
  refine zn_get (v := .ref 3) rfl (zv_C (a := 83) (n := 1) rfl rfl rfl) ?_
  refine zn_zt [.ref 3] [.int a2] (c := []) rfl rfl rfl rfl rfl (Zt.imp (zp_44 hd (Or.inl rfl)) (fun vq sq hq => ?_))
  obtain ⟨rfl, hq⟩ := hq
  rw [hq]
  change Zn _ _ _ _ _ _ _ _ _ _ _ [.int (s.1 27 2 / 6), .int a2] _ _
  refine zn_brP rfl rfl ⟨fun hcn => ?_, fun hcn => ?_⟩
  · replace h := h.1 ((i_le (x := s.1 27 2 / 6) (y := a2) rfl rfl).mp hcn)
    exact m_136_67_3 hd  h
  · replace h := h.2 (fun q => hcn ((i_le (x := s.1 27 2 / 6) (y := a2) rfl rfl).mpr q))
    refine zn_ld rfl rfl rfl ?_
    refine zn_get (v := .ref 3) rfl (zv_C (a := 83) (n := 1) rfl rfl rfl) ?_
    refine zn_get (v := .int (s.1 3 14)) rfl (zv_I (a := 3) rfl rfl) ?_
    refine zn_brN rfl rfl ⟨fun hcn => ?_, fun hcn => ?_⟩
    · replace h := h.1 (fun q => hcn ((i_eq (x := s.1 3 14) (y := 0) rfl (show (0 : Int32).toInt = 0 by decide)).mpr q))
      exact m_136_67_3 hd  h
    · replace h := h.2 ((i_eq (x := s.1 3 14) (y := 0) rfl (show (0 : Int32).toInt = 0 by decide)).mp hcn)
      refine zn_ld rfl rfl rfl ?_
      refine zn_ld rfl rfl rfl ?_
      refine zn_zt [.ref 83, .int a2] [] rfl rfl rfl rfl rfl (Zt.imp h (fun v1 s2 h => ?_))
      obtain ⟨x3, rfl, h⟩ := h
      change Zn _ _ _ _ _ _ _ _ _ _ _ [.int x3] _ _
      refine zn_st [.ref 83, .ref 3, .int a2, .int x3, .null, .null, .null, .null] rfl rfl rfl ?_
      refine zn_c [.int 0] (xo_push (.int 0)) rfl rfl ?_
      refine zn_st [.ref 83, .ref 3, .int a2, .int x3, .int 0, .null, .null, .null] rfl rfl rfl ?_
      exact ml_136_22_3 hd r7 h
theorem ml_136_7_3 {d d0 : Nat} (hd : d = d0 + 8)  {a2 : Int32} {s : zS} {Q : Option Value → zS → Prop}  (h : vl_136_7 (fun j => Zt d (wd 3 j) j) 3  a2 s Q) : Zn d [(83, 1), (83, 2)] [(3, 98)] ([(83, 2, 4), (83, 1, 3), (75, 0, 3), (75, 1, 21), (75, 2, 25)] : zW) ([(83, 2, 4), (83, 1, 3), (75, 0, 3), (75, 1, 21), (75, 2, 25)] : zW) xL_10 6 (none) xE_136 (xE_136.drop 7) [.ref 83, .ref 3, .int a2, .null, .null, .null, .null, .null] [] s Q := by
  obtain ⟨I, μ, h0, h1⟩ := h
  have key : ∀ (n : Nat) (a2 : Int32) (s : zS), μ a2 s = n → I a2 s → Zn d [(83, 1), (83, 2)] [(3, 98)] ([(83, 2, 4), (83, 1, 3), (75, 0, 3), (75, 1, 21), (75, 2, 25)] : zW) ([(83, 2, 4), (83, 1, 3), (75, 0, 3), (75, 1, 21), (75, 2, 25)] : zW) xL_10 6 (none) xE_136 (xE_136.drop 7) [.ref 83, .ref 3, .int a2, .null, .null, .null, .null, .null] [] s Q := by
    intro n
    induction n using Nat.strongRecOn with
    | ind n ih =>
      intro a2 s e hI
      exact m_136_7_3 hd (fun a2' s' q => ih _ (by rw [← e]; exact q.2) a2' s' rfl q.1) (h1 a2 s hI)
  exact key _ a2 s rfl h0
set_option maxRecDepth 20000 in
theorem m_136_0_3 {d d0 : Nat} (hd : d = d0 + 8)   {s : zS} {Q : Option Value → zS → Prop}  (h : v_136_0 (fun j => Zt d (wd 3 j) j) 3   s Q) : Zn d [(83, 1), (83, 2)] [(3, 98)] ([(75, 0, 3), (75, 1, 21), (75, 2, 25)] : zW) ([(83, 2, 4), (83, 1, 3), (75, 0, 3), (75, 1, 21), (75, 2, 25)] : zW) xL_10 6 (none) xE_136 (xE_136.drop 0) [.ref 83, .ref 3, .null, .null, .null, .null, .null, .null] [] s Q := by
  unfold v_136_0 at h
  refine zn_ld rfl rfl rfl ?_
  refine zn_ld rfl rfl rfl ?_
  refine zn_ld rfl rfl rfl ?_
  refine zn_get (v := .ref 4) rfl (zv_R (a := 3) rfl rfl) ?_
  refine zn_zu [.ref 83, .ref 3, .ref 4] [] (c := []) (c' := [(83, 2, 4), (83, 1, 3)]) (w1 := ([(75, 0, 3), (75, 1, 21), (75, 2, 25)] : zW)) rfl rfl rfl rfl rfl rfl rfl (Zu.imp (zp_121 hd (Or.inl rfl)) (fun vq sq hq => ?_))
  obtain ⟨rfl, hq⟩ := hq
  rw [hq]
  change Zn _ _ _ _ _ _ _ _ _ _ _ [] _ _
  refine zn_c [.int 0] (xo_push (.int 0)) rfl rfl ?_
  refine zn_st [.ref 83, .ref 3, .int 0, .null, .null, .null, .null, .null] rfl rfl rfl ?_
  exact ml_136_7_3 hd  h
theorem zq_136_3 {d : Nat}  {s : zS} {Q : Option Value → zS → Prop} (h : v_136_0 (fun j => Zt (d + 8) (wd 3 j) j) 3  s Q) : Zu (d + 9) [(83, 1), (83, 2)] ([(75, 0, 3), (75, 1, 21), (75, 2, 25)] : zW) ([(83, 2, 4), (83, 1, 3), (75, 0, 3), (75, 1, 21), (75, 2, 25)] : zW) 136 [.ref 83, .ref 3] s Q := zu_of (E := xE_136) (L := xL_10) (ml := 6) (ret := none) rfl rfl rfl (m_136_0_3 rfl h)
set_option maxRecDepth 20000 in
theorem m_136_67_39 {d d0 : Nat} (hd : d = d0 + 8)  {a2 : Int32} {s : zS} {Q : Option Value → zS → Prop}  (h : v_136_67 (fun j => Zt d (wd 39 j) j) 39  a2 s Q) : Zn d [(83, 1), (83, 2)] [(39, 98)] ([(83, 2, 40), (83, 1, 39), (75, 0, 39), (75, 1, 57), (75, 2, 61)] : zW) ([(83, 2, 40), (83, 1, 39), (75, 0, 39), (75, 1, 57), (75, 2, 61)] : zW) xL_10 6 (none) xE_136 (xE_136.drop 67) [.ref 83, .ref 39, .int a2, .null, .null, .null, .null, .null] [] s Q := by
  unfold v_136_67 at h
  exact zn_ret0 rfl h
set_option maxRecDepth 20000 in
theorem m_136_65_39 {d d0 : Nat} (hd : d = d0 + 8) {R7 : Int32 → zS → Prop} {a2 : Int32} {a3 : Int32} {a4 : Int32} {s : zS} {Q : Option Value → zS → Prop} (r7 : ∀ a2 s, R7 a2 s → Zn d [(83, 1), (83, 2)] [(39, 98)] ([(83, 2, 40), (83, 1, 39), (75, 0, 39), (75, 1, 57), (75, 2, 61)] : zW) ([(83, 2, 40), (83, 1, 39), (75, 0, 39), (75, 1, 57), (75, 2, 61)] : zW) xL_10 6 (none) xE_136 (xE_136.drop 7) [.ref 83, .ref 39, .int a2, .null, .null, .null, .null, .null] [] s Q) (h : v_136_65 (fun j => Zt d (wd 39 j) j) 39 R7 a2 a3 a4 s Q) : Zn d [(83, 1), (83, 2)] [(39, 98)] ([(83, 2, 40), (83, 1, 39), (75, 0, 39), (75, 1, 57), (75, 2, 61)] : zW) ([(83, 2, 40), (83, 1, 39), (75, 0, 39), (75, 1, 57), (75, 2, 61)] : zW) xL_10 6 (none) xE_136 (xE_136.drop 65) [.ref 83, .ref 39, .int a2, .int a3, .int a4, .null, .null, .null] [] s Q := by
  unfold v_136_65 at h
  replace h := h _ (i_add (x := a2) (y := 1) rfl (show (1 : Int32).toInt = 1 by decide))
  refine zn_inc [.ref 83, .ref 39, .int (a2 + 1), .int a3, .int a4, .null, .null, .null] rfl rfl rfl rfl ?_
  refine zn_go rfl ?_
  refine zn_fg 3 ?_
  refine zn_fg 4 ?_
  exact r7 (a2 + 1) s h
set_option maxRecDepth 20000 in
theorem m_136_44_39 {d d0 : Nat} (hd : d = d0 + 8) {R7 : Int32 → zS → Prop} {R22 : Int32 → Int32 → Int32 → zS → Prop} {R27 : Int32 → Int32 → Int32 → Int32 → zS → Prop} {a2 : Int32} {a3 : Int32} {a4 : Int32} {a5 : Int32} {t0 : Int32} {t1 : Int32} {s : zS} {Q : Option Value → zS → Prop} (r7 : ∀ a2 s, R7 a2 s → Zn d [(83, 1), (83, 2)] [(39, 98)] ([(83, 2, 40), (83, 1, 39), (75, 0, 39), (75, 1, 57), (75, 2, 61)] : zW) ([(83, 2, 40), (83, 1, 39), (75, 0, 39), (75, 1, 57), (75, 2, 61)] : zW) xL_10 6 (none) xE_136 (xE_136.drop 7) [.ref 83, .ref 39, .int a2, .null, .null, .null, .null, .null] [] s Q) (r22 : ∀ a2 a3 a4 s, R22 a2 a3 a4 s → Zn d [(83, 1), (83, 2)] [(39, 98)] ([(83, 2, 40), (83, 1, 39), (75, 0, 39), (75, 1, 57), (75, 2, 61)] : zW) ([(83, 2, 40), (83, 1, 39), (75, 0, 39), (75, 1, 57), (75, 2, 61)] : zW) xL_10 6 (none) xE_136 (xE_136.drop 22) [.ref 83, .ref 39, .int a2, .int a3, .int a4, .null, .null, .null] [] s Q) (r27 : ∀ a2 a3 a4 a5 s, R27 a2 a3 a4 a5 s → Zn d [(83, 1), (83, 2)] [(39, 98)] ([(83, 2, 40), (83, 1, 39), (75, 0, 39), (75, 1, 57), (75, 2, 61)] : zW) ([(83, 2, 40), (83, 1, 39), (75, 0, 39), (75, 1, 57), (75, 2, 61)] : zW) xL_10 6 (none) xE_136 (xE_136.drop 27) [.ref 83, .ref 39, .int a2, .int a3, .int a4, .int a5, .null, .null] [] s Q) (h : v_136_44 (fun j => Zt d (wd 39 j) j) 39 R7 R22 R27 a2 a3 a4 a5 t0 t1 s Q) : Zn d [(83, 1), (83, 2)] [(39, 98)] ([(83, 2, 40), (83, 1, 39), (75, 0, 39), (75, 1, 57), (75, 2, 61)] : zW) ([(83, 2, 40), (83, 1, 39), (75, 0, 39), (75, 1, 57), (75, 2, 61)] : zW) xL_10 6 (none) xE_136 (xE_136.drop 44) [.ref 83, .ref 39, .int a2, .int a3, .int a4, .int a5, .null, .null] [.int t1, .int t0] s Q := by
  unfold v_136_44 at h
  refine zn_c [.int (t0 ||| t1)] xo_ior rfl rfl ?_
  refine zn_st [.ref 83, .ref 39, .int a2, .int (t0 ||| t1), .int a4, .int a5, .null, .null] rfl rfl rfl ?_
  replace h := h _ (i_add (x := a5) (y := 1) rfl (show (1 : Int32).toInt = 1 by decide))
  refine zn_inc [.ref 83, .ref 39, .int a2, .int (t0 ||| t1), .int a4, .int (a5 + 1), .null, .null] rfl rfl rfl rfl ?_
  refine zn_go rfl ?_
  exact r27 a2 (t0 ||| t1) a4 (a5 + 1) s h
set_option maxRecDepth 20000 in
theorem m_136_27_39 {d d0 : Nat} (hd : d = d0 + 8) {R7 : Int32 → zS → Prop} {R22 : Int32 → Int32 → Int32 → zS → Prop} {R27 : Int32 → Int32 → Int32 → Int32 → zS → Prop} {a2 : Int32} {a3 : Int32} {a4 : Int32} {a5 : Int32} {s : zS} {Q : Option Value → zS → Prop} (r7 : ∀ a2 s, R7 a2 s → Zn d [(83, 1), (83, 2)] [(39, 98)] ([(83, 2, 40), (83, 1, 39), (75, 0, 39), (75, 1, 57), (75, 2, 61)] : zW) ([(83, 2, 40), (83, 1, 39), (75, 0, 39), (75, 1, 57), (75, 2, 61)] : zW) xL_10 6 (none) xE_136 (xE_136.drop 7) [.ref 83, .ref 39, .int a2, .null, .null, .null, .null, .null] [] s Q) (r22 : ∀ a2 a3 a4 s, R22 a2 a3 a4 s → Zn d [(83, 1), (83, 2)] [(39, 98)] ([(83, 2, 40), (83, 1, 39), (75, 0, 39), (75, 1, 57), (75, 2, 61)] : zW) ([(83, 2, 40), (83, 1, 39), (75, 0, 39), (75, 1, 57), (75, 2, 61)] : zW) xL_10 6 (none) xE_136 (xE_136.drop 22) [.ref 83, .ref 39, .int a2, .int a3, .int a4, .null, .null, .null] [] s Q) (r27 : ∀ a2 a3 a4 a5 s, R27 a2 a3 a4 a5 s → Zn d [(83, 1), (83, 2)] [(39, 98)] ([(83, 2, 40), (83, 1, 39), (75, 0, 39), (75, 1, 57), (75, 2, 61)] : zW) ([(83, 2, 40), (83, 1, 39), (75, 0, 39), (75, 1, 57), (75, 2, 61)] : zW) xL_10 6 (none) xE_136 (xE_136.drop 27) [.ref 83, .ref 39, .int a2, .int a3, .int a4, .int a5, .null, .null] [] s Q) (h : v_136_27 (fun j => Zt d (wd 39 j) j) 39 R7 R22 R27 a2 a3 a4 a5 s Q) : Zn d [(83, 1), (83, 2)] [(39, 98)] ([(83, 2, 40), (83, 1, 39), (75, 0, 39), (75, 1, 57), (75, 2, 61)] : zW) ([(83, 2, 40), (83, 1, 39), (75, 0, 39), (75, 1, 57), (75, 2, 61)] : zW) xL_10 6 (none) xE_136 (xE_136.drop 27) [.ref 83, .ref 39, .int a2, .int a3, .int a4, .int a5, .null, .null] [] s Q := by
  unfold v_136_27 at h
  refine zn_ld rfl rfl rfl ?_
  refine zn_ld rfl rfl rfl ?_
  refine zn_get (v := .ref 39) rfl (zv_C (a := 83) (n := 1) rfl rfl rfl) ?_
  refine zn_zt [.ref 39] [.int a5] (c := []) rfl rfl rfl rfl rfl (Zt.imp (zp_44 hd (Or.inr rfl)) (fun vq sq hq => ?_))
  obtain ⟨rfl, hq⟩ := hq
  rw [hq]
  change Zn _ _ _ _ _ _ _ _ _ _ _ [.int (s.1 63 2 / 6), .int a5] _ _
  refine zn_brP rfl rfl ⟨fun hcn => ?_, fun hcn => ?_⟩
  · replace h := h.1 ((i_le (x := s.1 63 2 / 6) (y := a5) rfl rfl).mp hcn)
    replace h := h _ (i_add (x := a4) (y := 1) rfl (show (1 : Int32).toInt = 1 by decide))
    refine zn_inc [.ref 83, .ref 39, .int a2, .int a3, .int (a4 + 1), .int a5, .null, .null] rfl rfl rfl rfl ?_
    refine zn_go rfl ?_
    refine zn_fg 5 ?_
    exact r22 a2 a3 (a4 + 1) s h
  · replace h := h.2 (fun q => hcn ((i_le (x := s.1 63 2 / 6) (y := a5) rfl rfl).mpr q))
    refine zn_ld rfl rfl rfl ?_
    refine zn_ld rfl rfl rfl ?_
    refine zn_ld rfl rfl rfl ?_
    refine zn_c [.int (a3 >>> (a5 &&& 31)), .int a3] xo_ishr rfl rfl ?_
    refine zn_c [.int 1, .int (a3 >>> (a5 &&& 31)), .int a3] (xo_push (.int 1)) rfl rfl ?_
    refine zn_c [.int ((a3 >>> (a5 &&& 31)) &&& (1 : Int32)), .int a3] xo_iand rfl rfl ?_
    refine zn_brP rfl rfl ⟨fun hcn => ?_, fun hcn => ?_⟩
    · replace h := h.1 ((i_eq (x := (a3 >>> (a5 &&& 31)) &&& (1 : Int32)) (y := 0) rfl (show (0 : Int32).toInt = 0 by decide)).mp hcn)
      refine zn_c [.int 0, .int a3] (xo_push (.int 0)) rfl rfl ?_
      exact m_136_44_39 hd r7 r22 r27 h
    · replace h := h.2 (fun q => hcn ((i_eq (x := (a3 >>> (a5 &&& 31)) &&& (1 : Int32)) (y := 0) rfl (show (0 : Int32).toInt = 0 by decide)).mpr q))
      refine zn_ld rfl rfl rfl ?_
      refine zn_ld rfl rfl rfl ?_
      refine zn_zt [.ref 83, .int a5] [.int a3] rfl rfl rfl rfl rfl (Zt.imp h (fun v2 s3 h => ?_))
      obtain ⟨x4, rfl, h⟩ := h
      change Zn _ _ _ _ _ _ _ _ _ _ _ [.int x4, .int a3] _ _
      refine zn_go rfl ?_
      exact m_136_44_39 hd r7 r22 r27 h
theorem ml_136_27_39 {d d0 : Nat} (hd : d = d0 + 8) {R7 : Int32 → zS → Prop} {R22 : Int32 → Int32 → Int32 → zS → Prop} {a2 : Int32} {a3 : Int32} {a4 : Int32} {a5 : Int32} {s : zS} {Q : Option Value → zS → Prop} (r7 : ∀ a2 s, R7 a2 s → Zn d [(83, 1), (83, 2)] [(39, 98)] ([(83, 2, 40), (83, 1, 39), (75, 0, 39), (75, 1, 57), (75, 2, 61)] : zW) ([(83, 2, 40), (83, 1, 39), (75, 0, 39), (75, 1, 57), (75, 2, 61)] : zW) xL_10 6 (none) xE_136 (xE_136.drop 7) [.ref 83, .ref 39, .int a2, .null, .null, .null, .null, .null] [] s Q) (r22 : ∀ a2 a3 a4 s, R22 a2 a3 a4 s → Zn d [(83, 1), (83, 2)] [(39, 98)] ([(83, 2, 40), (83, 1, 39), (75, 0, 39), (75, 1, 57), (75, 2, 61)] : zW) ([(83, 2, 40), (83, 1, 39), (75, 0, 39), (75, 1, 57), (75, 2, 61)] : zW) xL_10 6 (none) xE_136 (xE_136.drop 22) [.ref 83, .ref 39, .int a2, .int a3, .int a4, .null, .null, .null] [] s Q) (h : vl_136_27 (fun j => Zt d (wd 39 j) j) 39 R7 R22 a2 a3 a4 a5 s Q) : Zn d [(83, 1), (83, 2)] [(39, 98)] ([(83, 2, 40), (83, 1, 39), (75, 0, 39), (75, 1, 57), (75, 2, 61)] : zW) ([(83, 2, 40), (83, 1, 39), (75, 0, 39), (75, 1, 57), (75, 2, 61)] : zW) xL_10 6 (none) xE_136 (xE_136.drop 27) [.ref 83, .ref 39, .int a2, .int a3, .int a4, .int a5, .null, .null] [] s Q := by
  obtain ⟨I, μ, h0, h1⟩ := h
  have key : ∀ (n : Nat) (a2 : Int32) (a3 : Int32) (a4 : Int32) (a5 : Int32) (s : zS), μ a2 a3 a4 a5 s = n → I a2 a3 a4 a5 s → Zn d [(83, 1), (83, 2)] [(39, 98)] ([(83, 2, 40), (83, 1, 39), (75, 0, 39), (75, 1, 57), (75, 2, 61)] : zW) ([(83, 2, 40), (83, 1, 39), (75, 0, 39), (75, 1, 57), (75, 2, 61)] : zW) xL_10 6 (none) xE_136 (xE_136.drop 27) [.ref 83, .ref 39, .int a2, .int a3, .int a4, .int a5, .null, .null] [] s Q := by
    intro n
    induction n using Nat.strongRecOn with
    | ind n ih =>
      intro a2 a3 a4 a5 s e hI
      exact m_136_27_39 hd r7 r22 (fun a2' a3' a4' a5' s' q => ih _ (by rw [← e]; exact q.2) a2' a3' a4' a5' s' rfl q.1) (h1 a2 a3 a4 a5 s hI)
  exact key _ a2 a3 a4 a5 s rfl h0
set_option maxRecDepth 20000 in
theorem m_136_22_39 {d d0 : Nat} (hd : d = d0 + 8) {R7 : Int32 → zS → Prop} {R22 : Int32 → Int32 → Int32 → zS → Prop} {a2 : Int32} {a3 : Int32} {a4 : Int32} {s : zS} {Q : Option Value → zS → Prop} (r7 : ∀ a2 s, R7 a2 s → Zn d [(83, 1), (83, 2)] [(39, 98)] ([(83, 2, 40), (83, 1, 39), (75, 0, 39), (75, 1, 57), (75, 2, 61)] : zW) ([(83, 2, 40), (83, 1, 39), (75, 0, 39), (75, 1, 57), (75, 2, 61)] : zW) xL_10 6 (none) xE_136 (xE_136.drop 7) [.ref 83, .ref 39, .int a2, .null, .null, .null, .null, .null] [] s Q) (r22 : ∀ a2 a3 a4 s, R22 a2 a3 a4 s → Zn d [(83, 1), (83, 2)] [(39, 98)] ([(83, 2, 40), (83, 1, 39), (75, 0, 39), (75, 1, 57), (75, 2, 61)] : zW) ([(83, 2, 40), (83, 1, 39), (75, 0, 39), (75, 1, 57), (75, 2, 61)] : zW) xL_10 6 (none) xE_136 (xE_136.drop 22) [.ref 83, .ref 39, .int a2, .int a3, .int a4, .null, .null, .null] [] s Q) (h : v_136_22 (fun j => Zt d (wd 39 j) j) 39 R7 R22 a2 a3 a4 s Q) : Zn d [(83, 1), (83, 2)] [(39, 98)] ([(83, 2, 40), (83, 1, 39), (75, 0, 39), (75, 1, 57), (75, 2, 61)] : zW) ([(83, 2, 40), (83, 1, 39), (75, 0, 39), (75, 1, 57), (75, 2, 61)] : zW) xL_10 6 (none) xE_136 (xE_136.drop 22) [.ref 83, .ref 39, .int a2, .int a3, .int a4, .null, .null, .null] [] s Q := by
  unfold v_136_22 at h
  refine zn_ld rfl rfl rfl ?_
  refine zn_c [.int 24, .int a4] (xo_push (.int 24)) rfl rfl ?_
  refine zn_brP rfl rfl ⟨fun hcn => ?_, fun hcn => ?_⟩
  · replace h := h.1 ((i_le (x := 24) (y := a4) (show (24 : Int32).toInt = 24 by decide) rfl).mp hcn)
    refine zn_ld rfl rfl rfl ?_
    refine zn_ld rfl rfl rfl ?_
    refine zn_c [.int (a3 >>> (a2 &&& 31))] xo_ishr rfl rfl ?_
    refine zn_c [.int 1, .int (a3 >>> (a2 &&& 31))] (xo_push (.int 1)) rfl rfl ?_
    refine zn_c [.int ((a3 >>> (a2 &&& 31)) &&& (1 : Int32))] xo_iand rfl rfl ?_
    refine zn_brP rfl rfl ⟨fun hcn => ?_, fun hcn => ?_⟩
    · replace h := h.1 ((i_eq (x := (a3 >>> (a2 &&& 31)) &&& (1 : Int32)) (y := 0) rfl (show (0 : Int32).toInt = 0 by decide)).mp hcn)
      exact m_136_65_39 hd r7 h
    · replace h := h.2 (fun q => hcn ((i_eq (x := (a3 >>> (a2 &&& 31)) &&& (1 : Int32)) (y := 0) rfl (show (0 : Int32).toInt = 0 by decide)).mpr q))
      refine zn_ld rfl rfl rfl ?_
      refine zn_get (v := .ref 39) rfl (zv_C (a := 83) (n := 1) rfl rfl rfl) ?_
      refine zn_c [.int 8, .ref 39] (xo_push (.int 8)) rfl rfl ?_
      refine zn_ld rfl rfl rfl ?_
      refine zn_get (v := .ref 39) rfl (zv_C (a := 83) (n := 1) rfl rfl rfl) ?_
      refine zn_ld rfl rfl rfl ?_
      refine zn_c [.int 0, .int a2, .ref 39, .int 8, .ref 39] (xo_push (.int 0)) rfl rfl ?_
      refine zn_zt [.ref 39, .int a2, .int 0] [.int 8, .ref 39] (c := []) rfl rfl rfl rfl rfl (Zt.imp (zp_39 hd (Or.inr rfl)) (fun vq sq hq => ?_))
      obtain ⟨rfl, hq⟩ := hq
      rw [hq]
      change Zn _ _ _ _ _ _ _ _ _ _ _ [.int (zg s 63 (a2 * 6 + 0)), .int 8, .ref 39] _ _
      refine zn_zt [.ref 39, .int 8, .int (zg s 63 (a2 * 6 + 0))] [] rfl rfl rfl rfl rfl (Zt.imp h (fun v2 s3 h => ?_))
      obtain ⟨rfl, h⟩ := h
      change Zn _ _ _ _ _ _ _ _ _ _ _ [] _ _
      exact m_136_65_39 hd r7 h
  · replace h := h.2 (fun q => hcn ((i_le (x := 24) (y := a4) (show (24 : Int32).toInt = 24 by decide) rfl).mpr q))
    refine zn_c [.int 0] (xo_push (.int 0)) rfl rfl ?_
    refine zn_st [.ref 83, .ref 39, .int a2, .int a3, .int a4, .int 0, .null, .null] rfl rfl rfl ?_
    exact ml_136_27_39 hd r7 r22 h
theorem ml_136_22_39 {d d0 : Nat} (hd : d = d0 + 8) {R7 : Int32 → zS → Prop} {a2 : Int32} {a3 : Int32} {a4 : Int32} {s : zS} {Q : Option Value → zS → Prop} (r7 : ∀ a2 s, R7 a2 s → Zn d [(83, 1), (83, 2)] [(39, 98)] ([(83, 2, 40), (83, 1, 39), (75, 0, 39), (75, 1, 57), (75, 2, 61)] : zW) ([(83, 2, 40), (83, 1, 39), (75, 0, 39), (75, 1, 57), (75, 2, 61)] : zW) xL_10 6 (none) xE_136 (xE_136.drop 7) [.ref 83, .ref 39, .int a2, .null, .null, .null, .null, .null] [] s Q) (h : vl_136_22 (fun j => Zt d (wd 39 j) j) 39 R7 a2 a3 a4 s Q) : Zn d [(83, 1), (83, 2)] [(39, 98)] ([(83, 2, 40), (83, 1, 39), (75, 0, 39), (75, 1, 57), (75, 2, 61)] : zW) ([(83, 2, 40), (83, 1, 39), (75, 0, 39), (75, 1, 57), (75, 2, 61)] : zW) xL_10 6 (none) xE_136 (xE_136.drop 22) [.ref 83, .ref 39, .int a2, .int a3, .int a4, .null, .null, .null] [] s Q := by
  obtain ⟨I, μ, h0, h1⟩ := h
  have key : ∀ (n : Nat) (a2 : Int32) (a3 : Int32) (a4 : Int32) (s : zS), μ a2 a3 a4 s = n → I a2 a3 a4 s → Zn d [(83, 1), (83, 2)] [(39, 98)] ([(83, 2, 40), (83, 1, 39), (75, 0, 39), (75, 1, 57), (75, 2, 61)] : zW) ([(83, 2, 40), (83, 1, 39), (75, 0, 39), (75, 1, 57), (75, 2, 61)] : zW) xL_10 6 (none) xE_136 (xE_136.drop 22) [.ref 83, .ref 39, .int a2, .int a3, .int a4, .null, .null, .null] [] s Q := by
    intro n
    induction n using Nat.strongRecOn with
    | ind n ih =>
      intro a2 a3 a4 s e hI
      exact m_136_22_39 hd r7 (fun a2' a3' a4' s' q => ih _ (by rw [← e]; exact q.2) a2' a3' a4' s' rfl q.1) (h1 a2 a3 a4 s hI)
  exact key _ a2 a3 a4 s rfl h0
set_option maxRecDepth 20000 in
theorem m_136_7_39 {d d0 : Nat} (hd : d = d0 + 8) {R7 : Int32 → zS → Prop} {a2 : Int32} {s : zS} {Q : Option Value → zS → Prop} (r7 : ∀ a2 s, R7 a2 s → Zn d [(83, 1), (83, 2)] [(39, 98)] ([(83, 2, 40), (83, 1, 39), (75, 0, 39), (75, 1, 57), (75, 2, 61)] : zW) ([(83, 2, 40), (83, 1, 39), (75, 0, 39), (75, 1, 57), (75, 2, 61)] : zW) xL_10 6 (none) xE_136 (xE_136.drop 7) [.ref 83, .ref 39, .int a2, .null, .null, .null, .null, .null] [] s Q) (h : v_136_7 (fun j => Zt d (wd 39 j) j) 39 R7 a2 s Q) : Zn d [(83, 1), (83, 2)] [(39, 98)] ([(83, 2, 40), (83, 1, 39), (75, 0, 39), (75, 1, 57), (75, 2, 61)] : zW) ([(83, 2, 40), (83, 1, 39), (75, 0, 39), (75, 1, 57), (75, 2, 61)] : zW) xL_10 6 (none) xE_136 (xE_136.drop 7) [.ref 83, .ref 39, .int a2, .null, .null, .null, .null, .null] [] s Q := by
  unfold v_136_7 at h
  refine zn_ld rfl rfl rfl ?_
  refine zn_ld rfl rfl rfl ?_
  refine zn_get (v := .ref 39) rfl (zv_C (a := 83) (n := 1) rfl rfl rfl) ?_
  refine zn_zt [.ref 39] [.int a2] (c := []) rfl rfl rfl rfl rfl (Zt.imp (zp_44 hd (Or.inr rfl)) (fun vq sq hq => ?_))
  obtain ⟨rfl, hq⟩ := hq
  rw [hq]
  change Zn _ _ _ _ _ _ _ _ _ _ _ [.int (s.1 63 2 / 6), .int a2] _ _
  refine zn_brP rfl rfl ⟨fun hcn => ?_, fun hcn => ?_⟩
  · replace h := h.1 ((i_le (x := s.1 63 2 / 6) (y := a2) rfl rfl).mp hcn)
    exact m_136_67_39 hd  h
  · replace h := h.2 (fun q => hcn ((i_le (x := s.1 63 2 / 6) (y := a2) rfl rfl).mpr q))
    refine zn_ld rfl rfl rfl ?_
    refine zn_get (v := .ref 39) rfl (zv_C (a := 83) (n := 1) rfl rfl rfl) ?_
    refine zn_get (v := .int (s.1 39 14)) rfl (zv_I (a := 39) rfl rfl) ?_
    refine zn_brN rfl rfl ⟨fun hcn => ?_, fun hcn => ?_⟩
    · replace h := h.1 (fun q => hcn ((i_eq (x := s.1 39 14) (y := 0) rfl (show (0 : Int32).toInt = 0 by decide)).mpr q))
      exact m_136_67_39 hd  h
    · replace h := h.2 ((i_eq (x := s.1 39 14) (y := 0) rfl (show (0 : Int32).toInt = 0 by decide)).mp hcn)
      refine zn_ld rfl rfl rfl ?_
      refine zn_ld rfl rfl rfl ?_
      refine zn_zt [.ref 83, .int a2] [] rfl rfl rfl rfl rfl (Zt.imp h (fun v1 s2 h => ?_))
      obtain ⟨x3, rfl, h⟩ := h
      change Zn _ _ _ _ _ _ _ _ _ _ _ [.int x3] _ _
      refine zn_st [.ref 83, .ref 39, .int a2, .int x3, .null, .null, .null, .null] rfl rfl rfl ?_
      refine zn_c [.int 0] (xo_push (.int 0)) rfl rfl ?_
      refine zn_st [.ref 83, .ref 39, .int a2, .int x3, .int 0, .null, .null, .null] rfl rfl rfl ?_
      exact ml_136_22_39 hd r7 h
theorem ml_136_7_39 {d d0 : Nat} (hd : d = d0 + 8)  {a2 : Int32} {s : zS} {Q : Option Value → zS → Prop}  (h : vl_136_7 (fun j => Zt d (wd 39 j) j) 39  a2 s Q) : Zn d [(83, 1), (83, 2)] [(39, 98)] ([(83, 2, 40), (83, 1, 39), (75, 0, 39), (75, 1, 57), (75, 2, 61)] : zW) ([(83, 2, 40), (83, 1, 39), (75, 0, 39), (75, 1, 57), (75, 2, 61)] : zW) xL_10 6 (none) xE_136 (xE_136.drop 7) [.ref 83, .ref 39, .int a2, .null, .null, .null, .null, .null] [] s Q := by
  obtain ⟨I, μ, h0, h1⟩ := h
  have key : ∀ (n : Nat) (a2 : Int32) (s : zS), μ a2 s = n → I a2 s → Zn d [(83, 1), (83, 2)] [(39, 98)] ([(83, 2, 40), (83, 1, 39), (75, 0, 39), (75, 1, 57), (75, 2, 61)] : zW) ([(83, 2, 40), (83, 1, 39), (75, 0, 39), (75, 1, 57), (75, 2, 61)] : zW) xL_10 6 (none) xE_136 (xE_136.drop 7) [.ref 83, .ref 39, .int a2, .null, .null, .null, .null, .null] [] s Q := by
    intro n
    induction n using Nat.strongRecOn with
    | ind n ih =>
      intro a2 s e hI
      exact m_136_7_39 hd (fun a2' s' q => ih _ (by rw [← e]; exact q.2) a2' s' rfl q.1) (h1 a2 s hI)
  exact key _ a2 s rfl h0
set_option maxRecDepth 20000 in
theorem m_136_0_39 {d d0 : Nat} (hd : d = d0 + 8)   {s : zS} {Q : Option Value → zS → Prop}  (h : v_136_0 (fun j => Zt d (wd 39 j) j) 39   s Q) : Zn d [(83, 1), (83, 2)] [(39, 98)] ([(75, 0, 39), (75, 1, 57), (75, 2, 61)] : zW) ([(83, 2, 40), (83, 1, 39), (75, 0, 39), (75, 1, 57), (75, 2, 61)] : zW) xL_10 6 (none) xE_136 (xE_136.drop 0) [.ref 83, .ref 39, .null, .null, .null, .null, .null, .null] [] s Q := by
  unfold v_136_0 at h
  refine zn_ld rfl rfl rfl ?_
  refine zn_ld rfl rfl rfl ?_
  refine zn_ld rfl rfl rfl ?_
  refine zn_get (v := .ref 40) rfl (zv_R (a := 39) rfl rfl) ?_
  refine zn_zu [.ref 83, .ref 39, .ref 40] [] (c := []) (c' := [(83, 2, 40), (83, 1, 39)]) (w1 := ([(75, 0, 39), (75, 1, 57), (75, 2, 61)] : zW)) rfl rfl rfl rfl rfl rfl rfl (Zu.imp (zp_121 hd (Or.inr rfl)) (fun vq sq hq => ?_))
  obtain ⟨rfl, hq⟩ := hq
  rw [hq]
  change Zn _ _ _ _ _ _ _ _ _ _ _ [] _ _
  refine zn_c [.int 0] (xo_push (.int 0)) rfl rfl ?_
  refine zn_st [.ref 83, .ref 39, .int 0, .null, .null, .null, .null, .null] rfl rfl rfl ?_
  exact ml_136_7_39 hd  h
theorem zq_136_39 {d : Nat}  {s : zS} {Q : Option Value → zS → Prop} (h : v_136_0 (fun j => Zt (d + 8) (wd 39 j) j) 39  s Q) : Zu (d + 9) [(83, 1), (83, 2)] ([(75, 0, 39), (75, 1, 57), (75, 2, 61)] : zW) ([(83, 2, 40), (83, 1, 39), (75, 0, 39), (75, 1, 57), (75, 2, 61)] : zW) 136 [.ref 83, .ref 39] s Q := zu_of (E := xE_136) (L := xL_10) (ml := 6) (ret := none) rfl rfl rfl (m_136_0_39 rfl h)
theorem zc_136 {d P : Nat} (hP : P = 3 ∨ P = 39)  {s : zS} {Q : Option Value → zS → Prop} (h : v_136_0 (fun j => Zt (d + 8) (wd P j) j) P  s Q) : Zu (d + 9) [(83, 1), (83, 2)] [(75, 0, P), (75, 1, P + 18), (75, 2, P + 22)] [(83, 2, P + 1), (83, 1, P), (75, 0, P), (75, 1, P + 18), (75, 2, P + 22)] 136 [.ref 83, .ref P] s Q := by
  rcases hP with rfl | rfl
  · exact zq_136_3 h
  · exact zq_136_39 h
/-! FeatherBench$Bodies.check -/
def v_5_143 (T : Nat → List Value → zS → (Option Value → zS → Prop) → Prop) (P : Nat)  (a2 : Int32) (t1 : Int32) (s : zS) (Q : Option Value → zS → Prop) : Prop :=
  ∀ s1, s1 = zf s P 13 t1 → T 59 [.ref P, .int 0, .int 0, .int 0, .int 0, .int 0, .int 0] s1 (fun v2 s3 => v2 = none ∧ (Q none s3))
def v_5_95 (T : Nat → List Value → zS → (Option Value → zS → Prop) → Prop) (P : Nat)  (a2 : Int32) (s : zS) (Q : Option Value → zS → Prop) : Prop :=
  ((s.1 P 14).toInt = 0 → ∀ s1, s1 = zf s 84 6 (-1) → T 82 [.ref 75, .int (-1), .int (-1), .int (-1)] s1 (fun v2 s3 => v2 = none ∧ (∀ s4, s4 = zf s3 75 3 18 → ∀ s5, s5 = zf s4 84 5 (s4.1 P 11) → ∀ x6 : Int32, (0 ≤ (s5.1 (P + 34) 2).toInt → x6.toInt = (s5.1 (P + 34) 2).toInt / 6) → ∀ s7, s7 = zf s5 P 12 x6 → T 7 [.ref 84, .int 1] s7 (fun v8 s9 => ∃ x10, v8 = some (.int x10) ∧ ((¬ ((s9.1 P 14).toInt = 0) → v_5_143 T P  x10 (-1) s9 Q) ∧ ((s9.1 P 14).toInt = 0 → T 92 [.ref 75, .int x10] s9 (fun v11 s12 => ∃ x13, v11 = some (.int x13) ∧ (v_5_143 T P  x10 x13 s12 Q)))))))) ∧ (¬ ((s.1 P 14).toInt = 0) → Q none s)
def v_5_84 (T : Nat → List Value → zS → (Option Value → zS → Prop) → Prop) (P : Nat) (R22 : Int32 → zS → Prop) (a2 : Int32) (a3 : Int32) (a4 : Int32) (a5 : Int32) (a6 : Int32) (s : zS) (Q : Option Value → zS → Prop) : Prop :=
  T 59 [.ref P, .int 0, .int 0, .int 0, .int 0, .int 0, .int 0] s (fun v1 s2 => v1 = none ∧ (∀ x3 : Int32, (-2147483648 ≤ a2.toInt + 1 ∧ a2.toInt + 1 ≤ 2147483647 → x3.toInt = a2.toInt + 1) → R22 x3 s2))
def v_5_22 (T : Nat → List Value → zS → (Option Value → zS → Prop) → Prop) (P : Nat) (R22 : Int32 → zS → Prop) (a2 : Int32) (s : zS) (Q : Option Value → zS → Prop) : Prop :=
  ((s.1 (P + 26) 2 / 10).toInt ≤ a2.toInt → v_5_95 T P  a2 s Q) ∧ (¬ ((s.1 (P + 26) 2 / 10).toInt ≤ a2.toInt) → (¬ ((s.1 P 14).toInt = 0) → v_5_95 T P  a2 s Q) ∧ ((s.1 P 14).toInt = 0 → T 6 [.ref 84, .int a2] s (fun v1 s2 => v1 = none ∧ (T 7 [.ref 84, .int 1] s2 (fun v3 s4 => ∃ x5, v3 = some (.int x5) ∧ (∀ x8 : Int32, (-2147483648 ≤ (zg s4 (P + 28) ((s4.1 75 6) * 5 + 2)).toInt + (zg s4 (P + 28) ((s4.1 75 6) * 5 + 3)).toInt ∧ (zg s4 (P + 28) ((s4.1 75 6) * 5 + 2)).toInt + (zg s4 (P + 28) ((s4.1 75 6) * 5 + 3)).toInt ≤ 2147483647 → x8.toInt = (zg s4 (P + 28) ((s4.1 75 6) * 5 + 2)).toInt + (zg s4 (P + 28) ((s4.1 75 6) * 5 + 3)).toInt) → ∀ x10 : Int32, (-2147483648 ≤ x8.toInt + (zg s4 (P + 28) ((s4.1 75 6) * 5 + 4)).toInt ∧ x8.toInt + (zg s4 (P + 28) ((s4.1 75 6) * 5 + 4)).toInt ≤ 2147483647 → x10.toInt = x8.toInt + (zg s4 (P + 28) ((s4.1 75 6) * 5 + 4)).toInt) → (¬ ((s4.1 P 14).toInt = 0) → v_5_84 T P R22 a2 (s2.1 84 5) x5 x8 (zg s4 (P + 30) (x10 * 5 + 3)) s4 Q) ∧ ((s4.1 P 14).toInt = 0 → T 88 [.ref 75, .int x5, .int (zg s4 (P + 30) (x10 * 5 + 3))] s4 (fun v12 s13 => ∃ x14, v12 = some (.int x14) ∧ (T 38 [.ref P, .int x14, .int (s2.1 84 5)] s13 (fun v15 s16 => v15 = none ∧ (v_5_84 T P R22 a2 (s2.1 84 5) x5 x8 (zg s4 (P + 30) (x10 * 5 + 3)) s16 Q)))))))))))
def vl_5_22 (T : Nat → List Value → zS → (Option Value → zS → Prop) → Prop) (P : Nat)  (a2 : Int32) (s : zS) (Q : Option Value → zS → Prop) : Prop :=
  ∃ (I : Int32 → zS → Prop) (μ : Int32 → zS → Nat), I a2 s ∧ ∀ (a2 : Int32) (s : zS), I a2 s → v_5_22 T P (fun a2' s' => I a2' s' ∧ μ a2' s' < μ a2 s) a2 s Q
def v_5_0 (T : Nat → List Value → zS → (Option Value → zS → Prop) → Prop) (P : Nat)   (s : zS) (Q : Option Value → zS → Prop) : Prop :=
  vl_5_22 T P  0 s Q
set_option maxRecDepth 20000 in
theorem m_5_143_3 {d d0 : Nat} (hd : d = d0 + 8)  {a2 : Int32} {t1 : Int32} {s : zS} {Q : Option Value → zS → Prop}  (h : v_5_143 (fun j => Zt d (wd 3 j) j) 3  a2 t1 s Q) : Zn d [(84, 2), (84, 3), (84, 4), (83, 1), (83, 2)] [(3, 99), (3, 98)] ([(83, 2, 4), (83, 1, 3), (84, 4, 7), (84, 3, 4), (84, 2, 3), (75, 0, 3), (75, 1, 21), (75, 2, 25)] : zW) ([(83, 2, 4), (83, 1, 3), (84, 4, 7), (84, 3, 4), (84, 2, 3), (75, 0, 3), (75, 1, 21), (75, 2, 25)] : zW) xL_1 7 (none) xE_5 (xE_5.drop 143) [.ref 84, .ref 3, .int a2, .null, .null, .null, .null, .null, .null] [.int t1, .ref 3] s Q := by
  unfold v_5_143 at h
  refine zn_putI (a := 3) rfl rfl rfl rfl ⟨Int32.le_toInt _, Int.le_of_lt_add_one (Int32.toInt_lt _)⟩ rfl rfl rfl ?_
  replace h := h _ rfl
  refine zn_ld rfl rfl rfl ?_
  refine zn_get (v := .ref 3) rfl (zv_C (a := 84) (n := 4) rfl rfl rfl) ?_
  refine zn_c [.int 0, .ref 3] (xo_push (.int 0)) rfl rfl ?_
  refine zn_c [.int 0, .int 0, .ref 3] (xo_push (.int 0)) rfl rfl ?_
  refine zn_c [.int 0, .int 0, .int 0, .ref 3] (xo_push (.int 0)) rfl rfl ?_
  refine zn_c [.int 0, .int 0, .int 0, .int 0, .ref 3] (xo_push (.int 0)) rfl rfl ?_
  refine zn_c [.int 0, .int 0, .int 0, .int 0, .int 0, .ref 3] (xo_push (.int 0)) rfl rfl ?_
  refine zn_c [.int 0, .int 0, .int 0, .int 0, .int 0, .int 0, .ref 3] (xo_push (.int 0)) rfl rfl ?_
  refine zn_zt [.ref 3, .int 0, .int 0, .int 0, .int 0, .int 0, .int 0] [] rfl rfl rfl rfl rfl (Zt.imp h (fun v2 s3 h => ?_))
  obtain ⟨rfl, h⟩ := h
  change Zn _ _ _ _ _ _ _ _ _ _ _ [] _ _
  exact zn_ret0 rfl h
set_option maxRecDepth 20000 in
theorem m_5_95_3 {d d0 : Nat} (hd : d = d0 + 8)  {a2 : Int32} {s : zS} {Q : Option Value → zS → Prop}  (h : v_5_95 (fun j => Zt d (wd 3 j) j) 3  a2 s Q) : Zn d [(84, 2), (84, 3), (84, 4), (83, 1), (83, 2)] [(3, 99), (3, 98)] ([(83, 2, 4), (83, 1, 3), (84, 4, 7), (84, 3, 4), (84, 2, 3), (75, 0, 3), (75, 1, 21), (75, 2, 25)] : zW) ([(83, 2, 4), (83, 1, 3), (84, 4, 7), (84, 3, 4), (84, 2, 3), (75, 0, 3), (75, 1, 21), (75, 2, 25)] : zW) xL_1 7 (none) xE_5 (xE_5.drop 95) [.ref 84, .ref 3, .int a2, .null, .null, .null, .null, .null, .null] [] s Q := by
  unfold v_5_95 at h
  refine zn_ld rfl rfl rfl ?_
  refine zn_get (v := .ref 3) rfl (zv_C (a := 84) (n := 4) rfl rfl rfl) ?_
  refine zn_get (v := .int (s.1 3 14)) rfl (zv_I (a := 3) rfl rfl) ?_
  refine zn_brP rfl rfl ⟨fun hcn => ?_, fun hcn => ?_⟩
  · replace h := h.1 ((i_eq (x := s.1 3 14) (y := 0) rfl (show (0 : Int32).toInt = 0 by decide)).mp hcn)
    refine zn_ld rfl rfl rfl ?_
    refine zn_c [.int (-1), .ref 84] (xo_push (.int (-1))) rfl rfl ?_
    refine zn_putI (a := 84) rfl rfl rfl rfl ⟨Int32.le_toInt _, Int.le_of_lt_add_one (Int32.toInt_lt _)⟩ rfl rfl rfl ?_
    replace h := h _ rfl
    refine zn_ld rfl rfl rfl ?_
    refine zn_get (v := .ref 75) rfl (zv_R (a := 84) rfl rfl) ?_
    refine zn_c [.int (-1), .ref 75] (xo_push (.int (-1))) rfl rfl ?_
    refine zn_c [.int (-1), .int (-1), .ref 75] (xo_push (.int (-1))) rfl rfl ?_
    refine zn_c [.int (-1), .int (-1), .int (-1), .ref 75] (xo_push (.int (-1))) rfl rfl ?_
    refine zn_zt [.ref 75, .int (-1), .int (-1), .int (-1)] [] rfl rfl rfl rfl rfl (Zt.imp h (fun v2 s3 h => ?_))
    obtain ⟨rfl, h⟩ := h
    change Zn _ _ _ _ _ _ _ _ _ _ _ [] _ _
    refine zn_ld rfl rfl rfl ?_
    refine zn_get (v := .ref 75) rfl (zv_R (a := 84) rfl rfl) ?_
    refine zn_c [.int 18, .ref 75] (xo_push (.int 18)) rfl rfl ?_
    refine zn_putI (a := 75) rfl rfl rfl rfl ⟨Int32.le_toInt _, Int.le_of_lt_add_one (Int32.toInt_lt _)⟩ rfl rfl rfl ?_
    replace h := h _ rfl
    refine zn_ld rfl rfl rfl ?_
    refine zn_ld rfl rfl rfl ?_
    refine zn_get (v := .ref 3) rfl (zv_C (a := 84) (n := 4) rfl rfl rfl) ?_
    refine zn_get (v := .int ((zf s3 75 3 18).1 3 11)) rfl (zv_I (a := 3) rfl rfl) ?_
    refine zn_putI (a := 84) rfl rfl rfl rfl ⟨Int32.le_toInt _, Int.le_of_lt_add_one (Int32.toInt_lt _)⟩ rfl rfl rfl ?_
    replace h := h _ rfl
    refine zn_ld rfl rfl rfl ?_
    refine zn_get (v := .ref 3) rfl (zv_C (a := 84) (n := 4) rfl rfl rfl) ?_
    refine zn_ld rfl rfl rfl ?_
    refine zn_get (v := .ref 3) rfl (zv_C (a := 84) (n := 4) rfl rfl rfl) ?_
    refine zn_get (v := .ref 37) rfl (zv_R (a := 3) rfl rfl) ?_
    refine zn_get (v := .int ((zf (zf s3 75 3 18) 84 5 ((zf s3 75 3 18).1 3 11)).1 37 2)) rfl (zv_I (a := 37) rfl rfl) ?_
    refine zn_c [.int 6, .int ((zf (zf s3 75 3 18) 84 5 ((zf s3 75 3 18).1 3 11)).1 37 2), .ref 3] (xo_push (.int 6)) rfl rfl ?_
    replace h := h (((zf (zf s3 75 3 18) 84 5 ((zf s3 75 3 18).1 3 11)).1 37 2) / 6) (i_dv (x := (zf (zf s3 75 3 18) 84 5 ((zf s3 75 3 18).1 3 11)).1 37 2) (y := 6) rfl (show (6 : Int32).toInt = 6 by decide) (by decide))
    refine zn_c [.int (((zf (zf s3 75 3 18) 84 5 ((zf s3 75 3 18).1 3 11)).1 37 2) / 6), .ref 3] xo_idiv rfl (o_idiv (by decide)) ?_
    refine zn_putI (a := 3) rfl rfl rfl rfl ⟨Int32.le_toInt _, Int.le_of_lt_add_one (Int32.toInt_lt _)⟩ rfl rfl rfl ?_
    replace h := h _ rfl
    refine zn_ld rfl rfl rfl ?_
    refine zn_c [.int 1, .ref 84] (xo_push (.int 1)) rfl rfl ?_
    refine zn_zt [.ref 84, .int 1] [] rfl rfl rfl rfl rfl (Zt.imp h (fun v8 s9 h => ?_))
    obtain ⟨x10, rfl, h⟩ := h
    change Zn _ _ _ _ _ _ _ _ _ _ _ [.int x10] _ _
    refine zn_st [.ref 84, .ref 3, .int x10, .null, .null, .null, .null, .null, .null] rfl rfl rfl ?_
    refine zn_ld rfl rfl rfl ?_
    refine zn_get (v := .ref 3) rfl (zv_C (a := 84) (n := 4) rfl rfl rfl) ?_
    refine zn_ld rfl rfl rfl ?_
    refine zn_get (v := .ref 3) rfl (zv_C (a := 84) (n := 4) rfl rfl rfl) ?_
    refine zn_get (v := .int (s9.1 3 14)) rfl (zv_I (a := 3) rfl rfl) ?_
    refine zn_brN rfl rfl ⟨fun hcn => ?_, fun hcn => ?_⟩
    · replace h := h.1 (fun q => hcn ((i_eq (x := s9.1 3 14) (y := 0) rfl (show (0 : Int32).toInt = 0 by decide)).mpr q))
      refine zn_c [.int (-1), .ref 3] (xo_push (.int (-1))) rfl rfl ?_
      exact m_5_143_3 hd  h
    · replace h := h.2 ((i_eq (x := s9.1 3 14) (y := 0) rfl (show (0 : Int32).toInt = 0 by decide)).mp hcn)
      refine zn_ld rfl rfl rfl ?_
      refine zn_get (v := .ref 75) rfl (zv_R (a := 84) rfl rfl) ?_
      refine zn_ld rfl rfl rfl ?_
      refine zn_zt [.ref 75, .int x10] [.ref 3] rfl rfl rfl rfl rfl (Zt.imp h (fun v11 s12 h => ?_))
      obtain ⟨x13, rfl, h⟩ := h
      change Zn _ _ _ _ _ _ _ _ _ _ _ [.int x13, .ref 3] _ _
      refine zn_go rfl ?_
      exact m_5_143_3 hd  h
  · replace h := h.2 (fun q => hcn ((i_eq (x := s.1 3 14) (y := 0) rfl (show (0 : Int32).toInt = 0 by decide)).mpr q))
    exact zn_ret0 rfl h
set_option maxRecDepth 20000 in
theorem m_5_84_3 {d d0 : Nat} (hd : d = d0 + 8) {R22 : Int32 → zS → Prop} {a2 : Int32} {a3 : Int32} {a4 : Int32} {a5 : Int32} {a6 : Int32} {s : zS} {Q : Option Value → zS → Prop} (r22 : ∀ a2 s, R22 a2 s → Zn d [(84, 2), (84, 3), (84, 4), (83, 1), (83, 2)] [(3, 99), (3, 98)] ([(83, 2, 4), (83, 1, 3), (84, 4, 7), (84, 3, 4), (84, 2, 3), (75, 0, 3), (75, 1, 21), (75, 2, 25)] : zW) ([(83, 2, 4), (83, 1, 3), (84, 4, 7), (84, 3, 4), (84, 2, 3), (75, 0, 3), (75, 1, 21), (75, 2, 25)] : zW) xL_1 7 (none) xE_5 (xE_5.drop 22) [.ref 84, .ref 3, .int a2, .null, .null, .null, .null, .null, .null] [] s Q) (h : v_5_84 (fun j => Zt d (wd 3 j) j) 3 R22 a2 a3 a4 a5 a6 s Q) : Zn d [(84, 2), (84, 3), (84, 4), (83, 1), (83, 2)] [(3, 99), (3, 98)] ([(83, 2, 4), (83, 1, 3), (84, 4, 7), (84, 3, 4), (84, 2, 3), (75, 0, 3), (75, 1, 21), (75, 2, 25)] : zW) ([(83, 2, 4), (83, 1, 3), (84, 4, 7), (84, 3, 4), (84, 2, 3), (75, 0, 3), (75, 1, 21), (75, 2, 25)] : zW) xL_1 7 (none) xE_5 (xE_5.drop 84) [.ref 84, .ref 3, .int a2, .int a3, .int a4, .int a5, .int a6, .null, .null] [] s Q := by
  unfold v_5_84 at h
  refine zn_ld rfl rfl rfl ?_
  refine zn_get (v := .ref 3) rfl (zv_C (a := 84) (n := 4) rfl rfl rfl) ?_
  refine zn_c [.int 0, .ref 3] (xo_push (.int 0)) rfl rfl ?_
  refine zn_c [.int 0, .int 0, .ref 3] (xo_push (.int 0)) rfl rfl ?_
  refine zn_c [.int 0, .int 0, .int 0, .ref 3] (xo_push (.int 0)) rfl rfl ?_
  refine zn_c [.int 0, .int 0, .int 0, .int 0, .ref 3] (xo_push (.int 0)) rfl rfl ?_
  refine zn_c [.int 0, .int 0, .int 0, .int 0, .int 0, .ref 3] (xo_push (.int 0)) rfl rfl ?_
  refine zn_c [.int 0, .int 0, .int 0, .int 0, .int 0, .int 0, .ref 3] (xo_push (.int 0)) rfl rfl ?_
  refine zn_zt [.ref 3, .int 0, .int 0, .int 0, .int 0, .int 0, .int 0] [] rfl rfl rfl rfl rfl (Zt.imp h (fun v1 s2 h => ?_))
  obtain ⟨rfl, h⟩ := h
  change Zn _ _ _ _ _ _ _ _ _ _ _ [] _ _
  replace h := h _ (i_add (x := a2) (y := 1) rfl (show (1 : Int32).toInt = 1 by decide))
  refine zn_inc [.ref 84, .ref 3, .int (a2 + 1), .int a3, .int a4, .int a5, .int a6, .null, .null] rfl rfl rfl rfl ?_
  refine zn_go rfl ?_
  refine zn_fg 3 ?_
  refine zn_fg 4 ?_
  refine zn_fg 5 ?_
  refine zn_fg 6 ?_
  exact r22 (a2 + 1) s2 h
set_option maxRecDepth 20000 in
theorem m_5_22_3 {d d0 : Nat} (hd : d = d0 + 8) {R22 : Int32 → zS → Prop} {a2 : Int32} {s : zS} {Q : Option Value → zS → Prop} (r22 : ∀ a2 s, R22 a2 s → Zn d [(84, 2), (84, 3), (84, 4), (83, 1), (83, 2)] [(3, 99), (3, 98)] ([(83, 2, 4), (83, 1, 3), (84, 4, 7), (84, 3, 4), (84, 2, 3), (75, 0, 3), (75, 1, 21), (75, 2, 25)] : zW) ([(83, 2, 4), (83, 1, 3), (84, 4, 7), (84, 3, 4), (84, 2, 3), (75, 0, 3), (75, 1, 21), (75, 2, 25)] : zW) xL_1 7 (none) xE_5 (xE_5.drop 22) [.ref 84, .ref 3, .int a2, .null, .null, .null, .null, .null, .null] [] s Q) (h : v_5_22 (fun j => Zt d (wd 3 j) j) 3 R22 a2 s Q) : Zn d [(84, 2), (84, 3), (84, 4), (83, 1), (83, 2)] [(3, 99), (3, 98)] ([(83, 2, 4), (83, 1, 3), (84, 4, 7), (84, 3, 4), (84, 2, 3), (75, 0, 3), (75, 1, 21), (75, 2, 25)] : zW) ([(83, 2, 4), (83, 1, 3), (84, 4, 7), (84, 3, 4), (84, 2, 3), (75, 0, 3), (75, 1, 21), (75, 2, 25)] : zW) xL_1 7 (none) xE_5 (xE_5.drop 22) [.ref 84, .ref 3, .int a2, .null, .null, .null, .null, .null, .null] [] s Q := by
  unfold v_5_22 at h
  refine zn_ld rfl rfl rfl ?_
  refine zn_ld rfl rfl rfl ?_
  refine zn_get (v := .ref 3) rfl (zv_C (a := 84) (n := 4) rfl rfl rfl) ?_
  refine zn_zt [.ref 3] [.int a2] (c := []) rfl rfl rfl rfl rfl (Zt.imp (zp_45 hd (Or.inl rfl)) (fun vq sq hq => ?_))
  obtain ⟨rfl, hq⟩ := hq
  rw [hq]
  change Zn _ _ _ _ _ _ _ _ _ _ _ [.int (s.1 29 2 / 10), .int a2] _ _
  refine zn_brP rfl rfl ⟨fun hcn => ?_, fun hcn => ?_⟩
  · replace h := h.1 ((i_le (x := s.1 29 2 / 10) (y := a2) rfl rfl).mp hcn)
    exact m_5_95_3 hd  h
  · replace h := h.2 (fun q => hcn ((i_le (x := s.1 29 2 / 10) (y := a2) rfl rfl).mpr q))
    refine zn_ld rfl rfl rfl ?_
    refine zn_get (v := .ref 3) rfl (zv_C (a := 84) (n := 4) rfl rfl rfl) ?_
    refine zn_get (v := .int (s.1 3 14)) rfl (zv_I (a := 3) rfl rfl) ?_
    refine zn_brN rfl rfl ⟨fun hcn => ?_, fun hcn => ?_⟩
    · replace h := h.1 (fun q => hcn ((i_eq (x := s.1 3 14) (y := 0) rfl (show (0 : Int32).toInt = 0 by decide)).mpr q))
      exact m_5_95_3 hd  h
    · replace h := h.2 ((i_eq (x := s.1 3 14) (y := 0) rfl (show (0 : Int32).toInt = 0 by decide)).mp hcn)
      refine zn_ld rfl rfl rfl ?_
      refine zn_ld rfl rfl rfl ?_
      refine zn_zt [.ref 84, .int a2] [] rfl rfl rfl rfl rfl (Zt.imp h (fun v1 s2 h => ?_))
      obtain ⟨rfl, h⟩ := h
      change Zn _ _ _ _ _ _ _ _ _ _ _ [] _ _
      refine zn_ld rfl rfl rfl ?_
      refine zn_get (v := .int (s2.1 84 5)) rfl (zv_I (a := 84) rfl rfl) ?_
      refine zn_st [.ref 84, .ref 3, .int a2, .int (s2.1 84 5), .null, .null, .null, .null, .null] rfl rfl rfl ?_
      refine zn_ld rfl rfl rfl ?_
      refine zn_c [.int 1, .ref 84] (xo_push (.int 1)) rfl rfl ?_
      refine zn_zt [.ref 84, .int 1] [] rfl rfl rfl rfl rfl (Zt.imp h (fun v3 s4 h => ?_))
      obtain ⟨x5, rfl, h⟩ := h
      change Zn _ _ _ _ _ _ _ _ _ _ _ [.int x5] _ _
      refine zn_st [.ref 84, .ref 3, .int a2, .int (s2.1 84 5), .int x5, .null, .null, .null, .null] rfl rfl rfl ?_
      refine zn_ld rfl rfl rfl ?_
      refine zn_get (v := .ref 3) rfl (zv_C (a := 84) (n := 4) rfl rfl rfl) ?_
      refine zn_ld rfl rfl rfl ?_
      refine zn_get (v := .ref 75) rfl (zv_R (a := 84) rfl rfl) ?_
      refine zn_get (v := .int (s4.1 75 6)) rfl (zv_I (a := 75) rfl rfl) ?_
      refine zn_c [.int 2, .int (s4.1 75 6), .ref 3] (xo_push (.int 2)) rfl rfl ?_
      refine zn_zt [.ref 3, .int (s4.1 75 6), .int 2] [] (c := []) rfl rfl rfl rfl rfl (Zt.imp (zp_41 hd (Or.inl rfl)) (fun vq sq hq => ?_))
      obtain ⟨rfl, hq⟩ := hq
      rw [hq]
      change Zn _ _ _ _ _ _ _ _ _ _ _ [.int (zg s4 31 ((s4.1 75 6) * 5 + 2))] _ _
      refine zn_ld rfl rfl rfl ?_
      refine zn_get (v := .ref 3) rfl (zv_C (a := 84) (n := 4) rfl rfl rfl) ?_
      refine zn_ld rfl rfl rfl ?_
      refine zn_get (v := .ref 75) rfl (zv_R (a := 84) rfl rfl) ?_
      refine zn_get (v := .int (s4.1 75 6)) rfl (zv_I (a := 75) rfl rfl) ?_
      refine zn_c [.int 3, .int (s4.1 75 6), .ref 3, .int (zg s4 31 ((s4.1 75 6) * 5 + 2))] (xo_push (.int 3)) rfl rfl ?_
      refine zn_zt [.ref 3, .int (s4.1 75 6), .int 3] [.int (zg s4 31 ((s4.1 75 6) * 5 + 2))] (c := []) rfl rfl rfl rfl rfl (Zt.imp (zp_41 hd (Or.inl rfl)) (fun vq sq hq => ?_))
      obtain ⟨rfl, hq⟩ := hq
      rw [hq]
      change Zn _ _ _ _ _ _ _ _ _ _ _ [.int (zg s4 31 ((s4.1 75 6) * 5 + 3)), .int (zg s4 31 ((s4.1 75 6) * 5 + 2))] _ _
      replace h := h _ (i_add (x := zg s4 31 ((s4.1 75 6) * 5 + 2)) (y := zg s4 31 ((s4.1 75 6) * 5 + 3)) rfl rfl)
      refine zn_c [.int ((zg s4 31 ((s4.1 75 6) * 5 + 2)) + (zg s4 31 ((s4.1 75 6) * 5 + 3)))] xo_iadd rfl rfl ?_
      refine zn_st [.ref 84, .ref 3, .int a2, .int (s2.1 84 5), .int x5, .int ((zg s4 31 ((s4.1 75 6) * 5 + 2)) + (zg s4 31 ((s4.1 75 6) * 5 + 3))), .null, .null, .null] rfl rfl rfl ?_
      refine zn_ld rfl rfl rfl ?_
      refine zn_get (v := .ref 3) rfl (zv_C (a := 84) (n := 4) rfl rfl rfl) ?_
      refine zn_ld rfl rfl rfl ?_
      refine zn_ld rfl rfl rfl ?_
      refine zn_get (v := .ref 3) rfl (zv_C (a := 84) (n := 4) rfl rfl rfl) ?_
      refine zn_ld rfl rfl rfl ?_
      refine zn_get (v := .ref 75) rfl (zv_R (a := 84) rfl rfl) ?_
      refine zn_get (v := .int (s4.1 75 6)) rfl (zv_I (a := 75) rfl rfl) ?_
      refine zn_c [.int 4, .int (s4.1 75 6), .ref 3, .int ((zg s4 31 ((s4.1 75 6) * 5 + 2)) + (zg s4 31 ((s4.1 75 6) * 5 + 3))), .ref 3] (xo_push (.int 4)) rfl rfl ?_
      refine zn_zt [.ref 3, .int (s4.1 75 6), .int 4] [.int ((zg s4 31 ((s4.1 75 6) * 5 + 2)) + (zg s4 31 ((s4.1 75 6) * 5 + 3))), .ref 3] (c := []) rfl rfl rfl rfl rfl (Zt.imp (zp_41 hd (Or.inl rfl)) (fun vq sq hq => ?_))
      obtain ⟨rfl, hq⟩ := hq
      rw [hq]
      change Zn _ _ _ _ _ _ _ _ _ _ _ [.int (zg s4 31 ((s4.1 75 6) * 5 + 4)), .int ((zg s4 31 ((s4.1 75 6) * 5 + 2)) + (zg s4 31 ((s4.1 75 6) * 5 + 3))), .ref 3] _ _
      replace h := h _ (i_add (x := ((zg s4 31 ((s4.1 75 6) * 5 + 2)) + (zg s4 31 ((s4.1 75 6) * 5 + 3)))) (y := zg s4 31 ((s4.1 75 6) * 5 + 4)) rfl rfl)
      refine zn_c [.int (((zg s4 31 ((s4.1 75 6) * 5 + 2)) + (zg s4 31 ((s4.1 75 6) * 5 + 3))) + (zg s4 31 ((s4.1 75 6) * 5 + 4))), .ref 3] xo_iadd rfl rfl ?_
      refine zn_c [.int 3, .int (((zg s4 31 ((s4.1 75 6) * 5 + 2)) + (zg s4 31 ((s4.1 75 6) * 5 + 3))) + (zg s4 31 ((s4.1 75 6) * 5 + 4))), .ref 3] (xo_push (.int 3)) rfl rfl ?_
      refine zn_zt [.ref 3, .int (((zg s4 31 ((s4.1 75 6) * 5 + 2)) + (zg s4 31 ((s4.1 75 6) * 5 + 3))) + (zg s4 31 ((s4.1 75 6) * 5 + 4))), .int 3] [] (c := []) rfl rfl rfl rfl rfl (Zt.imp (zp_42 hd (Or.inl rfl)) (fun vq sq hq => ?_))
      obtain ⟨rfl, hq⟩ := hq
      rw [hq]
      change Zn _ _ _ _ _ _ _ _ _ _ _ [.int (zg s4 33 ((((zg s4 31 ((s4.1 75 6) * 5 + 2)) + (zg s4 31 ((s4.1 75 6) * 5 + 3))) + (zg s4 31 ((s4.1 75 6) * 5 + 4))) * 5 + 3))] _ _
      refine zn_st [.ref 84, .ref 3, .int a2, .int (s2.1 84 5), .int x5, .int ((zg s4 31 ((s4.1 75 6) * 5 + 2)) + (zg s4 31 ((s4.1 75 6) * 5 + 3))), .int (zg s4 33 ((((zg s4 31 ((s4.1 75 6) * 5 + 2)) + (zg s4 31 ((s4.1 75 6) * 5 + 3))) + (zg s4 31 ((s4.1 75 6) * 5 + 4))) * 5 + 3)), .null, .null] rfl rfl rfl ?_
      refine zn_ld rfl rfl rfl ?_
      refine zn_get (v := .ref 3) rfl (zv_C (a := 84) (n := 4) rfl rfl rfl) ?_
      refine zn_get (v := .int (s4.1 3 14)) rfl (zv_I (a := 3) rfl rfl) ?_
      refine zn_brN rfl rfl ⟨fun hcn => ?_, fun hcn => ?_⟩
      · replace h := h.1 (fun q => hcn ((i_eq (x := s4.1 3 14) (y := 0) rfl (show (0 : Int32).toInt = 0 by decide)).mpr q))
        exact m_5_84_3 hd r22 h
      · replace h := h.2 ((i_eq (x := s4.1 3 14) (y := 0) rfl (show (0 : Int32).toInt = 0 by decide)).mp hcn)
        refine zn_ld rfl rfl rfl ?_
        refine zn_get (v := .ref 3) rfl (zv_C (a := 84) (n := 4) rfl rfl rfl) ?_
        refine zn_ld rfl rfl rfl ?_
        refine zn_get (v := .ref 75) rfl (zv_R (a := 84) rfl rfl) ?_
        refine zn_ld rfl rfl rfl ?_
        refine zn_ld rfl rfl rfl ?_
        refine zn_zt [.ref 75, .int x5, .int (zg s4 33 ((((zg s4 31 ((s4.1 75 6) * 5 + 2)) + (zg s4 31 ((s4.1 75 6) * 5 + 3))) + (zg s4 31 ((s4.1 75 6) * 5 + 4))) * 5 + 3))] [.ref 3] rfl rfl rfl rfl rfl (Zt.imp h (fun v12 s13 h => ?_))
        obtain ⟨x14, rfl, h⟩ := h
        change Zn _ _ _ _ _ _ _ _ _ _ _ [.int x14, .ref 3] _ _
        refine zn_ld rfl rfl rfl ?_
        refine zn_zt [.ref 3, .int x14, .int (s2.1 84 5)] [] rfl rfl rfl rfl rfl (Zt.imp h (fun v15 s16 h => ?_))
        obtain ⟨rfl, h⟩ := h
        change Zn _ _ _ _ _ _ _ _ _ _ _ [] _ _
        exact m_5_84_3 hd r22 h
theorem ml_5_22_3 {d d0 : Nat} (hd : d = d0 + 8)  {a2 : Int32} {s : zS} {Q : Option Value → zS → Prop}  (h : vl_5_22 (fun j => Zt d (wd 3 j) j) 3  a2 s Q) : Zn d [(84, 2), (84, 3), (84, 4), (83, 1), (83, 2)] [(3, 99), (3, 98)] ([(83, 2, 4), (83, 1, 3), (84, 4, 7), (84, 3, 4), (84, 2, 3), (75, 0, 3), (75, 1, 21), (75, 2, 25)] : zW) ([(83, 2, 4), (83, 1, 3), (84, 4, 7), (84, 3, 4), (84, 2, 3), (75, 0, 3), (75, 1, 21), (75, 2, 25)] : zW) xL_1 7 (none) xE_5 (xE_5.drop 22) [.ref 84, .ref 3, .int a2, .null, .null, .null, .null, .null, .null] [] s Q := by
  obtain ⟨I, μ, h0, h1⟩ := h
  have key : ∀ (n : Nat) (a2 : Int32) (s : zS), μ a2 s = n → I a2 s → Zn d [(84, 2), (84, 3), (84, 4), (83, 1), (83, 2)] [(3, 99), (3, 98)] ([(83, 2, 4), (83, 1, 3), (84, 4, 7), (84, 3, 4), (84, 2, 3), (75, 0, 3), (75, 1, 21), (75, 2, 25)] : zW) ([(83, 2, 4), (83, 1, 3), (84, 4, 7), (84, 3, 4), (84, 2, 3), (75, 0, 3), (75, 1, 21), (75, 2, 25)] : zW) xL_1 7 (none) xE_5 (xE_5.drop 22) [.ref 84, .ref 3, .int a2, .null, .null, .null, .null, .null, .null] [] s Q := by
    intro n
    induction n using Nat.strongRecOn with
    | ind n ih =>
      intro a2 s e hI
      exact m_5_22_3 hd (fun a2' s' q => ih _ (by rw [← e]; exact q.2) a2' s' rfl q.1) (h1 a2 s hI)
  exact key _ a2 s rfl h0
set_option maxRecDepth 20000 in
theorem m_5_0_3 {d d0 : Nat} (hd : d = d0 + 8)   {s : zS} {Q : Option Value → zS → Prop}  (h : v_5_0 (fun j => Zt d (wd 3 j) j) 3   s Q) : Zn d [(84, 2), (84, 3), (84, 4), (83, 1), (83, 2)] [(3, 99), (3, 98)] ([(75, 0, 3), (75, 1, 21), (75, 2, 25)] : zW) ([(83, 2, 4), (83, 1, 3), (84, 4, 7), (84, 3, 4), (84, 2, 3), (75, 0, 3), (75, 1, 21), (75, 2, 25)] : zW) xL_1 7 (none) xE_5 (xE_5.drop 0) [.ref 84, .ref 3, .null, .null, .null, .null, .null, .null, .null] [] s Q := by
  unfold v_5_0 at h
  refine zn_ld rfl rfl rfl ?_
  refine zn_ld rfl rfl rfl ?_
  refine zn_putR (a := 84) (b := 3) rfl rfl rfl rfl rfl rfl rfl rfl rfl ?_
  refine zn_ld rfl rfl rfl ?_
  refine zn_ld rfl rfl rfl ?_
  refine zn_get (v := .ref 3) rfl (zv_C (a := 84) (n := 0) rfl rfl rfl) ?_
  refine zn_get (v := .ref 4) rfl (zv_R (a := 3) rfl rfl) ?_
  refine zn_putR (a := 84) (b := 4) rfl rfl rfl rfl rfl rfl rfl rfl rfl ?_
  refine zn_ld rfl rfl rfl ?_
  refine zn_ld rfl rfl rfl ?_
  refine zn_get (v := .ref 4) rfl (zv_C (a := 84) (n := 0) rfl rfl rfl) ?_
  refine zn_get (v := .ref 7) rfl (zv_R (a := 4) rfl rfl) ?_
  refine zn_putR (a := 84) (b := 7) rfl rfl rfl rfl rfl rfl rfl rfl rfl ?_
  refine zn_ld rfl rfl rfl ?_
  refine zn_get (v := .ref 83) rfl (zv_R (a := 84) rfl rfl) ?_
  refine zn_ld rfl rfl rfl ?_
  refine zn_get (v := .ref 3) rfl (zv_C (a := 84) (n := 2) rfl rfl rfl) ?_
  refine zn_ld rfl rfl rfl ?_
  refine zn_get (v := .ref 4) rfl (zv_C (a := 84) (n := 1) rfl rfl rfl) ?_
  refine zn_zu [.ref 83, .ref 3, .ref 4] [] (c := []) (c' := [(83, 2, 4), (83, 1, 3)]) (w1 := ([(84, 4, 7), (84, 3, 4), (84, 2, 3), (75, 0, 3), (75, 1, 21), (75, 2, 25)] : zW)) rfl rfl rfl rfl rfl rfl rfl (Zu.imp (zp_121 hd (Or.inl rfl)) (fun vq sq hq => ?_))
  obtain ⟨rfl, hq⟩ := hq
  rw [hq]
  change Zn _ _ _ _ _ _ _ _ _ _ _ [] _ _
  refine zn_c [.int 0] (xo_push (.int 0)) rfl rfl ?_
  refine zn_st [.ref 84, .ref 3, .int 0, .null, .null, .null, .null, .null, .null] rfl rfl rfl ?_
  exact ml_5_22_3 hd  h
theorem zq_5_3 {d : Nat}  {s : zS} {Q : Option Value → zS → Prop} (h : v_5_0 (fun j => Zt (d + 8) (wd 3 j) j) 3  s Q) : Zu (d + 9) [(84, 2), (84, 3), (84, 4), (83, 1), (83, 2)] ([(75, 0, 3), (75, 1, 21), (75, 2, 25)] : zW) ([(83, 2, 4), (83, 1, 3), (84, 4, 7), (84, 3, 4), (84, 2, 3), (75, 0, 3), (75, 1, 21), (75, 2, 25)] : zW) 5 [.ref 84, .ref 3] s Q := zu_of (E := xE_5) (L := xL_1) (ml := 7) (ret := none) rfl rfl rfl (m_5_0_3 rfl h)
set_option maxRecDepth 20000 in
theorem m_5_143_39 {d d0 : Nat} (hd : d = d0 + 8)  {a2 : Int32} {t1 : Int32} {s : zS} {Q : Option Value → zS → Prop}  (h : v_5_143 (fun j => Zt d (wd 39 j) j) 39  a2 t1 s Q) : Zn d [(84, 2), (84, 3), (84, 4), (83, 1), (83, 2)] [(39, 99), (39, 98)] ([(83, 2, 40), (83, 1, 39), (84, 4, 43), (84, 3, 40), (84, 2, 39), (75, 0, 39), (75, 1, 57), (75, 2, 61)] : zW) ([(83, 2, 40), (83, 1, 39), (84, 4, 43), (84, 3, 40), (84, 2, 39), (75, 0, 39), (75, 1, 57), (75, 2, 61)] : zW) xL_1 7 (none) xE_5 (xE_5.drop 143) [.ref 84, .ref 39, .int a2, .null, .null, .null, .null, .null, .null] [.int t1, .ref 39] s Q := by
  unfold v_5_143 at h
  refine zn_putI (a := 39) rfl rfl rfl rfl ⟨Int32.le_toInt _, Int.le_of_lt_add_one (Int32.toInt_lt _)⟩ rfl rfl rfl ?_
  replace h := h _ rfl
  refine zn_ld rfl rfl rfl ?_
  refine zn_get (v := .ref 39) rfl (zv_C (a := 84) (n := 4) rfl rfl rfl) ?_
  refine zn_c [.int 0, .ref 39] (xo_push (.int 0)) rfl rfl ?_
  refine zn_c [.int 0, .int 0, .ref 39] (xo_push (.int 0)) rfl rfl ?_
  refine zn_c [.int 0, .int 0, .int 0, .ref 39] (xo_push (.int 0)) rfl rfl ?_
  refine zn_c [.int 0, .int 0, .int 0, .int 0, .ref 39] (xo_push (.int 0)) rfl rfl ?_
  refine zn_c [.int 0, .int 0, .int 0, .int 0, .int 0, .ref 39] (xo_push (.int 0)) rfl rfl ?_
  refine zn_c [.int 0, .int 0, .int 0, .int 0, .int 0, .int 0, .ref 39] (xo_push (.int 0)) rfl rfl ?_
  refine zn_zt [.ref 39, .int 0, .int 0, .int 0, .int 0, .int 0, .int 0] [] rfl rfl rfl rfl rfl (Zt.imp h (fun v2 s3 h => ?_))
  obtain ⟨rfl, h⟩ := h
  change Zn _ _ _ _ _ _ _ _ _ _ _ [] _ _
  exact zn_ret0 rfl h
set_option maxRecDepth 20000 in
theorem m_5_95_39 {d d0 : Nat} (hd : d = d0 + 8)  {a2 : Int32} {s : zS} {Q : Option Value → zS → Prop}  (h : v_5_95 (fun j => Zt d (wd 39 j) j) 39  a2 s Q) : Zn d [(84, 2), (84, 3), (84, 4), (83, 1), (83, 2)] [(39, 99), (39, 98)] ([(83, 2, 40), (83, 1, 39), (84, 4, 43), (84, 3, 40), (84, 2, 39), (75, 0, 39), (75, 1, 57), (75, 2, 61)] : zW) ([(83, 2, 40), (83, 1, 39), (84, 4, 43), (84, 3, 40), (84, 2, 39), (75, 0, 39), (75, 1, 57), (75, 2, 61)] : zW) xL_1 7 (none) xE_5 (xE_5.drop 95) [.ref 84, .ref 39, .int a2, .null, .null, .null, .null, .null, .null] [] s Q := by
  unfold v_5_95 at h
  refine zn_ld rfl rfl rfl ?_
  refine zn_get (v := .ref 39) rfl (zv_C (a := 84) (n := 4) rfl rfl rfl) ?_
  refine zn_get (v := .int (s.1 39 14)) rfl (zv_I (a := 39) rfl rfl) ?_
  refine zn_brP rfl rfl ⟨fun hcn => ?_, fun hcn => ?_⟩
  · replace h := h.1 ((i_eq (x := s.1 39 14) (y := 0) rfl (show (0 : Int32).toInt = 0 by decide)).mp hcn)
    refine zn_ld rfl rfl rfl ?_
    refine zn_c [.int (-1), .ref 84] (xo_push (.int (-1))) rfl rfl ?_
    refine zn_putI (a := 84) rfl rfl rfl rfl ⟨Int32.le_toInt _, Int.le_of_lt_add_one (Int32.toInt_lt _)⟩ rfl rfl rfl ?_
    replace h := h _ rfl
    refine zn_ld rfl rfl rfl ?_
    refine zn_get (v := .ref 75) rfl (zv_R (a := 84) rfl rfl) ?_
    refine zn_c [.int (-1), .ref 75] (xo_push (.int (-1))) rfl rfl ?_
    refine zn_c [.int (-1), .int (-1), .ref 75] (xo_push (.int (-1))) rfl rfl ?_
    refine zn_c [.int (-1), .int (-1), .int (-1), .ref 75] (xo_push (.int (-1))) rfl rfl ?_
    refine zn_zt [.ref 75, .int (-1), .int (-1), .int (-1)] [] rfl rfl rfl rfl rfl (Zt.imp h (fun v2 s3 h => ?_))
    obtain ⟨rfl, h⟩ := h
    change Zn _ _ _ _ _ _ _ _ _ _ _ [] _ _
    refine zn_ld rfl rfl rfl ?_
    refine zn_get (v := .ref 75) rfl (zv_R (a := 84) rfl rfl) ?_
    refine zn_c [.int 18, .ref 75] (xo_push (.int 18)) rfl rfl ?_
    refine zn_putI (a := 75) rfl rfl rfl rfl ⟨Int32.le_toInt _, Int.le_of_lt_add_one (Int32.toInt_lt _)⟩ rfl rfl rfl ?_
    replace h := h _ rfl
    refine zn_ld rfl rfl rfl ?_
    refine zn_ld rfl rfl rfl ?_
    refine zn_get (v := .ref 39) rfl (zv_C (a := 84) (n := 4) rfl rfl rfl) ?_
    refine zn_get (v := .int ((zf s3 75 3 18).1 39 11)) rfl (zv_I (a := 39) rfl rfl) ?_
    refine zn_putI (a := 84) rfl rfl rfl rfl ⟨Int32.le_toInt _, Int.le_of_lt_add_one (Int32.toInt_lt _)⟩ rfl rfl rfl ?_
    replace h := h _ rfl
    refine zn_ld rfl rfl rfl ?_
    refine zn_get (v := .ref 39) rfl (zv_C (a := 84) (n := 4) rfl rfl rfl) ?_
    refine zn_ld rfl rfl rfl ?_
    refine zn_get (v := .ref 39) rfl (zv_C (a := 84) (n := 4) rfl rfl rfl) ?_
    refine zn_get (v := .ref 73) rfl (zv_R (a := 39) rfl rfl) ?_
    refine zn_get (v := .int ((zf (zf s3 75 3 18) 84 5 ((zf s3 75 3 18).1 39 11)).1 73 2)) rfl (zv_I (a := 73) rfl rfl) ?_
    refine zn_c [.int 6, .int ((zf (zf s3 75 3 18) 84 5 ((zf s3 75 3 18).1 39 11)).1 73 2), .ref 39] (xo_push (.int 6)) rfl rfl ?_
    replace h := h (((zf (zf s3 75 3 18) 84 5 ((zf s3 75 3 18).1 39 11)).1 73 2) / 6) (i_dv (x := (zf (zf s3 75 3 18) 84 5 ((zf s3 75 3 18).1 39 11)).1 73 2) (y := 6) rfl (show (6 : Int32).toInt = 6 by decide) (by decide))
    refine zn_c [.int (((zf (zf s3 75 3 18) 84 5 ((zf s3 75 3 18).1 39 11)).1 73 2) / 6), .ref 39] xo_idiv rfl (o_idiv (by decide)) ?_
    refine zn_putI (a := 39) rfl rfl rfl rfl ⟨Int32.le_toInt _, Int.le_of_lt_add_one (Int32.toInt_lt _)⟩ rfl rfl rfl ?_
    replace h := h _ rfl
    refine zn_ld rfl rfl rfl ?_
    refine zn_c [.int 1, .ref 84] (xo_push (.int 1)) rfl rfl ?_
    refine zn_zt [.ref 84, .int 1] [] rfl rfl rfl rfl rfl (Zt.imp h (fun v8 s9 h => ?_))
    obtain ⟨x10, rfl, h⟩ := h
    change Zn _ _ _ _ _ _ _ _ _ _ _ [.int x10] _ _
    refine zn_st [.ref 84, .ref 39, .int x10, .null, .null, .null, .null, .null, .null] rfl rfl rfl ?_
    refine zn_ld rfl rfl rfl ?_
    refine zn_get (v := .ref 39) rfl (zv_C (a := 84) (n := 4) rfl rfl rfl) ?_
    refine zn_ld rfl rfl rfl ?_
    refine zn_get (v := .ref 39) rfl (zv_C (a := 84) (n := 4) rfl rfl rfl) ?_
    refine zn_get (v := .int (s9.1 39 14)) rfl (zv_I (a := 39) rfl rfl) ?_
    refine zn_brN rfl rfl ⟨fun hcn => ?_, fun hcn => ?_⟩
    · replace h := h.1 (fun q => hcn ((i_eq (x := s9.1 39 14) (y := 0) rfl (show (0 : Int32).toInt = 0 by decide)).mpr q))
      refine zn_c [.int (-1), .ref 39] (xo_push (.int (-1))) rfl rfl ?_
      exact m_5_143_39 hd  h
    · replace h := h.2 ((i_eq (x := s9.1 39 14) (y := 0) rfl (show (0 : Int32).toInt = 0 by decide)).mp hcn)
      refine zn_ld rfl rfl rfl ?_
      refine zn_get (v := .ref 75) rfl (zv_R (a := 84) rfl rfl) ?_
      refine zn_ld rfl rfl rfl ?_
      refine zn_zt [.ref 75, .int x10] [.ref 39] rfl rfl rfl rfl rfl (Zt.imp h (fun v11 s12 h => ?_))
      obtain ⟨x13, rfl, h⟩ := h
      change Zn _ _ _ _ _ _ _ _ _ _ _ [.int x13, .ref 39] _ _
      refine zn_go rfl ?_
      exact m_5_143_39 hd  h
  · replace h := h.2 (fun q => hcn ((i_eq (x := s.1 39 14) (y := 0) rfl (show (0 : Int32).toInt = 0 by decide)).mpr q))
    exact zn_ret0 rfl h
set_option maxRecDepth 20000 in
theorem m_5_84_39 {d d0 : Nat} (hd : d = d0 + 8) {R22 : Int32 → zS → Prop} {a2 : Int32} {a3 : Int32} {a4 : Int32} {a5 : Int32} {a6 : Int32} {s : zS} {Q : Option Value → zS → Prop} (r22 : ∀ a2 s, R22 a2 s → Zn d [(84, 2), (84, 3), (84, 4), (83, 1), (83, 2)] [(39, 99), (39, 98)] ([(83, 2, 40), (83, 1, 39), (84, 4, 43), (84, 3, 40), (84, 2, 39), (75, 0, 39), (75, 1, 57), (75, 2, 61)] : zW) ([(83, 2, 40), (83, 1, 39), (84, 4, 43), (84, 3, 40), (84, 2, 39), (75, 0, 39), (75, 1, 57), (75, 2, 61)] : zW) xL_1 7 (none) xE_5 (xE_5.drop 22) [.ref 84, .ref 39, .int a2, .null, .null, .null, .null, .null, .null] [] s Q) (h : v_5_84 (fun j => Zt d (wd 39 j) j) 39 R22 a2 a3 a4 a5 a6 s Q) : Zn d [(84, 2), (84, 3), (84, 4), (83, 1), (83, 2)] [(39, 99), (39, 98)] ([(83, 2, 40), (83, 1, 39), (84, 4, 43), (84, 3, 40), (84, 2, 39), (75, 0, 39), (75, 1, 57), (75, 2, 61)] : zW) ([(83, 2, 40), (83, 1, 39), (84, 4, 43), (84, 3, 40), (84, 2, 39), (75, 0, 39), (75, 1, 57), (75, 2, 61)] : zW) xL_1 7 (none) xE_5 (xE_5.drop 84) [.ref 84, .ref 39, .int a2, .int a3, .int a4, .int a5, .int a6, .null, .null] [] s Q := by
  unfold v_5_84 at h
  refine zn_ld rfl rfl rfl ?_
  refine zn_get (v := .ref 39) rfl (zv_C (a := 84) (n := 4) rfl rfl rfl) ?_
  refine zn_c [.int 0, .ref 39] (xo_push (.int 0)) rfl rfl ?_
  refine zn_c [.int 0, .int 0, .ref 39] (xo_push (.int 0)) rfl rfl ?_
  refine zn_c [.int 0, .int 0, .int 0, .ref 39] (xo_push (.int 0)) rfl rfl ?_
  refine zn_c [.int 0, .int 0, .int 0, .int 0, .ref 39] (xo_push (.int 0)) rfl rfl ?_
  refine zn_c [.int 0, .int 0, .int 0, .int 0, .int 0, .ref 39] (xo_push (.int 0)) rfl rfl ?_
  refine zn_c [.int 0, .int 0, .int 0, .int 0, .int 0, .int 0, .ref 39] (xo_push (.int 0)) rfl rfl ?_
  refine zn_zt [.ref 39, .int 0, .int 0, .int 0, .int 0, .int 0, .int 0] [] rfl rfl rfl rfl rfl (Zt.imp h (fun v1 s2 h => ?_))
  obtain ⟨rfl, h⟩ := h
  change Zn _ _ _ _ _ _ _ _ _ _ _ [] _ _
  replace h := h _ (i_add (x := a2) (y := 1) rfl (show (1 : Int32).toInt = 1 by decide))
  refine zn_inc [.ref 84, .ref 39, .int (a2 + 1), .int a3, .int a4, .int a5, .int a6, .null, .null] rfl rfl rfl rfl ?_
  refine zn_go rfl ?_
  refine zn_fg 3 ?_
  refine zn_fg 4 ?_
  refine zn_fg 5 ?_
  refine zn_fg 6 ?_
  exact r22 (a2 + 1) s2 h
set_option maxRecDepth 20000 in
theorem m_5_22_39 {d d0 : Nat} (hd : d = d0 + 8) {R22 : Int32 → zS → Prop} {a2 : Int32} {s : zS} {Q : Option Value → zS → Prop} (r22 : ∀ a2 s, R22 a2 s → Zn d [(84, 2), (84, 3), (84, 4), (83, 1), (83, 2)] [(39, 99), (39, 98)] ([(83, 2, 40), (83, 1, 39), (84, 4, 43), (84, 3, 40), (84, 2, 39), (75, 0, 39), (75, 1, 57), (75, 2, 61)] : zW) ([(83, 2, 40), (83, 1, 39), (84, 4, 43), (84, 3, 40), (84, 2, 39), (75, 0, 39), (75, 1, 57), (75, 2, 61)] : zW) xL_1 7 (none) xE_5 (xE_5.drop 22) [.ref 84, .ref 39, .int a2, .null, .null, .null, .null, .null, .null] [] s Q) (h : v_5_22 (fun j => Zt d (wd 39 j) j) 39 R22 a2 s Q) : Zn d [(84, 2), (84, 3), (84, 4), (83, 1), (83, 2)] [(39, 99), (39, 98)] ([(83, 2, 40), (83, 1, 39), (84, 4, 43), (84, 3, 40), (84, 2, 39), (75, 0, 39), (75, 1, 57), (75, 2, 61)] : zW) ([(83, 2, 40), (83, 1, 39), (84, 4, 43), (84, 3, 40), (84, 2, 39), (75, 0, 39), (75, 1, 57), (75, 2, 61)] : zW) xL_1 7 (none) xE_5 (xE_5.drop 22) [.ref 84, .ref 39, .int a2, .null, .null, .null, .null, .null, .null] [] s Q := by
  unfold v_5_22 at h
  refine zn_ld rfl rfl rfl ?_
  refine zn_ld rfl rfl rfl ?_
  refine zn_get (v := .ref 39) rfl (zv_C (a := 84) (n := 4) rfl rfl rfl) ?_
  refine zn_zt [.ref 39] [.int a2] (c := []) rfl rfl rfl rfl rfl (Zt.imp (zp_45 hd (Or.inr rfl)) (fun vq sq hq => ?_))
  obtain ⟨rfl, hq⟩ := hq
  rw [hq]
  change Zn _ _ _ _ _ _ _ _ _ _ _ [.int (s.1 65 2 / 10), .int a2] _ _
  refine zn_brP rfl rfl ⟨fun hcn => ?_, fun hcn => ?_⟩
  · replace h := h.1 ((i_le (x := s.1 65 2 / 10) (y := a2) rfl rfl).mp hcn)
    exact m_5_95_39 hd  h
  · replace h := h.2 (fun q => hcn ((i_le (x := s.1 65 2 / 10) (y := a2) rfl rfl).mpr q))
    refine zn_ld rfl rfl rfl ?_
    refine zn_get (v := .ref 39) rfl (zv_C (a := 84) (n := 4) rfl rfl rfl) ?_
    refine zn_get (v := .int (s.1 39 14)) rfl (zv_I (a := 39) rfl rfl) ?_
    refine zn_brN rfl rfl ⟨fun hcn => ?_, fun hcn => ?_⟩
    · replace h := h.1 (fun q => hcn ((i_eq (x := s.1 39 14) (y := 0) rfl (show (0 : Int32).toInt = 0 by decide)).mpr q))
      exact m_5_95_39 hd  h
    · replace h := h.2 ((i_eq (x := s.1 39 14) (y := 0) rfl (show (0 : Int32).toInt = 0 by decide)).mp hcn)
      refine zn_ld rfl rfl rfl ?_
      refine zn_ld rfl rfl rfl ?_
      refine zn_zt [.ref 84, .int a2] [] rfl rfl rfl rfl rfl (Zt.imp h (fun v1 s2 h => ?_))
      obtain ⟨rfl, h⟩ := h
      change Zn _ _ _ _ _ _ _ _ _ _ _ [] _ _
      refine zn_ld rfl rfl rfl ?_
      refine zn_get (v := .int (s2.1 84 5)) rfl (zv_I (a := 84) rfl rfl) ?_
      refine zn_st [.ref 84, .ref 39, .int a2, .int (s2.1 84 5), .null, .null, .null, .null, .null] rfl rfl rfl ?_
      refine zn_ld rfl rfl rfl ?_
      refine zn_c [.int 1, .ref 84] (xo_push (.int 1)) rfl rfl ?_
      refine zn_zt [.ref 84, .int 1] [] rfl rfl rfl rfl rfl (Zt.imp h (fun v3 s4 h => ?_))
      obtain ⟨x5, rfl, h⟩ := h
      change Zn _ _ _ _ _ _ _ _ _ _ _ [.int x5] _ _
      refine zn_st [.ref 84, .ref 39, .int a2, .int (s2.1 84 5), .int x5, .null, .null, .null, .null] rfl rfl rfl ?_
      refine zn_ld rfl rfl rfl ?_
      refine zn_get (v := .ref 39) rfl (zv_C (a := 84) (n := 4) rfl rfl rfl) ?_
      refine zn_ld rfl rfl rfl ?_
      refine zn_get (v := .ref 75) rfl (zv_R (a := 84) rfl rfl) ?_
      refine zn_get (v := .int (s4.1 75 6)) rfl (zv_I (a := 75) rfl rfl) ?_
      refine zn_c [.int 2, .int (s4.1 75 6), .ref 39] (xo_push (.int 2)) rfl rfl ?_
      refine zn_zt [.ref 39, .int (s4.1 75 6), .int 2] [] (c := []) rfl rfl rfl rfl rfl (Zt.imp (zp_41 hd (Or.inr rfl)) (fun vq sq hq => ?_))
      obtain ⟨rfl, hq⟩ := hq
      rw [hq]
      change Zn _ _ _ _ _ _ _ _ _ _ _ [.int (zg s4 67 ((s4.1 75 6) * 5 + 2))] _ _
      refine zn_ld rfl rfl rfl ?_
      refine zn_get (v := .ref 39) rfl (zv_C (a := 84) (n := 4) rfl rfl rfl) ?_
      refine zn_ld rfl rfl rfl ?_
      refine zn_get (v := .ref 75) rfl (zv_R (a := 84) rfl rfl) ?_
      refine zn_get (v := .int (s4.1 75 6)) rfl (zv_I (a := 75) rfl rfl) ?_
      refine zn_c [.int 3, .int (s4.1 75 6), .ref 39, .int (zg s4 67 ((s4.1 75 6) * 5 + 2))] (xo_push (.int 3)) rfl rfl ?_
      refine zn_zt [.ref 39, .int (s4.1 75 6), .int 3] [.int (zg s4 67 ((s4.1 75 6) * 5 + 2))] (c := []) rfl rfl rfl rfl rfl (Zt.imp (zp_41 hd (Or.inr rfl)) (fun vq sq hq => ?_))
      obtain ⟨rfl, hq⟩ := hq
      rw [hq]
      change Zn _ _ _ _ _ _ _ _ _ _ _ [.int (zg s4 67 ((s4.1 75 6) * 5 + 3)), .int (zg s4 67 ((s4.1 75 6) * 5 + 2))] _ _
      replace h := h _ (i_add (x := zg s4 67 ((s4.1 75 6) * 5 + 2)) (y := zg s4 67 ((s4.1 75 6) * 5 + 3)) rfl rfl)
      refine zn_c [.int ((zg s4 67 ((s4.1 75 6) * 5 + 2)) + (zg s4 67 ((s4.1 75 6) * 5 + 3)))] xo_iadd rfl rfl ?_
      refine zn_st [.ref 84, .ref 39, .int a2, .int (s2.1 84 5), .int x5, .int ((zg s4 67 ((s4.1 75 6) * 5 + 2)) + (zg s4 67 ((s4.1 75 6) * 5 + 3))), .null, .null, .null] rfl rfl rfl ?_
      refine zn_ld rfl rfl rfl ?_
      refine zn_get (v := .ref 39) rfl (zv_C (a := 84) (n := 4) rfl rfl rfl) ?_
      refine zn_ld rfl rfl rfl ?_
      refine zn_ld rfl rfl rfl ?_
      refine zn_get (v := .ref 39) rfl (zv_C (a := 84) (n := 4) rfl rfl rfl) ?_
      refine zn_ld rfl rfl rfl ?_
      refine zn_get (v := .ref 75) rfl (zv_R (a := 84) rfl rfl) ?_
      refine zn_get (v := .int (s4.1 75 6)) rfl (zv_I (a := 75) rfl rfl) ?_
      refine zn_c [.int 4, .int (s4.1 75 6), .ref 39, .int ((zg s4 67 ((s4.1 75 6) * 5 + 2)) + (zg s4 67 ((s4.1 75 6) * 5 + 3))), .ref 39] (xo_push (.int 4)) rfl rfl ?_
      refine zn_zt [.ref 39, .int (s4.1 75 6), .int 4] [.int ((zg s4 67 ((s4.1 75 6) * 5 + 2)) + (zg s4 67 ((s4.1 75 6) * 5 + 3))), .ref 39] (c := []) rfl rfl rfl rfl rfl (Zt.imp (zp_41 hd (Or.inr rfl)) (fun vq sq hq => ?_))
      obtain ⟨rfl, hq⟩ := hq
      rw [hq]
      change Zn _ _ _ _ _ _ _ _ _ _ _ [.int (zg s4 67 ((s4.1 75 6) * 5 + 4)), .int ((zg s4 67 ((s4.1 75 6) * 5 + 2)) + (zg s4 67 ((s4.1 75 6) * 5 + 3))), .ref 39] _ _
      replace h := h _ (i_add (x := ((zg s4 67 ((s4.1 75 6) * 5 + 2)) + (zg s4 67 ((s4.1 75 6) * 5 + 3)))) (y := zg s4 67 ((s4.1 75 6) * 5 + 4)) rfl rfl)
      refine zn_c [.int (((zg s4 67 ((s4.1 75 6) * 5 + 2)) + (zg s4 67 ((s4.1 75 6) * 5 + 3))) + (zg s4 67 ((s4.1 75 6) * 5 + 4))), .ref 39] xo_iadd rfl rfl ?_
      refine zn_c [.int 3, .int (((zg s4 67 ((s4.1 75 6) * 5 + 2)) + (zg s4 67 ((s4.1 75 6) * 5 + 3))) + (zg s4 67 ((s4.1 75 6) * 5 + 4))), .ref 39] (xo_push (.int 3)) rfl rfl ?_
      refine zn_zt [.ref 39, .int (((zg s4 67 ((s4.1 75 6) * 5 + 2)) + (zg s4 67 ((s4.1 75 6) * 5 + 3))) + (zg s4 67 ((s4.1 75 6) * 5 + 4))), .int 3] [] (c := []) rfl rfl rfl rfl rfl (Zt.imp (zp_42 hd (Or.inr rfl)) (fun vq sq hq => ?_))
      obtain ⟨rfl, hq⟩ := hq
      rw [hq]
      change Zn _ _ _ _ _ _ _ _ _ _ _ [.int (zg s4 69 ((((zg s4 67 ((s4.1 75 6) * 5 + 2)) + (zg s4 67 ((s4.1 75 6) * 5 + 3))) + (zg s4 67 ((s4.1 75 6) * 5 + 4))) * 5 + 3))] _ _
      refine zn_st [.ref 84, .ref 39, .int a2, .int (s2.1 84 5), .int x5, .int ((zg s4 67 ((s4.1 75 6) * 5 + 2)) + (zg s4 67 ((s4.1 75 6) * 5 + 3))), .int (zg s4 69 ((((zg s4 67 ((s4.1 75 6) * 5 + 2)) + (zg s4 67 ((s4.1 75 6) * 5 + 3))) + (zg s4 67 ((s4.1 75 6) * 5 + 4))) * 5 + 3)), .null, .null] rfl rfl rfl ?_
      refine zn_ld rfl rfl rfl ?_
      refine zn_get (v := .ref 39) rfl (zv_C (a := 84) (n := 4) rfl rfl rfl) ?_
      refine zn_get (v := .int (s4.1 39 14)) rfl (zv_I (a := 39) rfl rfl) ?_
      refine zn_brN rfl rfl ⟨fun hcn => ?_, fun hcn => ?_⟩
      · replace h := h.1 (fun q => hcn ((i_eq (x := s4.1 39 14) (y := 0) rfl (show (0 : Int32).toInt = 0 by decide)).mpr q))
        exact m_5_84_39 hd r22 h
      · replace h := h.2 ((i_eq (x := s4.1 39 14) (y := 0) rfl (show (0 : Int32).toInt = 0 by decide)).mp hcn)
        refine zn_ld rfl rfl rfl ?_
        refine zn_get (v := .ref 39) rfl (zv_C (a := 84) (n := 4) rfl rfl rfl) ?_
        refine zn_ld rfl rfl rfl ?_
        refine zn_get (v := .ref 75) rfl (zv_R (a := 84) rfl rfl) ?_
        refine zn_ld rfl rfl rfl ?_
        refine zn_ld rfl rfl rfl ?_
        refine zn_zt [.ref 75, .int x5, .int (zg s4 69 ((((zg s4 67 ((s4.1 75 6) * 5 + 2)) + (zg s4 67 ((s4.1 75 6) * 5 + 3))) + (zg s4 67 ((s4.1 75 6) * 5 + 4))) * 5 + 3))] [.ref 39] rfl rfl rfl rfl rfl (Zt.imp h (fun v12 s13 h => ?_))
        obtain ⟨x14, rfl, h⟩ := h
        change Zn _ _ _ _ _ _ _ _ _ _ _ [.int x14, .ref 39] _ _
        refine zn_ld rfl rfl rfl ?_
        refine zn_zt [.ref 39, .int x14, .int (s2.1 84 5)] [] rfl rfl rfl rfl rfl (Zt.imp h (fun v15 s16 h => ?_))
        obtain ⟨rfl, h⟩ := h
        change Zn _ _ _ _ _ _ _ _ _ _ _ [] _ _
        exact m_5_84_39 hd r22 h
theorem ml_5_22_39 {d d0 : Nat} (hd : d = d0 + 8)  {a2 : Int32} {s : zS} {Q : Option Value → zS → Prop}  (h : vl_5_22 (fun j => Zt d (wd 39 j) j) 39  a2 s Q) : Zn d [(84, 2), (84, 3), (84, 4), (83, 1), (83, 2)] [(39, 99), (39, 98)] ([(83, 2, 40), (83, 1, 39), (84, 4, 43), (84, 3, 40), (84, 2, 39), (75, 0, 39), (75, 1, 57), (75, 2, 61)] : zW) ([(83, 2, 40), (83, 1, 39), (84, 4, 43), (84, 3, 40), (84, 2, 39), (75, 0, 39), (75, 1, 57), (75, 2, 61)] : zW) xL_1 7 (none) xE_5 (xE_5.drop 22) [.ref 84, .ref 39, .int a2, .null, .null, .null, .null, .null, .null] [] s Q := by
  obtain ⟨I, μ, h0, h1⟩ := h
  have key : ∀ (n : Nat) (a2 : Int32) (s : zS), μ a2 s = n → I a2 s → Zn d [(84, 2), (84, 3), (84, 4), (83, 1), (83, 2)] [(39, 99), (39, 98)] ([(83, 2, 40), (83, 1, 39), (84, 4, 43), (84, 3, 40), (84, 2, 39), (75, 0, 39), (75, 1, 57), (75, 2, 61)] : zW) ([(83, 2, 40), (83, 1, 39), (84, 4, 43), (84, 3, 40), (84, 2, 39), (75, 0, 39), (75, 1, 57), (75, 2, 61)] : zW) xL_1 7 (none) xE_5 (xE_5.drop 22) [.ref 84, .ref 39, .int a2, .null, .null, .null, .null, .null, .null] [] s Q := by
    intro n
    induction n using Nat.strongRecOn with
    | ind n ih =>
      intro a2 s e hI
      exact m_5_22_39 hd (fun a2' s' q => ih _ (by rw [← e]; exact q.2) a2' s' rfl q.1) (h1 a2 s hI)
  exact key _ a2 s rfl h0
set_option maxRecDepth 20000 in
theorem m_5_0_39 {d d0 : Nat} (hd : d = d0 + 8)   {s : zS} {Q : Option Value → zS → Prop}  (h : v_5_0 (fun j => Zt d (wd 39 j) j) 39   s Q) : Zn d [(84, 2), (84, 3), (84, 4), (83, 1), (83, 2)] [(39, 99), (39, 98)] ([(75, 0, 39), (75, 1, 57), (75, 2, 61)] : zW) ([(83, 2, 40), (83, 1, 39), (84, 4, 43), (84, 3, 40), (84, 2, 39), (75, 0, 39), (75, 1, 57), (75, 2, 61)] : zW) xL_1 7 (none) xE_5 (xE_5.drop 0) [.ref 84, .ref 39, .null, .null, .null, .null, .null, .null, .null] [] s Q := by
  unfold v_5_0 at h
  refine zn_ld rfl rfl rfl ?_
  refine zn_ld rfl rfl rfl ?_
  refine zn_putR (a := 84) (b := 39) rfl rfl rfl rfl rfl rfl rfl rfl rfl ?_
  refine zn_ld rfl rfl rfl ?_
  refine zn_ld rfl rfl rfl ?_
  refine zn_get (v := .ref 39) rfl (zv_C (a := 84) (n := 0) rfl rfl rfl) ?_
  refine zn_get (v := .ref 40) rfl (zv_R (a := 39) rfl rfl) ?_
  refine zn_putR (a := 84) (b := 40) rfl rfl rfl rfl rfl rfl rfl rfl rfl ?_
  refine zn_ld rfl rfl rfl ?_
  refine zn_ld rfl rfl rfl ?_
  refine zn_get (v := .ref 40) rfl (zv_C (a := 84) (n := 0) rfl rfl rfl) ?_
  refine zn_get (v := .ref 43) rfl (zv_R (a := 40) rfl rfl) ?_
  refine zn_putR (a := 84) (b := 43) rfl rfl rfl rfl rfl rfl rfl rfl rfl ?_
  refine zn_ld rfl rfl rfl ?_
  refine zn_get (v := .ref 83) rfl (zv_R (a := 84) rfl rfl) ?_
  refine zn_ld rfl rfl rfl ?_
  refine zn_get (v := .ref 39) rfl (zv_C (a := 84) (n := 2) rfl rfl rfl) ?_
  refine zn_ld rfl rfl rfl ?_
  refine zn_get (v := .ref 40) rfl (zv_C (a := 84) (n := 1) rfl rfl rfl) ?_
  refine zn_zu [.ref 83, .ref 39, .ref 40] [] (c := []) (c' := [(83, 2, 40), (83, 1, 39)]) (w1 := ([(84, 4, 43), (84, 3, 40), (84, 2, 39), (75, 0, 39), (75, 1, 57), (75, 2, 61)] : zW)) rfl rfl rfl rfl rfl rfl rfl (Zu.imp (zp_121 hd (Or.inr rfl)) (fun vq sq hq => ?_))
  obtain ⟨rfl, hq⟩ := hq
  rw [hq]
  change Zn _ _ _ _ _ _ _ _ _ _ _ [] _ _
  refine zn_c [.int 0] (xo_push (.int 0)) rfl rfl ?_
  refine zn_st [.ref 84, .ref 39, .int 0, .null, .null, .null, .null, .null, .null] rfl rfl rfl ?_
  exact ml_5_22_39 hd  h
theorem zq_5_39 {d : Nat}  {s : zS} {Q : Option Value → zS → Prop} (h : v_5_0 (fun j => Zt (d + 8) (wd 39 j) j) 39  s Q) : Zu (d + 9) [(84, 2), (84, 3), (84, 4), (83, 1), (83, 2)] ([(75, 0, 39), (75, 1, 57), (75, 2, 61)] : zW) ([(83, 2, 40), (83, 1, 39), (84, 4, 43), (84, 3, 40), (84, 2, 39), (75, 0, 39), (75, 1, 57), (75, 2, 61)] : zW) 5 [.ref 84, .ref 39] s Q := zu_of (E := xE_5) (L := xL_1) (ml := 7) (ret := none) rfl rfl rfl (m_5_0_39 rfl h)
theorem zc_5 {d P : Nat} (hP : P = 3 ∨ P = 39)  {s : zS} {Q : Option Value → zS → Prop} (h : v_5_0 (fun j => Zt (d + 8) (wd P j) j) P  s Q) : Zu (d + 9) [(84, 2), (84, 3), (84, 4), (83, 1), (83, 2)] [(75, 0, P), (75, 1, P + 18), (75, 2, P + 22)] [(83, 2, P + 1), (83, 1, P), (84, 4, P + 4), (84, 3, P + 1), (84, 2, P), (75, 0, P), (75, 1, P + 18), (75, 2, P + 22)] 5 [.ref 84, .ref P] s Q := by
  rcases hP with rfl | rfl
  · exact zq_5_3 h
  · exact zq_5_39 h
