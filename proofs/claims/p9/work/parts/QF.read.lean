/-! FeatherBench$Reader.read -/
def v_61_46 (T : Nat → List Value → zS → (Option Value → zS → Prop) → Prop) (P : Nat)  (a2 : Int32) (s : zS) (Q : Option Value → zS → Prop) : Prop :=
  T 73 [.ref 82, .int 8] s (fun v1 s2 => v1 = none ∧ ((0 ≤ (s2.1 82 3).toInt ∧ (s2.1 82 3).toInt ≤ 5000) ∧ (∀ s3, s3 = zf s2 P 11 (s2.1 82 3) → T 69 [.ref 82, .int 1, .int 0] s3 (fun v4 s5 => v4 = none ∧ (T 73 [.ref 82, .int 59] s5 (fun v6 s7 => v6 = none ∧ (T 73 [.ref 82, .int 0] s7 (fun v8 s9 => v8 = none ∧ (Q none s9)))))))))
def v_61_44 (T : Nat → List Value → zS → (Option Value → zS → Prop) → Prop) (P : Nat) (R18 : Int32 → zS → Prop) (a2 : Int32) (s : zS) (Q : Option Value → zS → Prop) : Prop :=
  ∀ x1 : Int32, (-2147483648 ≤ a2.toInt + 1 ∧ a2.toInt + 1 ≤ 2147483647 → x1.toInt = a2.toInt + 1) → R18 x1 s
def v_61_18 (T : Nat → List Value → zS → (Option Value → zS → Prop) → Prop) (P : Nat) (R18 : Int32 → zS → Prop) (a2 : Int32) (s : zS) (Q : Option Value → zS → Prop) : Prop :=
  (4000 ≤ a2.toInt → v_61_46 T P  a2 s Q) ∧ (¬ (4000 ≤ a2.toInt) → (¬ ((s.1 P 14).toInt = 0) → v_61_46 T P  a2 s Q) ∧ ((s.1 P 14).toInt = 0 → ((zg s (P + 4) (s.1 82 3)).toInt = 8 → v_61_46 T P  a2 s Q) ∧ (¬ ((zg s (P + 4) (s.1 82 3)).toInt = 8) → (¬ ((zg s (P + 4) (s.1 82 3)).toInt = 6) → T 62 [.ref 82] s (fun v1 s2 => v1 = none ∧ (v_61_44 T P R18 a2 s2 Q))) ∧ ((zg s (P + 4) (s.1 82 3)).toInt = 6 → T 63 [.ref 82] s (fun v3 s4 => v3 = none ∧ (v_61_44 T P R18 a2 s4 Q))))))
def vl_61_18 (T : Nat → List Value → zS → (Option Value → zS → Prop) → Prop) (P : Nat)  (a2 : Int32) (s : zS) (Q : Option Value → zS → Prop) : Prop :=
  ∃ (I : Int32 → zS → Prop) (μ : Int32 → zS → Nat), I a2 s ∧ ∀ (a2 : Int32) (s : zS), I a2 s → v_61_18 T P (fun a2' s' => I a2' s' ∧ μ a2' s' < μ a2 s) a2 s Q
def v_61_0 (T : Nat → List Value → zS → (Option Value → zS → Prop) → Prop) (P : Nat)   (s : zS) (Q : Option Value → zS → Prop) : Prop :=
  ∀ s1, s1 = zf s 82 3 0 → vl_61_18 T P  0 s1 Q
set_option maxRecDepth 20000 in
theorem m_61_46_3 {d d0 : Nat} (hd : d = d0 + 8)  {a2 : Int32} {s : zS} {Q : Option Value → zS → Prop}  (h : v_61_46 (fun j => Zt d (wd 3 j) j) 3  a2 s Q) : Zn d [(82, 0), (82, 1), (82, 2)] [(3, 99), (3, 98)] ([(82, 2, 7), (82, 1, 4), (82, 0, 3)] : zW) ([(82, 2, 7), (82, 1, 4), (82, 0, 3)] : zW) xL_5 3 (none) xE_61 (xE_61.drop 46) [.ref 82, .ref 3, .int a2, .null, .null] [] s Q := by
  unfold v_61_46 at h
  refine zn_ld rfl rfl rfl ?_
  refine zn_c [.int 8, .ref 82] (xo_push (.int 8)) rfl rfl ?_
  refine zn_zt [.ref 82, .int 8] [] rfl rfl rfl rfl rfl (Zt.imp h (fun v1 s2 h => ?_))
  obtain ⟨rfl, h⟩ := h
  change Zn _ _ _ _ _ _ _ _ _ _ _ [] _ _
  refine zn_ld rfl rfl rfl ?_
  refine zn_get (v := .ref 3) rfl (zv_C (a := 82) (n := 2) rfl rfl rfl) ?_
  refine zn_ld rfl rfl rfl ?_
  refine zn_get (v := .int (s2.1 82 3)) rfl (zv_I (a := 82) rfl rfl) ?_
  refine zn_putI (a := 3) rfl rfl rfl rfl h.1 rfl rfl rfl ?_
  replace h := h.2
  replace h := h _ rfl
  refine zn_ld rfl rfl rfl ?_
  refine zn_c [.int 1, .ref 82] (xo_push (.int 1)) rfl rfl ?_
  refine zn_c [.int 0, .int 1, .ref 82] (xo_push (.int 0)) rfl rfl ?_
  refine zn_zt [.ref 82, .int 1, .int 0] [] rfl rfl rfl rfl rfl (Zt.imp h (fun v4 s5 h => ?_))
  obtain ⟨rfl, h⟩ := h
  change Zn _ _ _ _ _ _ _ _ _ _ _ [] _ _
  refine zn_ld rfl rfl rfl ?_
  refine zn_c [.int 59, .ref 82] (xo_push (.int 59)) rfl rfl ?_
  refine zn_zt [.ref 82, .int 59] [] rfl rfl rfl rfl rfl (Zt.imp h (fun v6 s7 h => ?_))
  obtain ⟨rfl, h⟩ := h
  change Zn _ _ _ _ _ _ _ _ _ _ _ [] _ _
  refine zn_ld rfl rfl rfl ?_
  refine zn_c [.int 0, .ref 82] (xo_push (.int 0)) rfl rfl ?_
  refine zn_zt [.ref 82, .int 0] [] rfl rfl rfl rfl rfl (Zt.imp h (fun v8 s9 h => ?_))
  obtain ⟨rfl, h⟩ := h
  change Zn _ _ _ _ _ _ _ _ _ _ _ [] _ _
  exact zn_ret0 rfl h
set_option maxRecDepth 20000 in
theorem m_61_44_3 {d d0 : Nat} (hd : d = d0 + 8) {R18 : Int32 → zS → Prop} {a2 : Int32} {s : zS} {Q : Option Value → zS → Prop} (r18 : ∀ a2 s, R18 a2 s → Zn d [(82, 0), (82, 1), (82, 2)] [(3, 99), (3, 98)] ([(82, 2, 7), (82, 1, 4), (82, 0, 3)] : zW) ([(82, 2, 7), (82, 1, 4), (82, 0, 3)] : zW) xL_5 3 (none) xE_61 (xE_61.drop 18) [.ref 82, .ref 3, .int a2, .null, .null] [] s Q) (h : v_61_44 (fun j => Zt d (wd 3 j) j) 3 R18 a2 s Q) : Zn d [(82, 0), (82, 1), (82, 2)] [(3, 99), (3, 98)] ([(82, 2, 7), (82, 1, 4), (82, 0, 3)] : zW) ([(82, 2, 7), (82, 1, 4), (82, 0, 3)] : zW) xL_5 3 (none) xE_61 (xE_61.drop 44) [.ref 82, .ref 3, .int a2, .null, .null] [] s Q := by
  unfold v_61_44 at h
  replace h := h _ (i_add (x := a2) (y := 1) rfl (show (1 : Int32).toInt = 1 by decide))
  refine zn_inc [.ref 82, .ref 3, .int (a2 + 1), .null, .null] rfl rfl rfl rfl ?_
  refine zn_go rfl ?_
  exact r18 (a2 + 1) s h
set_option maxRecDepth 20000 in
theorem m_61_18_3 {d d0 : Nat} (hd : d = d0 + 8) {R18 : Int32 → zS → Prop} {a2 : Int32} {s : zS} {Q : Option Value → zS → Prop} (r18 : ∀ a2 s, R18 a2 s → Zn d [(82, 0), (82, 1), (82, 2)] [(3, 99), (3, 98)] ([(82, 2, 7), (82, 1, 4), (82, 0, 3)] : zW) ([(82, 2, 7), (82, 1, 4), (82, 0, 3)] : zW) xL_5 3 (none) xE_61 (xE_61.drop 18) [.ref 82, .ref 3, .int a2, .null, .null] [] s Q) (h : v_61_18 (fun j => Zt d (wd 3 j) j) 3 R18 a2 s Q) : Zn d [(82, 0), (82, 1), (82, 2)] [(3, 99), (3, 98)] ([(82, 2, 7), (82, 1, 4), (82, 0, 3)] : zW) ([(82, 2, 7), (82, 1, 4), (82, 0, 3)] : zW) xL_5 3 (none) xE_61 (xE_61.drop 18) [.ref 82, .ref 3, .int a2, .null, .null] [] s Q := by
  unfold v_61_18 at h
  refine zn_ld rfl rfl rfl ?_
  refine zn_c [.int 4000, .int a2] (xo_push (.int 4000)) rfl rfl ?_
  refine zn_brP rfl rfl ⟨fun hcn => ?_, fun hcn => ?_⟩
  · replace h := h.1 ((i_le (x := 4000) (y := a2) (show (4000 : Int32).toInt = 4000 by decide) rfl).mp hcn)
    exact m_61_46_3 hd  h
  · replace h := h.2 (fun q => hcn ((i_le (x := 4000) (y := a2) (show (4000 : Int32).toInt = 4000 by decide) rfl).mpr q))
    refine zn_ld rfl rfl rfl ?_
    refine zn_get (v := .ref 3) rfl (zv_C (a := 82) (n := 2) rfl rfl rfl) ?_
    refine zn_get (v := .int (s.1 3 14)) rfl (zv_I (a := 3) rfl rfl) ?_
    refine zn_brN rfl rfl ⟨fun hcn => ?_, fun hcn => ?_⟩
    · replace h := h.1 (fun q => hcn ((i_eq (x := s.1 3 14) (y := 0) rfl (show (0 : Int32).toInt = 0 by decide)).mpr q))
      exact m_61_46_3 hd  h
    · replace h := h.2 ((i_eq (x := s.1 3 14) (y := 0) rfl (show (0 : Int32).toInt = 0 by decide)).mp hcn)
      refine zn_ld rfl rfl rfl ?_
      refine zn_get (v := .ref 7) rfl (zv_C (a := 82) (n := 0) rfl rfl rfl) ?_
      refine zn_ld rfl rfl rfl ?_
      refine zn_get (v := .int (s.1 82 3)) rfl (zv_I (a := 82) rfl rfl) ?_
      refine zn_row (s.1 82 3) [] (a := 7) hd rfl rfl rfl rfl ?_
      change Zn _ _ _ _ _ _ _ _ _ _ _ [.int (zg s 7 (s.1 82 3))] _ _
      refine zn_c [.int 8, .int (zg s 7 (s.1 82 3))] (xo_push (.int 8)) rfl rfl ?_
      refine zn_brP rfl rfl ⟨fun hcn => ?_, fun hcn => ?_⟩
      · replace h := h.1 ((i_eq (x := zg s 7 (s.1 82 3)) (y := 8) rfl (show (8 : Int32).toInt = 8 by decide)).mp hcn)
        exact m_61_46_3 hd  h
      · replace h := h.2 (fun q => hcn ((i_eq (x := zg s 7 (s.1 82 3)) (y := 8) rfl (show (8 : Int32).toInt = 8 by decide)).mpr q))
        refine zn_ld rfl rfl rfl ?_
        refine zn_get (v := .ref 7) rfl (zv_C (a := 82) (n := 0) rfl rfl rfl) ?_
        refine zn_ld rfl rfl rfl ?_
        refine zn_get (v := .int (s.1 82 3)) rfl (zv_I (a := 82) rfl rfl) ?_
        refine zn_row (s.1 82 3) [] (a := 7) hd rfl rfl rfl rfl ?_
        change Zn _ _ _ _ _ _ _ _ _ _ _ [.int (zg s 7 (s.1 82 3))] _ _
        refine zn_c [.int 6, .int (zg s 7 (s.1 82 3))] (xo_push (.int 6)) rfl rfl ?_
        refine zn_brN rfl rfl ⟨fun hcn => ?_, fun hcn => ?_⟩
        · replace h := h.1 (fun q => hcn ((i_eq (x := zg s 7 (s.1 82 3)) (y := 6) rfl (show (6 : Int32).toInt = 6 by decide)).mpr q))
          refine zn_ld rfl rfl rfl ?_
          refine zn_zt [.ref 82] [] rfl rfl rfl rfl rfl (Zt.imp h (fun v1 s2 h => ?_))
          obtain ⟨rfl, h⟩ := h
          change Zn _ _ _ _ _ _ _ _ _ _ _ [] _ _
          exact m_61_44_3 hd r18 h
        · replace h := h.2 ((i_eq (x := zg s 7 (s.1 82 3)) (y := 6) rfl (show (6 : Int32).toInt = 6 by decide)).mp hcn)
          refine zn_ld rfl rfl rfl ?_
          refine zn_zt [.ref 82] [] rfl rfl rfl rfl rfl (Zt.imp h (fun v3 s4 h => ?_))
          obtain ⟨rfl, h⟩ := h
          change Zn _ _ _ _ _ _ _ _ _ _ _ [] _ _
          refine zn_go rfl ?_
          exact m_61_44_3 hd r18 h
theorem ml_61_18_3 {d d0 : Nat} (hd : d = d0 + 8)  {a2 : Int32} {s : zS} {Q : Option Value → zS → Prop}  (h : vl_61_18 (fun j => Zt d (wd 3 j) j) 3  a2 s Q) : Zn d [(82, 0), (82, 1), (82, 2)] [(3, 99), (3, 98)] ([(82, 2, 7), (82, 1, 4), (82, 0, 3)] : zW) ([(82, 2, 7), (82, 1, 4), (82, 0, 3)] : zW) xL_5 3 (none) xE_61 (xE_61.drop 18) [.ref 82, .ref 3, .int a2, .null, .null] [] s Q := by
  obtain ⟨I, μ, h0, h1⟩ := h
  have key : ∀ (n : Nat) (a2 : Int32) (s : zS), μ a2 s = n → I a2 s → Zn d [(82, 0), (82, 1), (82, 2)] [(3, 99), (3, 98)] ([(82, 2, 7), (82, 1, 4), (82, 0, 3)] : zW) ([(82, 2, 7), (82, 1, 4), (82, 0, 3)] : zW) xL_5 3 (none) xE_61 (xE_61.drop 18) [.ref 82, .ref 3, .int a2, .null, .null] [] s Q := by
    intro n
    induction n using Nat.strongRecOn with
    | ind n ih =>
      intro a2 s e hI
      exact m_61_18_3 hd (fun a2' s' q => ih _ (by rw [← e]; exact q.2) a2' s' rfl q.1) (h1 a2 s hI)
  exact key _ a2 s rfl h0
set_option maxRecDepth 20000 in
theorem m_61_0_3 {d d0 : Nat} (hd : d = d0 + 8)   {s : zS} {Q : Option Value → zS → Prop}  (h : v_61_0 (fun j => Zt d (wd 3 j) j) 3   s Q) : Zn d [(82, 0), (82, 1), (82, 2)] [(3, 99), (3, 98)] ([] : zW) ([(82, 2, 7), (82, 1, 4), (82, 0, 3)] : zW) xL_5 3 (none) xE_61 (xE_61.drop 0) [.ref 82, .ref 3, .null, .null, .null] [] s Q := by
  unfold v_61_0 at h
  refine zn_ld rfl rfl rfl ?_
  refine zn_ld rfl rfl rfl ?_
  refine zn_putR (a := 82) (b := 3) rfl rfl rfl rfl rfl rfl rfl rfl rfl ?_
  refine zn_ld rfl rfl rfl ?_
  refine zn_ld rfl rfl rfl ?_
  refine zn_get (v := .ref 3) rfl (zv_C (a := 82) (n := 0) rfl rfl rfl) ?_
  refine zn_get (v := .ref 4) rfl (zv_R (a := 3) rfl rfl) ?_
  refine zn_putR (a := 82) (b := 4) rfl rfl rfl rfl rfl rfl rfl rfl rfl ?_
  refine zn_ld rfl rfl rfl ?_
  refine zn_ld rfl rfl rfl ?_
  refine zn_get (v := .ref 4) rfl (zv_C (a := 82) (n := 0) rfl rfl rfl) ?_
  refine zn_get (v := .ref 7) rfl (zv_R (a := 4) rfl rfl) ?_
  refine zn_putR (a := 82) (b := 7) rfl rfl rfl rfl rfl rfl rfl rfl rfl ?_
  refine zn_ld rfl rfl rfl ?_
  refine zn_c [.int 0, .ref 82] (xo_push (.int 0)) rfl rfl ?_
  refine zn_putI (a := 82) rfl rfl rfl rfl (by decide) rfl rfl rfl ?_
  replace h := h _ rfl
  refine zn_c [.int 0] (xo_push (.int 0)) rfl rfl ?_
  refine zn_st [.ref 82, .ref 3, .int 0, .null, .null] rfl rfl rfl ?_
  exact ml_61_18_3 hd  h
theorem zq_61_3 {d : Nat}  {s : zS} {Q : Option Value → zS → Prop} (h : v_61_0 (fun j => Zt (d + 8) (wd 3 j) j) 3  s Q) : Zu (d + 9) [(82, 0), (82, 1), (82, 2)] ([] : zW) ([(82, 2, 7), (82, 1, 4), (82, 0, 3)] : zW) 61 [.ref 82, .ref 3] s Q := zu_of (E := xE_61) (L := xL_5) (ml := 3) (ret := none) rfl rfl rfl (m_61_0_3 rfl h)
set_option maxRecDepth 20000 in
theorem m_61_46_39 {d d0 : Nat} (hd : d = d0 + 8)  {a2 : Int32} {s : zS} {Q : Option Value → zS → Prop}  (h : v_61_46 (fun j => Zt d (wd 39 j) j) 39  a2 s Q) : Zn d [(82, 0), (82, 1), (82, 2)] [(39, 99), (39, 98)] ([(82, 2, 43), (82, 1, 40), (82, 0, 39)] : zW) ([(82, 2, 43), (82, 1, 40), (82, 0, 39)] : zW) xL_5 3 (none) xE_61 (xE_61.drop 46) [.ref 82, .ref 39, .int a2, .null, .null] [] s Q := by
  unfold v_61_46 at h
  refine zn_ld rfl rfl rfl ?_
  refine zn_c [.int 8, .ref 82] (xo_push (.int 8)) rfl rfl ?_
  refine zn_zt [.ref 82, .int 8] [] rfl rfl rfl rfl rfl (Zt.imp h (fun v1 s2 h => ?_))
  obtain ⟨rfl, h⟩ := h
  change Zn _ _ _ _ _ _ _ _ _ _ _ [] _ _
  refine zn_ld rfl rfl rfl ?_
  refine zn_get (v := .ref 39) rfl (zv_C (a := 82) (n := 2) rfl rfl rfl) ?_
  refine zn_ld rfl rfl rfl ?_
  refine zn_get (v := .int (s2.1 82 3)) rfl (zv_I (a := 82) rfl rfl) ?_
  refine zn_putI (a := 39) rfl rfl rfl rfl h.1 rfl rfl rfl ?_
  replace h := h.2
  replace h := h _ rfl
  refine zn_ld rfl rfl rfl ?_
  refine zn_c [.int 1, .ref 82] (xo_push (.int 1)) rfl rfl ?_
  refine zn_c [.int 0, .int 1, .ref 82] (xo_push (.int 0)) rfl rfl ?_
  refine zn_zt [.ref 82, .int 1, .int 0] [] rfl rfl rfl rfl rfl (Zt.imp h (fun v4 s5 h => ?_))
  obtain ⟨rfl, h⟩ := h
  change Zn _ _ _ _ _ _ _ _ _ _ _ [] _ _
  refine zn_ld rfl rfl rfl ?_
  refine zn_c [.int 59, .ref 82] (xo_push (.int 59)) rfl rfl ?_
  refine zn_zt [.ref 82, .int 59] [] rfl rfl rfl rfl rfl (Zt.imp h (fun v6 s7 h => ?_))
  obtain ⟨rfl, h⟩ := h
  change Zn _ _ _ _ _ _ _ _ _ _ _ [] _ _
  refine zn_ld rfl rfl rfl ?_
  refine zn_c [.int 0, .ref 82] (xo_push (.int 0)) rfl rfl ?_
  refine zn_zt [.ref 82, .int 0] [] rfl rfl rfl rfl rfl (Zt.imp h (fun v8 s9 h => ?_))
  obtain ⟨rfl, h⟩ := h
  change Zn _ _ _ _ _ _ _ _ _ _ _ [] _ _
  exact zn_ret0 rfl h
set_option maxRecDepth 20000 in
theorem m_61_44_39 {d d0 : Nat} (hd : d = d0 + 8) {R18 : Int32 → zS → Prop} {a2 : Int32} {s : zS} {Q : Option Value → zS → Prop} (r18 : ∀ a2 s, R18 a2 s → Zn d [(82, 0), (82, 1), (82, 2)] [(39, 99), (39, 98)] ([(82, 2, 43), (82, 1, 40), (82, 0, 39)] : zW) ([(82, 2, 43), (82, 1, 40), (82, 0, 39)] : zW) xL_5 3 (none) xE_61 (xE_61.drop 18) [.ref 82, .ref 39, .int a2, .null, .null] [] s Q) (h : v_61_44 (fun j => Zt d (wd 39 j) j) 39 R18 a2 s Q) : Zn d [(82, 0), (82, 1), (82, 2)] [(39, 99), (39, 98)] ([(82, 2, 43), (82, 1, 40), (82, 0, 39)] : zW) ([(82, 2, 43), (82, 1, 40), (82, 0, 39)] : zW) xL_5 3 (none) xE_61 (xE_61.drop 44) [.ref 82, .ref 39, .int a2, .null, .null] [] s Q := by
  unfold v_61_44 at h
  replace h := h _ (i_add (x := a2) (y := 1) rfl (show (1 : Int32).toInt = 1 by decide))
  refine zn_inc [.ref 82, .ref 39, .int (a2 + 1), .null, .null] rfl rfl rfl rfl ?_
  refine zn_go rfl ?_
  exact r18 (a2 + 1) s h
set_option maxRecDepth 20000 in
theorem m_61_18_39 {d d0 : Nat} (hd : d = d0 + 8) {R18 : Int32 → zS → Prop} {a2 : Int32} {s : zS} {Q : Option Value → zS → Prop} (r18 : ∀ a2 s, R18 a2 s → Zn d [(82, 0), (82, 1), (82, 2)] [(39, 99), (39, 98)] ([(82, 2, 43), (82, 1, 40), (82, 0, 39)] : zW) ([(82, 2, 43), (82, 1, 40), (82, 0, 39)] : zW) xL_5 3 (none) xE_61 (xE_61.drop 18) [.ref 82, .ref 39, .int a2, .null, .null] [] s Q) (h : v_61_18 (fun j => Zt d (wd 39 j) j) 39 R18 a2 s Q) : Zn d [(82, 0), (82, 1), (82, 2)] [(39, 99), (39, 98)] ([(82, 2, 43), (82, 1, 40), (82, 0, 39)] : zW) ([(82, 2, 43), (82, 1, 40), (82, 0, 39)] : zW) xL_5 3 (none) xE_61 (xE_61.drop 18) [.ref 82, .ref 39, .int a2, .null, .null] [] s Q := by
  unfold v_61_18 at h
  refine zn_ld rfl rfl rfl ?_
  refine zn_c [.int 4000, .int a2] (xo_push (.int 4000)) rfl rfl ?_
  refine zn_brP rfl rfl ⟨fun hcn => ?_, fun hcn => ?_⟩
  · replace h := h.1 ((i_le (x := 4000) (y := a2) (show (4000 : Int32).toInt = 4000 by decide) rfl).mp hcn)
    exact m_61_46_39 hd  h
  · replace h := h.2 (fun q => hcn ((i_le (x := 4000) (y := a2) (show (4000 : Int32).toInt = 4000 by decide) rfl).mpr q))
    refine zn_ld rfl rfl rfl ?_
    refine zn_get (v := .ref 39) rfl (zv_C (a := 82) (n := 2) rfl rfl rfl) ?_
    refine zn_get (v := .int (s.1 39 14)) rfl (zv_I (a := 39) rfl rfl) ?_
    refine zn_brN rfl rfl ⟨fun hcn => ?_, fun hcn => ?_⟩
    · replace h := h.1 (fun q => hcn ((i_eq (x := s.1 39 14) (y := 0) rfl (show (0 : Int32).toInt = 0 by decide)).mpr q))
      exact m_61_46_39 hd  h
    · replace h := h.2 ((i_eq (x := s.1 39 14) (y := 0) rfl (show (0 : Int32).toInt = 0 by decide)).mp hcn)
      refine zn_ld rfl rfl rfl ?_
      refine zn_get (v := .ref 43) rfl (zv_C (a := 82) (n := 0) rfl rfl rfl) ?_
      refine zn_ld rfl rfl rfl ?_
      refine zn_get (v := .int (s.1 82 3)) rfl (zv_I (a := 82) rfl rfl) ?_
      refine zn_row (s.1 82 3) [] (a := 43) hd rfl rfl rfl rfl ?_
      change Zn _ _ _ _ _ _ _ _ _ _ _ [.int (zg s 43 (s.1 82 3))] _ _
      refine zn_c [.int 8, .int (zg s 43 (s.1 82 3))] (xo_push (.int 8)) rfl rfl ?_
      refine zn_brP rfl rfl ⟨fun hcn => ?_, fun hcn => ?_⟩
      · replace h := h.1 ((i_eq (x := zg s 43 (s.1 82 3)) (y := 8) rfl (show (8 : Int32).toInt = 8 by decide)).mp hcn)
        exact m_61_46_39 hd  h
      · replace h := h.2 (fun q => hcn ((i_eq (x := zg s 43 (s.1 82 3)) (y := 8) rfl (show (8 : Int32).toInt = 8 by decide)).mpr q))
        refine zn_ld rfl rfl rfl ?_
        refine zn_get (v := .ref 43) rfl (zv_C (a := 82) (n := 0) rfl rfl rfl) ?_
        refine zn_ld rfl rfl rfl ?_
        refine zn_get (v := .int (s.1 82 3)) rfl (zv_I (a := 82) rfl rfl) ?_
        refine zn_row (s.1 82 3) [] (a := 43) hd rfl rfl rfl rfl ?_
        change Zn _ _ _ _ _ _ _ _ _ _ _ [.int (zg s 43 (s.1 82 3))] _ _
        refine zn_c [.int 6, .int (zg s 43 (s.1 82 3))] (xo_push (.int 6)) rfl rfl ?_
        refine zn_brN rfl rfl ⟨fun hcn => ?_, fun hcn => ?_⟩
        · replace h := h.1 (fun q => hcn ((i_eq (x := zg s 43 (s.1 82 3)) (y := 6) rfl (show (6 : Int32).toInt = 6 by decide)).mpr q))
          refine zn_ld rfl rfl rfl ?_
          refine zn_zt [.ref 82] [] rfl rfl rfl rfl rfl (Zt.imp h (fun v1 s2 h => ?_))
          obtain ⟨rfl, h⟩ := h
          change Zn _ _ _ _ _ _ _ _ _ _ _ [] _ _
          exact m_61_44_39 hd r18 h
        · replace h := h.2 ((i_eq (x := zg s 43 (s.1 82 3)) (y := 6) rfl (show (6 : Int32).toInt = 6 by decide)).mp hcn)
          refine zn_ld rfl rfl rfl ?_
          refine zn_zt [.ref 82] [] rfl rfl rfl rfl rfl (Zt.imp h (fun v3 s4 h => ?_))
          obtain ⟨rfl, h⟩ := h
          change Zn _ _ _ _ _ _ _ _ _ _ _ [] _ _
          refine zn_go rfl ?_
          exact m_61_44_39 hd r18 h
theorem ml_61_18_39 {d d0 : Nat} (hd : d = d0 + 8)  {a2 : Int32} {s : zS} {Q : Option Value → zS → Prop}  (h : vl_61_18 (fun j => Zt d (wd 39 j) j) 39  a2 s Q) : Zn d [(82, 0), (82, 1), (82, 2)] [(39, 99), (39, 98)] ([(82, 2, 43), (82, 1, 40), (82, 0, 39)] : zW) ([(82, 2, 43), (82, 1, 40), (82, 0, 39)] : zW) xL_5 3 (none) xE_61 (xE_61.drop 18) [.ref 82, .ref 39, .int a2, .null, .null] [] s Q := by
  obtain ⟨I, μ, h0, h1⟩ := h
  have key : ∀ (n : Nat) (a2 : Int32) (s : zS), μ a2 s = n → I a2 s → Zn d [(82, 0), (82, 1), (82, 2)] [(39, 99), (39, 98)] ([(82, 2, 43), (82, 1, 40), (82, 0, 39)] : zW) ([(82, 2, 43), (82, 1, 40), (82, 0, 39)] : zW) xL_5 3 (none) xE_61 (xE_61.drop 18) [.ref 82, .ref 39, .int a2, .null, .null] [] s Q := by
    intro n
    induction n using Nat.strongRecOn with
    | ind n ih =>
      intro a2 s e hI
      exact m_61_18_39 hd (fun a2' s' q => ih _ (by rw [← e]; exact q.2) a2' s' rfl q.1) (h1 a2 s hI)
  exact key _ a2 s rfl h0
set_option maxRecDepth 20000 in
theorem m_61_0_39 {d d0 : Nat} (hd : d = d0 + 8)   {s : zS} {Q : Option Value → zS → Prop}  (h : v_61_0 (fun j => Zt d (wd 39 j) j) 39   s Q) : Zn d [(82, 0), (82, 1), (82, 2)] [(39, 99), (39, 98)] ([] : zW) ([(82, 2, 43), (82, 1, 40), (82, 0, 39)] : zW) xL_5 3 (none) xE_61 (xE_61.drop 0) [.ref 82, .ref 39, .null, .null, .null] [] s Q := by
  unfold v_61_0 at h
  refine zn_ld rfl rfl rfl ?_
  refine zn_ld rfl rfl rfl ?_
  refine zn_putR (a := 82) (b := 39) rfl rfl rfl rfl rfl rfl rfl rfl rfl ?_
  refine zn_ld rfl rfl rfl ?_
  refine zn_ld rfl rfl rfl ?_
  refine zn_get (v := .ref 39) rfl (zv_C (a := 82) (n := 0) rfl rfl rfl) ?_
  refine zn_get (v := .ref 40) rfl (zv_R (a := 39) rfl rfl) ?_
  refine zn_putR (a := 82) (b := 40) rfl rfl rfl rfl rfl rfl rfl rfl rfl ?_
  refine zn_ld rfl rfl rfl ?_
  refine zn_ld rfl rfl rfl ?_
  refine zn_get (v := .ref 40) rfl (zv_C (a := 82) (n := 0) rfl rfl rfl) ?_
  refine zn_get (v := .ref 43) rfl (zv_R (a := 40) rfl rfl) ?_
  refine zn_putR (a := 82) (b := 43) rfl rfl rfl rfl rfl rfl rfl rfl rfl ?_
  refine zn_ld rfl rfl rfl ?_
  refine zn_c [.int 0, .ref 82] (xo_push (.int 0)) rfl rfl ?_
  refine zn_putI (a := 82) rfl rfl rfl rfl (by decide) rfl rfl rfl ?_
  replace h := h _ rfl
  refine zn_c [.int 0] (xo_push (.int 0)) rfl rfl ?_
  refine zn_st [.ref 82, .ref 39, .int 0, .null, .null] rfl rfl rfl ?_
  exact ml_61_18_39 hd  h
theorem zq_61_39 {d : Nat}  {s : zS} {Q : Option Value → zS → Prop} (h : v_61_0 (fun j => Zt (d + 8) (wd 39 j) j) 39  s Q) : Zu (d + 9) [(82, 0), (82, 1), (82, 2)] ([] : zW) ([(82, 2, 43), (82, 1, 40), (82, 0, 39)] : zW) 61 [.ref 82, .ref 39] s Q := zu_of (E := xE_61) (L := xL_5) (ml := 3) (ret := none) rfl rfl rfl (m_61_0_39 rfl h)
theorem zc_61 {d P : Nat} (hP : P = 3 ∨ P = 39)  {s : zS} {Q : Option Value → zS → Prop} (h : v_61_0 (fun j => Zt (d + 8) (wd P j) j) P  s Q) : Zu (d + 9) [(82, 0), (82, 1), (82, 2)] [] [(82, 2, P + 4), (82, 1, P + 1), (82, 0, P)] 61 [.ref 82, .ref P] s Q := by
  rcases hP with rfl | rfl
  · exact zq_61_3 h
  · exact zq_61_39 h
/-! FeatherBench$Shapes.use -/
def v_81_0 (T : Nat → List Value → zS → (Option Value → zS → Prop) → Prop) (P : Nat)  (a2 : Int32) (s : zS) (Q : Option Value → zS → Prop) : Prop :=
  ∀ s1, s1 = zf s 75 3 a2 → T 82 [.ref 75, .int (-1), .int (-1), .int (-1)] s1 (fun v2 s3 => v2 = none ∧ (Q none s3))
set_option maxRecDepth 20000 in
theorem m_81_0_3 {d d0 : Nat} (hd : d = d0 + 8)  {a2 : Int32} {s : zS} {Q : Option Value → zS → Prop}  (h : v_81_0 (fun j => Zt d (wd 3 j) j) 3  a2 s Q) : Zn d [(75, 0), (75, 1), (75, 2)] [] ([] : zW) ([(75, 2, 25), (75, 1, 21), (75, 0, 3)] : zW) xL_7 3 (none) xE_81 (xE_81.drop 0) [.ref 75, .ref 3, .int a2, .null, .null, .null] [] s Q := by
  unfold v_81_0 at h
  refine zn_ld rfl rfl rfl ?_
  refine zn_ld rfl rfl rfl ?_
  refine zn_putR (a := 75) (b := 3) rfl rfl rfl rfl rfl rfl rfl rfl rfl ?_
  refine zn_ld rfl rfl rfl ?_
  refine zn_ld rfl rfl rfl ?_
  refine zn_get (v := .ref 3) rfl (zv_C (a := 75) (n := 0) rfl rfl rfl) ?_
  refine zn_get (v := .ref 21) rfl (zv_R (a := 3) rfl rfl) ?_
  refine zn_putR (a := 75) (b := 21) rfl rfl rfl rfl rfl rfl rfl rfl rfl ?_
  refine zn_ld rfl rfl rfl ?_
  refine zn_ld rfl rfl rfl ?_
  refine zn_get (v := .ref 3) rfl (zv_C (a := 75) (n := 1) rfl rfl rfl) ?_
  refine zn_get (v := .ref 25) rfl (zv_R (a := 3) rfl rfl) ?_
  refine zn_putR (a := 75) (b := 25) rfl rfl rfl rfl rfl rfl rfl rfl rfl ?_
  refine zn_ld rfl rfl rfl ?_
  refine zn_ld rfl rfl rfl ?_
  refine zn_putI (a := 75) rfl rfl rfl rfl ⟨Int32.le_toInt _, Int.le_of_lt_add_one (Int32.toInt_lt _)⟩ rfl rfl rfl ?_
  replace h := h _ rfl
  refine zn_ld rfl rfl rfl ?_
  refine zn_c [.int (-1), .ref 75] (xo_push (.int (-1))) rfl rfl ?_
  refine zn_c [.int (-1), .int (-1), .ref 75] (xo_push (.int (-1))) rfl rfl ?_
  refine zn_c [.int (-1), .int (-1), .int (-1), .ref 75] (xo_push (.int (-1))) rfl rfl ?_
  refine zn_zt [.ref 75, .int (-1), .int (-1), .int (-1)] [] rfl rfl rfl rfl rfl (Zt.imp h (fun v2 s3 h => ?_))
  obtain ⟨rfl, h⟩ := h
  change Zn _ _ _ _ _ _ _ _ _ _ _ [] _ _
  exact zn_ret0 rfl h
theorem zq_81_3 {d : Nat} {a2 : Int32} {s : zS} {Q : Option Value → zS → Prop} (h : v_81_0 (fun j => Zt (d + 8) (wd 3 j) j) 3 a2 s Q) : Zu (d + 9) [(75, 0), (75, 1), (75, 2)] ([] : zW) ([(75, 2, 25), (75, 1, 21), (75, 0, 3)] : zW) 81 [.ref 75, .ref 3, .int a2] s Q := zu_of (E := xE_81) (L := xL_7) (ml := 3) (ret := none) rfl rfl rfl (m_81_0_3 rfl h)
set_option maxRecDepth 20000 in
theorem m_81_0_39 {d d0 : Nat} (hd : d = d0 + 8)  {a2 : Int32} {s : zS} {Q : Option Value → zS → Prop}  (h : v_81_0 (fun j => Zt d (wd 39 j) j) 39  a2 s Q) : Zn d [(75, 0), (75, 1), (75, 2)] [] ([] : zW) ([(75, 2, 61), (75, 1, 57), (75, 0, 39)] : zW) xL_7 3 (none) xE_81 (xE_81.drop 0) [.ref 75, .ref 39, .int a2, .null, .null, .null] [] s Q := by
  unfold v_81_0 at h
  refine zn_ld rfl rfl rfl ?_
  refine zn_ld rfl rfl rfl ?_
  refine zn_putR (a := 75) (b := 39) rfl rfl rfl rfl rfl rfl rfl rfl rfl ?_
  refine zn_ld rfl rfl rfl ?_
  refine zn_ld rfl rfl rfl ?_
  refine zn_get (v := .ref 39) rfl (zv_C (a := 75) (n := 0) rfl rfl rfl) ?_
  refine zn_get (v := .ref 57) rfl (zv_R (a := 39) rfl rfl) ?_
  refine zn_putR (a := 75) (b := 57) rfl rfl rfl rfl rfl rfl rfl rfl rfl ?_
  refine zn_ld rfl rfl rfl ?_
  refine zn_ld rfl rfl rfl ?_
  refine zn_get (v := .ref 39) rfl (zv_C (a := 75) (n := 1) rfl rfl rfl) ?_
  refine zn_get (v := .ref 61) rfl (zv_R (a := 39) rfl rfl) ?_
  refine zn_putR (a := 75) (b := 61) rfl rfl rfl rfl rfl rfl rfl rfl rfl ?_
  refine zn_ld rfl rfl rfl ?_
  refine zn_ld rfl rfl rfl ?_
  refine zn_putI (a := 75) rfl rfl rfl rfl ⟨Int32.le_toInt _, Int.le_of_lt_add_one (Int32.toInt_lt _)⟩ rfl rfl rfl ?_
  replace h := h _ rfl
  refine zn_ld rfl rfl rfl ?_
  refine zn_c [.int (-1), .ref 75] (xo_push (.int (-1))) rfl rfl ?_
  refine zn_c [.int (-1), .int (-1), .ref 75] (xo_push (.int (-1))) rfl rfl ?_
  refine zn_c [.int (-1), .int (-1), .int (-1), .ref 75] (xo_push (.int (-1))) rfl rfl ?_
  refine zn_zt [.ref 75, .int (-1), .int (-1), .int (-1)] [] rfl rfl rfl rfl rfl (Zt.imp h (fun v2 s3 h => ?_))
  obtain ⟨rfl, h⟩ := h
  change Zn _ _ _ _ _ _ _ _ _ _ _ [] _ _
  exact zn_ret0 rfl h
theorem zq_81_39 {d : Nat} {a2 : Int32} {s : zS} {Q : Option Value → zS → Prop} (h : v_81_0 (fun j => Zt (d + 8) (wd 39 j) j) 39 a2 s Q) : Zu (d + 9) [(75, 0), (75, 1), (75, 2)] ([] : zW) ([(75, 2, 61), (75, 1, 57), (75, 0, 39)] : zW) 81 [.ref 75, .ref 39, .int a2] s Q := zu_of (E := xE_81) (L := xL_7) (ml := 3) (ret := none) rfl rfl rfl (m_81_0_39 rfl h)
theorem zc_81 {d P : Nat} (hP : P = 3 ∨ P = 39) {a2 : Int32} {s : zS} {Q : Option Value → zS → Prop} (h : v_81_0 (fun j => Zt (d + 8) (wd P j) j) P a2 s Q) : Zu (d + 9) [(75, 0), (75, 1), (75, 2)] [] [(75, 2, P + 22), (75, 1, P + 18), (75, 0, P)] 81 [.ref 75, .ref P, .int a2] s Q := by
  rcases hP with rfl | rfl
  · exact zq_81_3 h
  · exact zq_81_39 h
