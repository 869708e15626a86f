/-! FeatherBench$Told.twiceInSlots -/
def v_123_71 (T : Nat → List Value → zS → (Option Value → zS → Prop) → Prop) (P : Nat) (R18 : Int32 → Int32 → Int32 → Int32 → zS → Prop) (a1 : Int32) (a2 : Int32) (a3 : Int32) (a4 : Int32) (a5 : Int32) (a6 : Int32) (a7 : Int32) (s : zS) (Q : Option Value → zS → Prop) : Prop :=
  ∀ x1 : Int32, (-2147483648 ≤ a4.toInt + 1 ∧ a4.toInt + 1 ≤ 2147483647 → x1.toInt = a4.toInt + 1) → R18 a1 a2 a3 x1 s
def v_123_69 (T : Nat → List Value → zS → (Option Value → zS → Prop) → Prop) (P : Nat) (R18 : Int32 → Int32 → Int32 → Int32 → zS → Prop) (R48 : Int32 → Int32 → Int32 → Int32 → Int32 → Int32 → Int32 → zS → Prop) (a1 : Int32) (a2 : Int32) (a3 : Int32) (a4 : Int32) (a5 : Int32) (a6 : Int32) (a7 : Int32) (s : zS) (Q : Option Value → zS → Prop) : Prop :=
  ∀ x1 : Int32, (-2147483648 ≤ a7.toInt + 1 ∧ a7.toInt + 1 ≤ 2147483647 → x1.toInt = a7.toInt + 1) → R48 a1 a2 a3 a4 a5 a6 x1 s
def v_123_48 (T : Nat → List Value → zS → (Option Value → zS → Prop) → Prop) (P : Nat) (R18 : Int32 → Int32 → Int32 → Int32 → zS → Prop) (R48 : Int32 → Int32 → Int32 → Int32 → Int32 → Int32 → Int32 → zS → Prop) (a1 : Int32) (a2 : Int32) (a3 : Int32) (a4 : Int32) (a5 : Int32) (a6 : Int32) (a7 : Int32) (s : zS) (Q : Option Value → zS → Prop) : Prop :=
  (a4.toInt ≤ a7.toInt → v_123_71 T P R18 a1 a2 a3 a4 a5 a6 a7 s Q) ∧ (¬ (a4.toInt ≤ a7.toInt) → (a6.toInt = 0 → v_123_71 T P R18 a1 a2 a3 a4 a5 a6 a7 s Q) ∧ (¬ (a6.toInt = 0) → T 124 [.ref 83, .int a7, .int a4] s (fun v1 s2 => ∃ x3, v1 = some (.int x3) ∧ ((x3.toInt = 0 → v_123_69 T P R18 R48 a1 a2 a3 a4 a5 a6 a7 s2 Q) ∧ (¬ (x3.toInt = 0) → T 125 [.ref 83, .int (zg s2 (P + 30) (a7 * 5 + 0)), .int a5] s2 (fun v5 s6 => ∃ x7, v5 = some (.int x7) ∧ ((x7.toInt = 0 → v_123_69 T P R18 R48 a1 a2 a3 a4 a5 a6 a7 s6 Q) ∧ (¬ (x7.toInt = 0) → Q (some (.int a5)) s6))))))))
def vl_123_48 (T : Nat → List Value → zS → (Option Value → zS → Prop) → Prop) (P : Nat) (R18 : Int32 → Int32 → Int32 → Int32 → zS → Prop) (a1 : Int32) (a2 : Int32) (a3 : Int32) (a4 : Int32) (a5 : Int32) (a6 : Int32) (a7 : Int32) (s : zS) (Q : Option Value → zS → Prop) : Prop :=
  ∃ (I : Int32 → Int32 → Int32 → Int32 → Int32 → Int32 → Int32 → zS → Prop) (μ : Int32 → Int32 → Int32 → Int32 → Int32 → Int32 → Int32 → zS → Nat), I a1 a2 a3 a4 a5 a6 a7 s ∧ ∀ (a1 : Int32) (a2 : Int32) (a3 : Int32) (a4 : Int32) (a5 : Int32) (a6 : Int32) (a7 : Int32) (s : zS), I a1 a2 a3 a4 a5 a6 a7 s → v_123_48 T P R18 (fun a1' a2' a3' a4' a5' a6' a7' s' => I a1' a2' a3' a4' a5' a6' a7' s' ∧ μ a1' a2' a3' a4' a5' a6' a7' s' < μ a1 a2 a3 a4 a5 a6 a7 s) a1 a2 a3 a4 a5 a6 a7 s Q
def v_123_45 (T : Nat → List Value → zS → (Option Value → zS → Prop) → Prop) (P : Nat) (R18 : Int32 → Int32 → Int32 → Int32 → zS → Prop) (a1 : Int32) (a2 : Int32) (a3 : Int32) (a4 : Int32) (a5 : Int32) (t0 : Int32) (s : zS) (Q : Option Value → zS → Prop) : Prop :=
  vl_123_48 T P R18 a1 a2 a3 a4 a5 t0 a3 s Q
def v_123_44 (T : Nat → List Value → zS → (Option Value → zS → Prop) → Prop) (P : Nat) (R18 : Int32 → Int32 → Int32 → Int32 → zS → Prop) (a1 : Int32) (a2 : Int32) (a3 : Int32) (a4 : Int32) (a5 : Int32) (s : zS) (Q : Option Value → zS → Prop) : Prop :=
  v_123_45 T P R18 a1 a2 a3 a4 a5 0 s Q
def v_123_42 (T : Nat → List Value → zS → (Option Value → zS → Prop) → Prop) (P : Nat) (R18 : Int32 → Int32 → Int32 → Int32 → zS → Prop) (a1 : Int32) (a2 : Int32) (a3 : Int32) (a4 : Int32) (a5 : Int32) (s : zS) (Q : Option Value → zS → Prop) : Prop :=
  v_123_45 T P R18 a1 a2 a3 a4 a5 1 s Q
def v_123_18 (T : Nat → List Value → zS → (Option Value → zS → Prop) → Prop) (P : Nat) (R18 : Int32 → Int32 → Int32 → Int32 → zS → Prop) (a1 : Int32) (a2 : Int32) (a3 : Int32) (a4 : Int32) (s : zS) (Q : Option Value → zS → Prop) : Prop :=
  ((zg s (P + 32) (a1 * 3 + 2)).toInt ≤ a4.toInt → Q (some (.int 1000000)) s) ∧ (¬ ((zg s (P + 32) (a1 * 3 + 2)).toInt ≤ a4.toInt) → ((zg s (P + 30) (a4 * 5 + 0)).toInt < 0 → v_123_44 T P R18 a1 a2 a3 a4 (zg s (P + 30) (a4 * 5 + 0)) s Q) ∧ (¬ ((zg s (P + 30) (a4 * 5 + 0)).toInt < 0) → (¬ (a2.toInt = 0) → v_123_42 T P R18 a1 a2 a3 a4 (zg s (P + 30) (a4 * 5 + 0)) s Q) ∧ (a2.toInt = 0 → ((zg s (P + 30) (a4 * 5 + 1)).toInt = 3 → v_123_44 T P R18 a1 a2 a3 a4 (zg s (P + 30) (a4 * 5 + 0)) s Q) ∧ (¬ ((zg s (P + 30) (a4 * 5 + 1)).toInt = 3) → v_123_42 T P R18 a1 a2 a3 a4 (zg s (P + 30) (a4 * 5 + 0)) s Q))))
def vl_123_18 (T : Nat → List Value → zS → (Option Value → zS → Prop) → Prop) (P : Nat)  (a1 : Int32) (a2 : Int32) (a3 : Int32) (a4 : Int32) (s : zS) (Q : Option Value → zS → Prop) : Prop :=
  ∃ (I : Int32 → Int32 → Int32 → Int32 → zS → Prop) (μ : Int32 → Int32 → Int32 → Int32 → zS → Nat), I a1 a2 a3 a4 s ∧ ∀ (a1 : Int32) (a2 : Int32) (a3 : Int32) (a4 : Int32) (s : zS), I a1 a2 a3 a4 s → v_123_18 T P (fun a1' a2' a3' a4' s' => I a1' a2' a3' a4' s' ∧ μ a1' a2' a3' a4' s' < μ a1 a2 a3 a4 s) a1 a2 a3 a4 s Q
def v_123_9 (T : Nat → List Value → zS → (Option Value → zS → Prop) → Prop) (P : Nat)  (a1 : Int32) (t0 : Int32) (s : zS) (Q : Option Value → zS → Prop) : Prop :=
  vl_123_18 T P  a1 t0 (zg s (P + 32) (a1 * 3 + 1)) (zg s (P + 32) (a1 * 3 + 1)) s Q
def v_123_0 (T : Nat → List Value → zS → (Option Value → zS → Prop) → Prop) (P : Nat)  (a1 : Int32) (s : zS) (Q : Option Value → zS → Prop) : Prop :=
  (0 ≤ (zg s (P + 32) (a1 * 3 + 0)).toInt → v_123_9 T P  a1 0 s Q) ∧ (¬ (0 ≤ (zg s (P + 32) (a1 * 3 + 0)).toInt) → v_123_9 T P  a1 1 s Q)
set_option maxRecDepth 20000 in
theorem m_123_71_3 {d d0 : Nat} (hd : d = d0 + 8) {R18 : Int32 → Int32 → Int32 → Int32 → zS → Prop} {a1 : Int32} {a2 : Int32} {a3 : Int32} {a4 : Int32} {a5 : Int32} {a6 : Int32} {a7 : Int32} {s : zS} {Q : Option Value → zS → Prop} (r18 : ∀ a1 a2 a3 a4 s, R18 a1 a2 a3 a4 s → Zn d [] [] ([(83, 1, 3), (83, 2, 4), (75, 0, 3), (75, 1, 21), (75, 2, 25)] : zW) ([(83, 1, 3), (83, 2, 4), (75, 0, 3), (75, 1, 21), (75, 2, 25)] : zW) xL_10 8 (some .int) xE_123 (xE_123.drop 18) [.ref 83, .int a1, .int a2, .int a3, .int a4, .null, .null, .null, .null, .null] [] s Q) (h : v_123_71 (fun j => Zt d (wd 3 j) j) 3 R18 a1 a2 a3 a4 a5 a6 a7 s Q) : Zn d [] [] ([(83, 1, 3), (83, 2, 4), (75, 0, 3), (75, 1, 21), (75, 2, 25)] : zW) ([(83, 1, 3), (83, 2, 4), (75, 0, 3), (75, 1, 21), (75, 2, 25)] : zW) xL_10 8 (some .int) xE_123 (xE_123.drop 71) [.ref 83, .int a1, .int a2, .int a3, .int a4, .int a5, .int a6, .int a7, .null, .null] [] s Q := by
  unfold v_123_71 at h
  replace h := h _ (i_add (x := a4) (y := 1) rfl (show (1 : Int32).toInt = 1 by decide))
  refine zn_inc [.ref 83, .int a1, .int a2, .int a3, .int (a4 + 1), .int a5, .int a6, .int a7, .null, .null] rfl rfl rfl rfl ?_
  refine zn_go rfl ?_
  refine zn_fg 5 ?_
  refine zn_fg 6 ?_
  refine zn_fg 7 ?_
  exact r18 a1 a2 a3 (a4 + 1) s h
set_option maxRecDepth 20000 in
theorem m_123_69_3 {d d0 : Nat} (hd : d = d0 + 8) {R18 : Int32 → Int32 → Int32 → Int32 → zS → Prop} {R48 : Int32 → Int32 → Int32 → Int32 → Int32 → Int32 → Int32 → zS → Prop} {a1 : Int32} {a2 : Int32} {a3 : Int32} {a4 : Int32} {a5 : Int32} {a6 : Int32} {a7 : Int32} {s : zS} {Q : Option Value → zS → Prop} (r18 : ∀ a1 a2 a3 a4 s, R18 a1 a2 a3 a4 s → Zn d [] [] ([(83, 1, 3), (83, 2, 4), (75, 0, 3), (75, 1, 21), (75, 2, 25)] : zW) ([(83, 1, 3), (83, 2, 4), (75, 0, 3), (75, 1, 21), (75, 2, 25)] : zW) xL_10 8 (some .int) xE_123 (xE_123.drop 18) [.ref 83, .int a1, .int a2, .int a3, .int a4, .null, .null, .null, .null, .null] [] s Q) (r48 : ∀ a1 a2 a3 a4 a5 a6 a7 s, R48 a1 a2 a3 a4 a5 a6 a7 s → Zn d [] [] ([(83, 1, 3), (83, 2, 4), (75, 0, 3), (75, 1, 21), (75, 2, 25)] : zW) ([(83, 1, 3), (83, 2, 4), (75, 0, 3), (75, 1, 21), (75, 2, 25)] : zW) xL_10 8 (some .int) xE_123 (xE_123.drop 48) [.ref 83, .int a1, .int a2, .int a3, .int a4, .int a5, .int a6, .int a7, .null, .null] [] s Q) (h : v_123_69 (fun j => Zt d (wd 3 j) j) 3 R18 R48 a1 a2 a3 a4 a5 a6 a7 s Q) : Zn d [] [] ([(83, 1, 3), (83, 2, 4), (75, 0, 3), (75, 1, 21), (75, 2, 25)] : zW) ([(83, 1, 3), (83, 2, 4), (75, 0, 3), (75, 1, 21), (75, 2, 25)] : zW) xL_10 8 (some .int) xE_123 (xE_123.drop 69) [.ref 83, .int a1, .int a2, .int a3, .int a4, .int a5, .int a6, .int a7, .null, .null] [] s Q := by
  unfold v_123_69 at h
  replace h := h _ (i_add (x := a7) (y := 1) rfl (show (1 : Int32).toInt = 1 by decide))
  refine zn_inc [.ref 83, .int a1, .int a2, .int a3, .int a4, .int a5, .int a6, .int (a7 + 1), .null, .null] rfl rfl rfl rfl ?_
  refine zn_go rfl ?_
  exact r48 a1 a2 a3 a4 a5 a6 (a7 + 1) s h
set_option maxRecDepth 20000 in
theorem m_123_48_3 {d d0 : Nat} (hd : d = d0 + 8) {R18 : Int32 → Int32 → Int32 → Int32 → zS → Prop} {R48 : Int32 → Int32 → Int32 → Int32 → Int32 → Int32 → Int32 → zS → Prop} {a1 : Int32} {a2 : Int32} {a3 : Int32} {a4 : Int32} {a5 : Int32} {a6 : Int32} {a7 : Int32} {s : zS} {Q : Option Value → zS → Prop} (r18 : ∀ a1 a2 a3 a4 s, R18 a1 a2 a3 a4 s → Zn d [] [] ([(83, 1, 3), (83, 2, 4), (75, 0, 3), (75, 1, 21), (75, 2, 25)] : zW) ([(83, 1, 3), (83, 2, 4), (75, 0, 3), (75, 1, 21), (75, 2, 25)] : zW) xL_10 8 (some .int) xE_123 (xE_123.drop 18) [.ref 83, .int a1, .int a2, .int a3, .int a4, .null, .null, .null, .null, .null] [] s Q) (r48 : ∀ a1 a2 a3 a4 a5 a6 a7 s, R48 a1 a2 a3 a4 a5 a6 a7 s → Zn d [] [] ([(83, 1, 3), (83, 2, 4), (75, 0, 3), (75, 1, 21), (75, 2, 25)] : zW) ([(83, 1, 3), (83, 2, 4), (75, 0, 3), (75, 1, 21), (75, 2, 25)] : zW) xL_10 8 (some .int) xE_123 (xE_123.drop 48) [.ref 83, .int a1, .int a2, .int a3, .int a4, .int a5, .int a6, .int a7, .null, .null] [] s Q) (h : v_123_48 (fun j => Zt d (wd 3 j) j) 3 R18 R48 a1 a2 a3 a4 a5 a6 a7 s Q) : Zn d [] [] ([(83, 1, 3), (83, 2, 4), (75, 0, 3), (75, 1, 21), (75, 2, 25)] : zW) ([(83, 1, 3), (83, 2, 4), (75, 0, 3), (75, 1, 21), (75, 2, 25)] : zW) xL_10 8 (some .int) xE_123 (xE_123.drop 48) [.ref 83, .int a1, .int a2, .int a3, .int a4, .int a5, .int a6, .int a7, .null, .null] [] s Q := by
  unfold v_123_48 at h
  refine zn_ld rfl rfl rfl ?_
  refine zn_ld rfl rfl rfl ?_
  refine zn_brP rfl rfl ⟨fun hcn => ?_, fun hcn => ?_⟩
  · replace h := h.1 ((i_le (x := a4) (y := a7) rfl rfl).mp hcn)
    exact m_123_71_3 hd r18 h
  · replace h := h.2 (fun q => hcn ((i_le (x := a4) (y := a7) rfl rfl).mpr q))
    refine zn_ld rfl rfl rfl ?_
    refine zn_brP rfl rfl ⟨fun hcn => ?_, fun hcn => ?_⟩
    · replace h := h.1 ((i_eq (x := a6) (y := 0) rfl (show (0 : Int32).toInt = 0 by decide)).mp hcn)
      exact m_123_71_3 hd r18 h
    · replace h := h.2 (fun q => hcn ((i_eq (x := a6) (y := 0) rfl (show (0 : Int32).toInt = 0 by decide)).mpr q))
      refine zn_ld rfl rfl rfl ?_
      refine zn_ld rfl rfl rfl ?_
      refine zn_ld rfl rfl rfl ?_
      refine zn_zt [.ref 83, .int a7, .int a4] [] rfl rfl rfl rfl rfl (Zt.imp h (fun v1 s2 h => ?_))
      obtain ⟨x3, rfl, h⟩ := h
      change Zn _ _ _ _ _ _ _ _ _ _ _ [.int x3] _ _
      refine zn_brP rfl rfl ⟨fun hcn => ?_, fun hcn => ?_⟩
      · replace h := h.1 ((i_eq (x := x3) (y := 0) rfl (show (0 : Int32).toInt = 0 by decide)).mp hcn)
        exact m_123_69_3 hd r18 r48 h
      · replace h := h.2 (fun q => hcn ((i_eq (x := x3) (y := 0) rfl (show (0 : Int32).toInt = 0 by decide)).mpr q))
        refine zn_ld rfl rfl rfl ?_
        refine zn_ld rfl rfl rfl ?_
        refine zn_get (v := .ref 3) rfl (zv_C (a := 83) (n := 0) rfl rfl rfl) ?_
        refine zn_ld rfl rfl rfl ?_
        refine zn_c [.int 0, .int a7, .ref 3, .ref 83] (xo_push (.int 0)) rfl rfl ?_
        refine zn_zt [.ref 3, .int a7, .int 0] [.ref 83] (c := []) rfl rfl rfl rfl rfl (Zt.imp (zp_42 hd (Or.inl rfl)) (fun vq sq hq => ?_))
        obtain ⟨rfl, hq⟩ := hq
        rw [hq]
        change Zn _ _ _ _ _ _ _ _ _ _ _ [.int (zg s2 33 (a7 * 5 + 0)), .ref 83] _ _
        refine zn_ld rfl rfl rfl ?_
        refine zn_zt [.ref 83, .int (zg s2 33 (a7 * 5 + 0)), .int a5] [] rfl rfl rfl rfl rfl (Zt.imp h (fun v5 s6 h => ?_))
        obtain ⟨x7, rfl, h⟩ := h
        change Zn _ _ _ _ _ _ _ _ _ _ _ [.int x7] _ _
        refine zn_brP rfl rfl ⟨fun hcn => ?_, fun hcn => ?_⟩
        · replace h := h.1 ((i_eq (x := x7) (y := 0) rfl (show (0 : Int32).toInt = 0 by decide)).mp hcn)
          exact m_123_69_3 hd r18 r48 h
        · replace h := h.2 (fun q => hcn ((i_eq (x := x7) (y := 0) rfl (show (0 : Int32).toInt = 0 by decide)).mpr q))
          refine zn_ld rfl rfl rfl ?_
          exact zn_retI rfl h
theorem ml_123_48_3 {d d0 : Nat} (hd : d = d0 + 8) {R18 : Int32 → Int32 → Int32 → Int32 → zS → Prop} {a1 : Int32} {a2 : Int32} {a3 : Int32} {a4 : Int32} {a5 : Int32} {a6 : Int32} {a7 : Int32} {s : zS} {Q : Option Value → zS → Prop} (r18 : ∀ a1 a2 a3 a4 s, R18 a1 a2 a3 a4 s → Zn d [] [] ([(83, 1, 3), (83, 2, 4), (75, 0, 3), (75, 1, 21), (75, 2, 25)] : zW) ([(83, 1, 3), (83, 2, 4), (75, 0, 3), (75, 1, 21), (75, 2, 25)] : zW) xL_10 8 (some .int) xE_123 (xE_123.drop 18) [.ref 83, .int a1, .int a2, .int a3, .int a4, .null, .null, .null, .null, .null] [] s Q) (h : vl_123_48 (fun j => Zt d (wd 3 j) j) 3 R18 a1 a2 a3 a4 a5 a6 a7 s Q) : Zn d [] [] ([(83, 1, 3), (83, 2, 4), (75, 0, 3), (75, 1, 21), (75, 2, 25)] : zW) ([(83, 1, 3), (83, 2, 4), (75, 0, 3), (75, 1, 21), (75, 2, 25)] : zW) xL_10 8 (some .int) xE_123 (xE_123.drop 48) [.ref 83, .int a1, .int a2, .int a3, .int a4, .int a5, .int a6, .int a7, .null, .null] [] s Q := by
  obtain ⟨I, μ, h0, h1⟩ := h
  have key : ∀ (n : Nat) (a1 : Int32) (a2 : Int32) (a3 : Int32) (a4 : Int32) (a5 : Int32) (a6 : Int32) (a7 : Int32) (s : zS), μ a1 a2 a3 a4 a5 a6 a7 s = n → I a1 a2 a3 a4 a5 a6 a7 s → Zn d [] [] ([(83, 1, 3), (83, 2, 4), (75, 0, 3), (75, 1, 21), (75, 2, 25)] : zW) ([(83, 1, 3), (83, 2, 4), (75, 0, 3), (75, 1, 21), (75, 2, 25)] : zW) xL_10 8 (some .int) xE_123 (xE_123.drop 48) [.ref 83, .int a1, .int a2, .int a3, .int a4, .int a5, .int a6, .int a7, .null, .null] [] s Q := by
    intro n
    induction n using Nat.strongRecOn with
    | ind n ih =>
      intro a1 a2 a3 a4 a5 a6 a7 s e hI
      exact m_123_48_3 hd r18 (fun a1' a2' a3' a4' a5' a6' a7' s' q => ih _ (by rw [← e]; exact q.2) a1' a2' a3' a4' a5' a6' a7' s' rfl q.1) (h1 a1 a2 a3 a4 a5 a6 a7 s hI)
  exact key _ a1 a2 a3 a4 a5 a6 a7 s rfl h0
set_option maxRecDepth 20000 in
theorem m_123_45_3 {d d0 : Nat} (hd : d = d0 + 8) {R18 : Int32 → Int32 → Int32 → Int32 → zS → Prop} {a1 : Int32} {a2 : Int32} {a3 : Int32} {a4 : Int32} {a5 : Int32} {t0 : Int32} {s : zS} {Q : Option Value → zS → Prop} (r18 : ∀ a1 a2 a3 a4 s, R18 a1 a2 a3 a4 s → Zn d [] [] ([(83, 1, 3), (83, 2, 4), (75, 0, 3), (75, 1, 21), (75, 2, 25)] : zW) ([(83, 1, 3), (83, 2, 4), (75, 0, 3), (75, 1, 21), (75, 2, 25)] : zW) xL_10 8 (some .int) xE_123 (xE_123.drop 18) [.ref 83, .int a1, .int a2, .int a3, .int a4, .null, .null, .null, .null, .null] [] s Q) (h : v_123_45 (fun j => Zt d (wd 3 j) j) 3 R18 a1 a2 a3 a4 a5 t0 s Q) : Zn d [] [] ([(83, 1, 3), (83, 2, 4), (75, 0, 3), (75, 1, 21), (75, 2, 25)] : zW) ([(83, 1, 3), (83, 2, 4), (75, 0, 3), (75, 1, 21), (75, 2, 25)] : zW) xL_10 8 (some .int) xE_123 (xE_123.drop 45) [.ref 83, .int a1, .int a2, .int a3, .int a4, .int a5, .null, .null, .null, .null] [.int t0] s Q := by
  unfold v_123_45 at h
  refine zn_st [.ref 83, .int a1, .int a2, .int a3, .int a4, .int a5, .int t0, .null, .null, .null] rfl rfl rfl ?_
  refine zn_ld rfl rfl rfl ?_
  refine zn_st [.ref 83, .int a1, .int a2, .int a3, .int a4, .int a5, .int t0, .int a3, .null, .null] rfl rfl rfl ?_
  exact ml_123_48_3 hd r18 h
set_option maxRecDepth 20000 in
theorem m_123_44_3 {d d0 : Nat} (hd : d = d0 + 8) {R18 : Int32 → Int32 → Int32 → Int32 → zS → Prop} {a1 : Int32} {a2 : Int32} {a3 : Int32} {a4 : Int32} {a5 : Int32} {s : zS} {Q : Option Value → zS → Prop} (r18 : ∀ a1 a2 a3 a4 s, R18 a1 a2 a3 a4 s → Zn d [] [] ([(83, 1, 3), (83, 2, 4), (75, 0, 3), (75, 1, 21), (75, 2, 25)] : zW) ([(83, 1, 3), (83, 2, 4), (75, 0, 3), (75, 1, 21), (75, 2, 25)] : zW) xL_10 8 (some .int) xE_123 (xE_123.drop 18) [.ref 83, .int a1, .int a2, .int a3, .int a4, .null, .null, .null, .null, .null] [] s Q) (h : v_123_44 (fun j => Zt d (wd 3 j) j) 3 R18 a1 a2 a3 a4 a5 s Q) : Zn d [] [] ([(83, 1, 3), (83, 2, 4), (75, 0, 3), (75, 1, 21), (75, 2, 25)] : zW) ([(83, 1, 3), (83, 2, 4), (75, 0, 3), (75, 1, 21), (75, 2, 25)] : zW) xL_10 8 (some .int) xE_123 (xE_123.drop 44) [.ref 83, .int a1, .int a2, .int a3, .int a4, .int a5, .null, .null, .null, .null] [] s Q := by
  unfold v_123_44 at h
  refine zn_c [.int 0] (xo_push (.int 0)) rfl rfl ?_
  exact m_123_45_3 hd r18 h
set_option maxRecDepth 20000 in
theorem m_123_42_3 {d d0 : Nat} (hd : d = d0 + 8) {R18 : Int32 → Int32 → Int32 → Int32 → zS → Prop} {a1 : Int32} {a2 : Int32} {a3 : Int32} {a4 : Int32} {a5 : Int32} {s : zS} {Q : Option Value → zS → Prop} (r18 : ∀ a1 a2 a3 a4 s, R18 a1 a2 a3 a4 s → Zn d [] [] ([(83, 1, 3), (83, 2, 4), (75, 0, 3), (75, 1, 21), (75, 2, 25)] : zW) ([(83, 1, 3), (83, 2, 4), (75, 0, 3), (75, 1, 21), (75, 2, 25)] : zW) xL_10 8 (some .int) xE_123 (xE_123.drop 18) [.ref 83, .int a1, .int a2, .int a3, .int a4, .null, .null, .null, .null, .null] [] s Q) (h : v_123_42 (fun j => Zt d (wd 3 j) j) 3 R18 a1 a2 a3 a4 a5 s Q) : Zn d [] [] ([(83, 1, 3), (83, 2, 4), (75, 0, 3), (75, 1, 21), (75, 2, 25)] : zW) ([(83, 1, 3), (83, 2, 4), (75, 0, 3), (75, 1, 21), (75, 2, 25)] : zW) xL_10 8 (some .int) xE_123 (xE_123.drop 42) [.ref 83, .int a1, .int a2, .int a3, .int a4, .int a5, .null, .null, .null, .null] [] s Q := by
  unfold v_123_42 at h
  refine zn_c [.int 1] (xo_push (.int 1)) rfl rfl ?_
  refine zn_go rfl ?_
  exact m_123_45_3 hd r18 h
set_option maxRecDepth 20000 in
theorem m_123_18_3 {d d0 : Nat} (hd : d = d0 + 8) {R18 : Int32 → Int32 → Int32 → Int32 → zS → Prop} {a1 : Int32} {a2 : Int32} {a3 : Int32} {a4 : Int32} {s : zS} {Q : Option Value → zS → Prop} (r18 : ∀ a1 a2 a3 a4 s, R18 a1 a2 a3 a4 s → Zn d [] [] ([(83, 1, 3), (83, 2, 4), (75, 0, 3), (75, 1, 21), (75, 2, 25)] : zW) ([(83, 1, 3), (83, 2, 4), (75, 0, 3), (75, 1, 21), (75, 2, 25)] : zW) xL_10 8 (some .int) xE_123 (xE_123.drop 18) [.ref 83, .int a1, .int a2, .int a3, .int a4, .null, .null, .null, .null, .null] [] s Q) (h : v_123_18 (fun j => Zt d (wd 3 j) j) 3 R18 a1 a2 a3 a4 s Q) : Zn d [] [] ([(83, 1, 3), (83, 2, 4), (75, 0, 3), (75, 1, 21), (75, 2, 25)] : zW) ([(83, 1, 3), (83, 2, 4), (75, 0, 3), (75, 1, 21), (75, 2, 25)] : zW) xL_10 8 (some .int) xE_123 (xE_123.drop 18) [.ref 83, .int a1, .int a2, .int a3, .int a4, .null, .null, .null, .null, .null] [] s Q := by
  unfold v_123_18 at h
  refine zn_ld rfl rfl rfl ?_
  refine zn_ld rfl rfl rfl ?_
  refine zn_get (v := .ref 3) rfl (zv_C (a := 83) (n := 0) rfl rfl rfl) ?_
  refine zn_ld rfl rfl rfl ?_
  refine zn_c [.int 2, .int a1, .ref 3, .int a4] (xo_push (.int 2)) rfl rfl ?_
  refine zn_zt [.ref 3, .int a1, .int 2] [.int a4] (c := []) rfl rfl rfl rfl rfl (Zt.imp (zp_43 hd (Or.inl rfl)) (fun vq sq hq => ?_))
  obtain ⟨rfl, hq⟩ := hq
  rw [hq]
  change Zn _ _ _ _ _ _ _ _ _ _ _ [.int (zg s 35 (a1 * 3 + 2)), .int a4] _ _
  refine zn_brP rfl rfl ⟨fun hcn => ?_, fun hcn => ?_⟩
  · replace h := h.1 ((i_le (x := zg s 35 (a1 * 3 + 2)) (y := a4) rfl rfl).mp hcn)
    refine zn_c [.int 1000000] (xo_push (.int 1000000)) rfl rfl ?_
    exact zn_retI rfl h
  · replace h := h.2 (fun q => hcn ((i_le (x := zg s 35 (a1 * 3 + 2)) (y := a4) rfl rfl).mpr q))
    refine zn_ld rfl rfl rfl ?_
    refine zn_get (v := .ref 3) rfl (zv_C (a := 83) (n := 0) rfl rfl rfl) ?_
    refine zn_ld rfl rfl rfl ?_
    refine zn_c [.int 0, .int a4, .ref 3] (xo_push (.int 0)) rfl rfl ?_
    refine zn_zt [.ref 3, .int a4, .int 0] [] (c := []) rfl rfl rfl rfl rfl (Zt.imp (zp_42 hd (Or.inl rfl)) (fun vq sq hq => ?_))
    obtain ⟨rfl, hq⟩ := hq
    rw [hq]
    change Zn _ _ _ _ _ _ _ _ _ _ _ [.int (zg s 33 (a4 * 5 + 0))] _ _
    refine zn_st [.ref 83, .int a1, .int a2, .int a3, .int a4, .int (zg s 33 (a4 * 5 + 0)), .null, .null, .null, .null] rfl rfl rfl ?_
    refine zn_ld rfl rfl rfl ?_
    refine zn_brP rfl rfl ⟨fun hcn => ?_, fun hcn => ?_⟩
    · replace h := h.1 ((i_lt (x := zg s 33 (a4 * 5 + 0)) (y := 0) rfl (show (0 : Int32).toInt = 0 by decide)).mp hcn)
      exact m_123_44_3 hd r18 h
    · replace h := h.2 (fun q => hcn ((i_lt (x := zg s 33 (a4 * 5 + 0)) (y := 0) rfl (show (0 : Int32).toInt = 0 by decide)).mpr q))
      refine zn_ld rfl rfl rfl ?_
      refine zn_brN rfl rfl ⟨fun hcn => ?_, fun hcn => ?_⟩
      · replace h := h.1 (fun q => hcn ((i_eq (x := a2) (y := 0) rfl (show (0 : Int32).toInt = 0 by decide)).mpr q))
        exact m_123_42_3 hd r18 h
      · replace h := h.2 ((i_eq (x := a2) (y := 0) rfl (show (0 : Int32).toInt = 0 by decide)).mp hcn)
        refine zn_ld rfl rfl rfl ?_
        refine zn_get (v := .ref 3) rfl (zv_C (a := 83) (n := 0) rfl rfl rfl) ?_
        refine zn_ld rfl rfl rfl ?_
        refine zn_c [.int 1, .int a4, .ref 3] (xo_push (.int 1)) rfl rfl ?_
        refine zn_zt [.ref 3, .int a4, .int 1] [] (c := []) rfl rfl rfl rfl rfl (Zt.imp (zp_42 hd (Or.inl rfl)) (fun vq sq hq => ?_))
        obtain ⟨rfl, hq⟩ := hq
        rw [hq]
        change Zn _ _ _ _ _ _ _ _ _ _ _ [.int (zg s 33 (a4 * 5 + 1))] _ _
        refine zn_c [.int 3, .int (zg s 33 (a4 * 5 + 1))] (xo_push (.int 3)) rfl rfl ?_
        refine zn_brP rfl rfl ⟨fun hcn => ?_, fun hcn => ?_⟩
        · replace h := h.1 ((i_eq (x := zg s 33 (a4 * 5 + 1)) (y := 3) rfl (show (3 : Int32).toInt = 3 by decide)).mp hcn)
          exact m_123_44_3 hd r18 h
        · replace h := h.2 (fun q => hcn ((i_eq (x := zg s 33 (a4 * 5 + 1)) (y := 3) rfl (show (3 : Int32).toInt = 3 by decide)).mpr q))
          exact m_123_42_3 hd r18 h
theorem ml_123_18_3 {d d0 : Nat} (hd : d = d0 + 8)  {a1 : Int32} {a2 : Int32} {a3 : Int32} {a4 : Int32} {s : zS} {Q : Option Value → zS → Prop}  (h : vl_123_18 (fun j => Zt d (wd 3 j) j) 3  a1 a2 a3 a4 s Q) : Zn d [] [] ([(83, 1, 3), (83, 2, 4), (75, 0, 3), (75, 1, 21), (75, 2, 25)] : zW) ([(83, 1, 3), (83, 2, 4), (75, 0, 3), (75, 1, 21), (75, 2, 25)] : zW) xL_10 8 (some .int) xE_123 (xE_123.drop 18) [.ref 83, .int a1, .int a2, .int a3, .int a4, .null, .null, .null, .null, .null] [] s Q := by
  obtain ⟨I, μ, h0, h1⟩ := h
  have key : ∀ (n : Nat) (a1 : Int32) (a2 : Int32) (a3 : Int32) (a4 : Int32) (s : zS), μ a1 a2 a3 a4 s = n → I a1 a2 a3 a4 s → Zn d [] [] ([(83, 1, 3), (83, 2, 4), (75, 0, 3), (75, 1, 21), (75, 2, 25)] : zW) ([(83, 1, 3), (83, 2, 4), (75, 0, 3), (75, 1, 21), (75, 2, 25)] : zW) xL_10 8 (some .int) xE_123 (xE_123.drop 18) [.ref 83, .int a1, .int a2, .int a3, .int a4, .null, .null, .null, .null, .null] [] s Q := by
    intro n
    induction n using Nat.strongRecOn with
    | ind n ih =>
      intro a1 a2 a3 a4 s e hI
      exact m_123_18_3 hd (fun a1' a2' a3' a4' s' q => ih _ (by rw [← e]; exact q.2) a1' a2' a3' a4' s' rfl q.1) (h1 a1 a2 a3 a4 s hI)
  exact key _ a1 a2 a3 a4 s rfl h0
set_option maxRecDepth 20000 in
theorem m_123_9_3 {d d0 : Nat} (hd : d = d0 + 8)  {a1 : Int32} {t0 : Int32} {s : zS} {Q : Option Value → zS → Prop}  (h : v_123_9 (fun j => Zt d (wd 3 j) j) 3  a1 t0 s Q) : Zn d [] [] ([(83, 1, 3), (83, 2, 4), (75, 0, 3), (75, 1, 21), (75, 2, 25)] : zW) ([(83, 1, 3), (83, 2, 4), (75, 0, 3), (75, 1, 21), (75, 2, 25)] : zW) xL_10 8 (some .int) xE_123 (xE_123.drop 9) [.ref 83, .int a1, .null, .null, .null, .null, .null, .null, .null, .null] [.int t0] s Q := by
  unfold v_123_9 at h
  refine zn_st [.ref 83, .int a1, .int t0, .null, .null, .null, .null, .null, .null, .null] rfl rfl rfl ?_
  refine zn_ld rfl rfl rfl ?_
  refine zn_get (v := .ref 3) rfl (zv_C (a := 83) (n := 0) rfl rfl rfl) ?_
  refine zn_ld rfl rfl rfl ?_
  refine zn_c [.int 1, .int a1, .ref 3] (xo_push (.int 1)) rfl rfl ?_
  refine zn_zt [.ref 3, .int a1, .int 1] [] (c := []) rfl rfl rfl rfl rfl (Zt.imp (zp_43 hd (Or.inl rfl)) (fun vq sq hq => ?_))
  obtain ⟨rfl, hq⟩ := hq
  rw [hq]
  change Zn _ _ _ _ _ _ _ _ _ _ _ [.int (zg s 35 (a1 * 3 + 1))] _ _
  refine zn_st [.ref 83, .int a1, .int t0, .int (zg s 35 (a1 * 3 + 1)), .null, .null, .null, .null, .null, .null] rfl rfl rfl ?_
  refine zn_ld rfl rfl rfl ?_
  refine zn_st [.ref 83, .int a1, .int t0, .int (zg s 35 (a1 * 3 + 1)), .int (zg s 35 (a1 * 3 + 1)), .null, .null, .null, .null, .null] rfl rfl rfl ?_
  exact ml_123_18_3 hd  h
set_option maxRecDepth 20000 in
theorem m_123_0_3 {d d0 : Nat} (hd : d = d0 + 8)  {a1 : Int32} {s : zS} {Q : Option Value → zS → Prop}  (h : v_123_0 (fun j => Zt d (wd 3 j) j) 3  a1 s Q) : Zn d [] [] ([(83, 1, 3), (83, 2, 4), (75, 0, 3), (75, 1, 21), (75, 2, 25)] : zW) ([(83, 1, 3), (83, 2, 4), (75, 0, 3), (75, 1, 21), (75, 2, 25)] : zW) xL_10 8 (some .int) xE_123 (xE_123.drop 0) [.ref 83, .int a1, .null, .null, .null, .null, .null, .null, .null, .null] [] s Q := by
  unfold v_123_0 at h
  refine zn_ld rfl rfl rfl ?_
  refine zn_get (v := .ref 3) rfl (zv_C (a := 83) (n := 0) rfl rfl rfl) ?_
  refine zn_ld rfl rfl rfl ?_
  refine zn_c [.int 0, .int a1, .ref 3] (xo_push (.int 0)) rfl rfl ?_
  refine zn_zt [.ref 3, .int a1, .int 0] [] (c := []) rfl rfl rfl rfl rfl (Zt.imp (zp_43 hd (Or.inl rfl)) (fun vq sq hq => ?_))
  obtain ⟨rfl, hq⟩ := hq
  rw [hq]
  change Zn _ _ _ _ _ _ _ _ _ _ _ [.int (zg s 35 (a1 * 3 + 0))] _ _
  refine zn_brP rfl rfl ⟨fun hcn => ?_, fun hcn => ?_⟩
  · replace h := h.1 ((i_le (x := 0) (y := zg s 35 (a1 * 3 + 0)) (show (0 : Int32).toInt = 0 by decide) rfl).mp hcn)
    refine zn_c [.int 0] (xo_push (.int 0)) rfl rfl ?_
    exact m_123_9_3 hd  h
  · replace h := h.2 (fun q => hcn ((i_le (x := 0) (y := zg s 35 (a1 * 3 + 0)) (show (0 : Int32).toInt = 0 by decide) rfl).mpr q))
    refine zn_c [.int 1] (xo_push (.int 1)) rfl rfl ?_
    refine zn_go rfl ?_
    exact m_123_9_3 hd  h
theorem zq_123_3 {d : Nat} {a1 : Int32} {s : zS} {Q : Option Value → zS → Prop} (h : v_123_0 (fun j => Zt (d + 8) (wd 3 j) j) 3 a1 s Q) : Zt (d + 9) ([(83, 1, 3), (83, 2, 4), (75, 0, 3), (75, 1, 21), (75, 2, 25)] : zW) 123 [.ref 83, .int a1] s Q := zt_of (E := xE_123) (L := xL_10) (ml := 8) (ret := some .int) rfl rfl rfl (m_123_0_3 rfl h)
set_option maxRecDepth 20000 in
theorem m_123_71_39 {d d0 : Nat} (hd : d = d0 + 8) {R18 : Int32 → Int32 → Int32 → Int32 → zS → Prop} {a1 : Int32} {a2 : Int32} {a3 : Int32} {a4 : Int32} {a5 : Int32} {a6 : Int32} {a7 : Int32} {s : zS} {Q : Option Value → zS → Prop} (r18 : ∀ a1 a2 a3 a4 s, R18 a1 a2 a3 a4 s → Zn d [] [] ([(83, 1, 39), (83, 2, 40), (75, 0, 39), (75, 1, 57), (75, 2, 61)] : zW) ([(83, 1, 39), (83, 2, 40), (75, 0, 39), (75, 1, 57), (75, 2, 61)] : zW) xL_10 8 (some .int) xE_123 (xE_123.drop 18) [.ref 83, .int a1, .int a2, .int a3, .int a4, .null, .null, .null, .null, .null] [] s Q) (h : v_123_71 (fun j => Zt d (wd 39 j) j) 39 R18 a1 a2 a3 a4 a5 a6 a7 s Q) : Zn d [] [] ([(83, 1, 39), (83, 2, 40), (75, 0, 39), (75, 1, 57), (75, 2, 61)] : zW) ([(83, 1, 39), (83, 2, 40), (75, 0, 39), (75, 1, 57), (75, 2, 61)] : zW) xL_10 8 (some .int) xE_123 (xE_123.drop 71) [.ref 83, .int a1, .int a2, .int a3, .int a4, .int a5, .int a6, .int a7, .null, .null] [] s Q := by
  unfold v_123_71 at h
  replace h := h _ (i_add (x := a4) (y := 1) rfl (show (1 : Int32).toInt = 1 by decide))
  refine zn_inc [.ref 83, .int a1, .int a2, .int a3, .int (a4 + 1), .int a5, .int a6, .int a7, .null, .null] rfl rfl rfl rfl ?_
  refine zn_go rfl ?_
  refine zn_fg 5 ?_
  refine zn_fg 6 ?_
  refine zn_fg 7 ?_
  exact r18 a1 a2 a3 (a4 + 1) s h
set_option maxRecDepth 20000 in
theorem m_123_69_39 {d d0 : Nat} (hd : d = d0 + 8) {R18 : Int32 → Int32 → Int32 → Int32 → zS → Prop} {R48 : Int32 → Int32 → Int32 → Int32 → Int32 → Int32 → Int32 → zS → Prop} {a1 : Int32} {a2 : Int32} {a3 : Int32} {a4 : Int32} {a5 : Int32} {a6 : Int32} {a7 : Int32} {s : zS} {Q : Option Value → zS → Prop} (r18 : ∀ a1 a2 a3 a4 s, R18 a1 a2 a3 a4 s → Zn d [] [] ([(83, 1, 39), (83, 2, 40), (75, 0, 39), (75, 1, 57), (75, 2, 61)] : zW) ([(83, 1, 39), (83, 2, 40), (75, 0, 39), (75, 1, 57), (75, 2, 61)] : zW) xL_10 8 (some .int) xE_123 (xE_123.drop 18) [.ref 83, .int a1, .int a2, .int a3, .int a4, .null, .null, .null, .null, .null] [] s Q) (r48 : ∀ a1 a2 a3 a4 a5 a6 a7 s, R48 a1 a2 a3 a4 a5 a6 a7 s → Zn d [] [] ([(83, 1, 39), (83, 2, 40), (75, 0, 39), (75, 1, 57), (75, 2, 61)] : zW) ([(83, 1, 39), (83, 2, 40), (75, 0, 39), (75, 1, 57), (75, 2, 61)] : zW) xL_10 8 (some .int) xE_123 (xE_123.drop 48) [.ref 83, .int a1, .int a2, .int a3, .int a4, .int a5, .int a6, .int a7, .null, .null] [] s Q) (h : v_123_69 (fun j => Zt d (wd 39 j) j) 39 R18 R48 a1 a2 a3 a4 a5 a6 a7 s Q) : Zn d [] [] ([(83, 1, 39), (83, 2, 40), (75, 0, 39), (75, 1, 57), (75, 2, 61)] : zW) ([(83, 1, 39), (83, 2, 40), (75, 0, 39), (75, 1, 57), (75, 2, 61)] : zW) xL_10 8 (some .int) xE_123 (xE_123.drop 69) [.ref 83, .int a1, .int a2, .int a3, .int a4, .int a5, .int a6, .int a7, .null, .null] [] s Q := by
  unfold v_123_69 at h
  replace h := h _ (i_add (x := a7) (y := 1) rfl (show (1 : Int32).toInt = 1 by decide))
  refine zn_inc [.ref 83, .int a1, .int a2, .int a3, .int a4, .int a5, .int a6, .int (a7 + 1), .null, .null] rfl rfl rfl rfl ?_
  refine zn_go rfl ?_
  exact r48 a1 a2 a3 a4 a5 a6 (a7 + 1) s h
set_option maxRecDepth 20000 in
theorem m_123_48_39 {d d0 : Nat} (hd : d = d0 + 8) {R18 : Int32 → Int32 → Int32 → Int32 → zS → Prop} {R48 : Int32 → Int32 → Int32 → Int32 → Int32 → Int32 → Int32 → zS → Prop} {a1 : Int32} {a2 : Int32} {a3 : Int32} {a4 : Int32} {a5 : Int32} {a6 : Int32} {a7 : Int32} {s : zS} {Q : Option Value → zS → Prop} (r18 : ∀ a1 a2 a3 a4 s, R18 a1 a2 a3 a4 s → Zn d [] [] ([(83, 1, 39), (83, 2, 40), (75, 0, 39), (75, 1, 57), (75, 2, 61)] : zW) ([(83, 1, 39), (83, 2, 40), (75, 0, 39), (75, 1, 57), (75, 2, 61)] : zW) xL_10 8 (some .int) xE_123 (xE_123.drop 18) [.ref 83, .int a1, .int a2, .int a3, .int a4, .null, .null, .null, .null, .null] [] s Q) (r48 : ∀ a1 a2 a3 a4 a5 a6 a7 s, R48 a1 a2 a3 a4 a5 a6 a7 s → Zn d [] [] ([(83, 1, 39), (83, 2, 40), (75, 0, 39), (75, 1, 57), (75, 2, 61)] : zW) ([(83, 1, 39), (83, 2, 40), (75, 0, 39), (75, 1, 57), (75, 2, 61)] : zW) xL_10 8 (some .int) xE_123 (xE_123.drop 48) [.ref 83, .int a1, .int a2, .int a3, .int a4, .int a5, .int a6, .int a7, .null, .null] [] s Q) (h : v_123_48 (fun j => Zt d (wd 39 j) j) 39 R18 R48 a1 a2 a3 a4 a5 a6 a7 s Q) : Zn d [] [] ([(83, 1, 39), (83, 2, 40), (75, 0, 39), (75, 1, 57), (75, 2, 61)] : zW) ([(83, 1, 39), (83, 2, 40), (75, 0, 39), (75, 1, 57), (75, 2, 61)] : zW) xL_10 8 (some .int) xE_123 (xE_123.drop 48) [.ref 83, .int a1, .int a2, .int a3, .int a4, .int a5, .int a6, .int a7, .null, .null] [] s Q := by
  unfold v_123_48 at h
  refine zn_ld rfl rfl rfl ?_
  refine zn_ld rfl rfl rfl ?_
  refine zn_brP rfl rfl ⟨fun hcn => ?_, fun hcn => ?_⟩
  · replace h := h.1 ((i_le (x := a4) (y := a7) rfl rfl).mp hcn)
    exact m_123_71_39 hd r18 h
  · replace h := h.2 (fun q => hcn ((i_le (x := a4) (y := a7) rfl rfl).mpr q))
    refine zn_ld rfl rfl rfl ?_
    refine zn_brP rfl rfl ⟨fun hcn => ?_, fun hcn => ?_⟩
    · replace h := h.1 ((i_eq (x := a6) (y := 0) rfl (show (0 : Int32).toInt = 0 by decide)).mp hcn)
      exact m_123_71_39 hd r18 h
    · replace h := h.2 (fun q => hcn ((i_eq (x := a6) (y := 0) rfl (show (0 : Int32).toInt = 0 by decide)).mpr q))
      refine zn_ld rfl rfl rfl ?_
      refine zn_ld rfl rfl rfl ?_
      refine zn_ld rfl rfl rfl ?_
      refine zn_zt [.ref 83, .int a7, .int a4] [] rfl rfl rfl rfl rfl (Zt.imp h (fun v1 s2 h => ?_))
      obtain ⟨x3, rfl, h⟩ := h
      change Zn _ _ _ _ _ _ _ _ _ _ _ [.int x3] _ _
      refine zn_brP rfl rfl ⟨fun hcn => ?_, fun hcn => ?_⟩
      · replace h := h.1 ((i_eq (x := x3) (y := 0) rfl (show (0 : Int32).toInt = 0 by decide)).mp hcn)
        exact m_123_69_39 hd r18 r48 h
      · replace h := h.2 (fun q => hcn ((i_eq (x := x3) (y := 0) rfl (show (0 : Int32).toInt = 0 by decide)).mpr q))
        refine zn_ld rfl rfl rfl ?_
        refine zn_ld rfl rfl rfl ?_
        refine zn_get (v := .ref 39) rfl (zv_C (a := 83) (n := 0) rfl rfl rfl) ?_
        refine zn_ld rfl rfl rfl ?_
        refine zn_c [.int 0, .int a7, .ref 39, .ref 83] (xo_push (.int 0)) rfl rfl ?_
        refine zn_zt [.ref 39, .int a7, .int 0] [.ref 83] (c := []) rfl rfl rfl rfl rfl (Zt.imp (zp_42 hd (Or.inr rfl)) (fun vq sq hq => ?_))
        obtain ⟨rfl, hq⟩ := hq
        rw [hq]
        change Zn _ _ _ _ _ _ _ _ _ _ _ [.int (zg s2 69 (a7 * 5 + 0)), .ref 83] _ _
        refine zn_ld rfl rfl rfl ?_
        refine zn_zt [.ref 83, .int (zg s2 69 (a7 * 5 + 0)), .int a5] [] rfl rfl rfl rfl rfl (Zt.imp h (fun v5 s6 h => ?_))
        obtain ⟨x7, rfl, h⟩ := h
        change Zn _ _ _ _ _ _ _ _ _ _ _ [.int x7] _ _
        refine zn_brP rfl rfl ⟨fun hcn => ?_, fun hcn => ?_⟩
        · replace h := h.1 ((i_eq (x := x7) (y := 0) rfl (show (0 : Int32).toInt = 0 by decide)).mp hcn)
          exact m_123_69_39 hd r18 r48 h
        · replace h := h.2 (fun q => hcn ((i_eq (x := x7) (y := 0) rfl (show (0 : Int32).toInt = 0 by decide)).mpr q))
          refine zn_ld rfl rfl rfl ?_
          exact zn_retI rfl h
theorem ml_123_48_39 {d d0 : Nat} (hd : d = d0 + 8) {R18 : Int32 → Int32 → Int32 → Int32 → zS → Prop} {a1 : Int32} {a2 : Int32} {a3 : Int32} {a4 : Int32} {a5 : Int32} {a6 : Int32} {a7 : Int32} {s : zS} {Q : Option Value → zS → Prop} (r18 : ∀ a1 a2 a3 a4 s, R18 a1 a2 a3 a4 s → Zn d [] [] ([(83, 1, 39), (83, 2, 40), (75, 0, 39), (75, 1, 57), (75, 2, 61)] : zW) ([(83, 1, 39), (83, 2, 40), (75, 0, 39), (75, 1, 57), (75, 2, 61)] : zW) xL_10 8 (some .int) xE_123 (xE_123.drop 18) [.ref 83, .int a1, .int a2, .int a3, .int a4, .null, .null, .null, .null, .null] [] s Q) (h : vl_123_48 (fun j => Zt d (wd 39 j) j) 39 R18 a1 a2 a3 a4 a5 a6 a7 s Q) : Zn d [] [] ([(83, 1, 39), (83, 2, 40), (75, 0, 39), (75, 1, 57), (75, 2, 61)] : zW) ([(83, 1, 39), (83, 2, 40), (75, 0, 39), (75, 1, 57), (75, 2, 61)] : zW) xL_10 8 (some .int) xE_123 (xE_123.drop 48) [.ref 83, .int a1, .int a2, .int a3, .int a4, .int a5, .int a6, .int a7, .null, .null] [] s Q := by
  obtain ⟨I, μ, h0, h1⟩ := h
  have key : ∀ (n : Nat) (a1 : Int32) (a2 : Int32) (a3 : Int32) (a4 : Int32) (a5 : Int32) (a6 : Int32) (a7 : Int32) (s : zS), μ a1 a2 a3 a4 a5 a6 a7 s = n → I a1 a2 a3 a4 a5 a6 a7 s → Zn d [] [] ([(83, 1, 39), (83, 2, 40), (75, 0, 39), (75, 1, 57), (75, 2, 61)] : zW) ([(83, 1, 39), (83, 2, 40), (75, 0, 39), (75, 1, 57), (75, 2, 61)] : zW) xL_10 8 (some .int) xE_123 (xE_123.drop 48) [.ref 83, .int a1, .int a2, .int a3, .int a4, .int a5, .int a6, .int a7, .null, .null] [] s Q := by
    intro n
    induction n using Nat.strongRecOn with
    | ind n ih =>
      intro a1 a2 a3 a4 a5 a6 a7 s e hI
      exact m_123_48_39 hd r18 (fun a1' a2' a3' a4' a5' a6' a7' s' q => ih _ (by rw [← e]; exact q.2) a1' a2' a3' a4' a5' a6' a7' s' rfl q.1) (h1 a1 a2 a3 a4 a5 a6 a7 s hI)
  exact key _ a1 a2 a3 a4 a5 a6 a7 s rfl h0
set_option maxRecDepth 20000 in
theorem m_123_45_39 {d d0 : Nat} (hd : d = d0 + 8) {R18 : Int32 → Int32 → Int32 → Int32 → zS → Prop} {a1 : Int32} {a2 : Int32} {a3 : Int32} {a4 : Int32} {a5 : Int32} {t0 : Int32} {s : zS} {Q : Option Value → zS → Prop} (r18 : ∀ a1 a2 a3 a4 s, R18 a1 a2 a3 a4 s → Zn d [] [] ([(83, 1, 39), (83, 2, 40), (75, 0, 39), (75, 1, 57), (75, 2, 61)] : zW) ([(83, 1, 39), (83, 2, 40), (75, 0, 39), (75, 1, 57), (75, 2, 61)] : zW) xL_10 8 (some .int) xE_123 (xE_123.drop 18) [.ref 83, .int a1, .int a2, .int a3, .int a4, .null, .null, .null, .null, .null] [] s Q) (h : v_123_45 (fun j => Zt d (wd 39 j) j) 39 R18 a1 a2 a3 a4 a5 t0 s Q) : Zn d [] [] ([(83, 1, 39), (83, 2, 40), (75, 0, 39), (75, 1, 57), (75, 2, 61)] : zW) ([(83, 1, 39), (83, 2, 40), (75, 0, 39), (75, 1, 57), (75, 2, 61)] : zW) xL_10 8 (some .int) xE_123 (xE_123.drop 45) [.ref 83, .int a1, .int a2, .int a3, .int a4, .int a5, .null, .null, .null, .null] [.int t0] s Q := by
  unfold v_123_45 at h
  refine zn_st [.ref 83, .int a1, .int a2, .int a3, .int a4, .int a5, .int t0, .null, .null, .null] rfl rfl rfl ?_
  refine zn_ld rfl rfl rfl ?_
  refine zn_st [.ref 83, .int a1, .int a2, .int a3, .int a4, .int a5, .int t0, .int a3, .null, .null] rfl rfl rfl ?_
  exact ml_123_48_39 hd r18 h
set_option maxRecDepth 20000 in
theorem m_123_44_39 {d d0 : Nat} (hd : d = d0 + 8) {R18 : Int32 → Int32 → Int32 → Int32 → zS → Prop} {a1 : Int32} {a2 : Int32} {a3 : Int32} {a4 : Int32} {a5 : Int32} {s : zS} {Q : Option Value → zS → Prop} (r18 : ∀ a1 a2 a3 a4 s, R18 a1 a2 a3 a4 s → Zn d [] [] ([(83, 1, 39), (83, 2, 40), (75, 0, 39), (75, 1, 57), (75, 2, 61)] : zW) ([(83, 1, 39), (83, 2, 40), (75, 0, 39), (75, 1, 57), (75, 2, 61)] : zW) xL_10 8 (some .int) xE_123 (xE_123.drop 18) [.ref 83, .int a1, .int a2, .int a3, .int a4, .null, .null, .null, .null, .null] [] s Q) (h : v_123_44 (fun j => Zt d (wd 39 j) j) 39 R18 a1 a2 a3 a4 a5 s Q) : Zn d [] [] ([(83, 1, 39), (83, 2, 40), (75, 0, 39), (75, 1, 57), (75, 2, 61)] : zW) ([(83, 1, 39), (83, 2, 40), (75, 0, 39), (75, 1, 57), (75, 2, 61)] : zW) xL_10 8 (some .int) xE_123 (xE_123.drop 44) [.ref 83, .int a1, .int a2, .int a3, .int a4, .int a5, .null, .null, .null, .null] [] s Q := by
  unfold v_123_44 at h
  refine zn_c [.int 0] (xo_push (.int 0)) rfl rfl ?_
  exact m_123_45_39 hd r18 h
set_option maxRecDepth 20000 in
theorem m_123_42_39 {d d0 : Nat} (hd : d = d0 + 8) {R18 : Int32 → Int32 → Int32 → Int32 → zS → Prop} {a1 : Int32} {a2 : Int32} {a3 : Int32} {a4 : Int32} {a5 : Int32} {s : zS} {Q : Option Value → zS → Prop} (r18 : ∀ a1 a2 a3 a4 s, R18 a1 a2 a3 a4 s → Zn d [] [] ([(83, 1, 39), (83, 2, 40), (75, 0, 39), (75, 1, 57), (75, 2, 61)] : zW) ([(83, 1, 39), (83, 2, 40), (75, 0, 39), (75, 1, 57), (75, 2, 61)] : zW) xL_10 8 (some .int) xE_123 (xE_123.drop 18) [.ref 83, .int a1, .int a2, .int a3, .int a4, .null, .null, .null, .null, .null] [] s Q) (h : v_123_42 (fun j => Zt d (wd 39 j) j) 39 R18 a1 a2 a3 a4 a5 s Q) : Zn d [] [] ([(83, 1, 39), (83, 2, 40), (75, 0, 39), (75, 1, 57), (75, 2, 61)] : zW) ([(83, 1, 39), (83, 2, 40), (75, 0, 39), (75, 1, 57), (75, 2, 61)] : zW) xL_10 8 (some .int) xE_123 (xE_123.drop 42) [.ref 83, .int a1, .int a2, .int a3, .int a4, .int a5, .null, .null, .null, .null] [] s Q := by
  unfold v_123_42 at h
  refine zn_c [.int 1] (xo_push (.int 1)) rfl rfl ?_
  refine zn_go rfl ?_
  exact m_123_45_39 hd r18 h
set_option maxRecDepth 20000 in
theorem m_123_18_39 {d d0 : Nat} (hd : d = d0 + 8) {R18 : Int32 → Int32 → Int32 → Int32 → zS → Prop} {a1 : Int32} {a2 : Int32} {a3 : Int32} {a4 : Int32} {s : zS} {Q : Option Value → zS → Prop} (r18 : ∀ a1 a2 a3 a4 s, R18 a1 a2 a3 a4 s → Zn d [] [] ([(83, 1, 39), (83, 2, 40), (75, 0, 39), (75, 1, 57), (75, 2, 61)] : zW) ([(83, 1, 39), (83, 2, 40), (75, 0, 39), (75, 1, 57), (75, 2, 61)] : zW) xL_10 8 (some .int) xE_123 (xE_123.drop 18) [.ref 83, .int a1, .int a2, .int a3, .int a4, .null, .null, .null, .null, .null] [] s Q) (h : v_123_18 (fun j => Zt d (wd 39 j) j) 39 R18 a1 a2 a3 a4 s Q) : Zn d [] [] ([(83, 1, 39), (83, 2, 40), (75, 0, 39), (75, 1, 57), (75, 2, 61)] : zW) ([(83, 1, 39), (83, 2, 40), (75, 0, 39), (75, 1, 57), (75, 2, 61)] : zW) xL_10 8 (some .int) xE_123 (xE_123.drop 18) [.ref 83, .int a1, .int a2, .int a3, .int a4, .null, .null, .null, .null, .null] [] s Q := by
  unfold v_123_18 at h
  refine zn_ld rfl rfl rfl ?_
  refine zn_ld rfl rfl rfl ?_
  refine zn_get (v := .ref 39) rfl (zv_C (a := 83) (n := 0) rfl rfl rfl) ?_
  refine zn_ld rfl rfl rfl ?_
  refine zn_c [.int 2, .int a1, .ref 39, .int a4] (xo_push (.int 2)) rfl rfl ?_
  refine zn_zt [.ref 39, .int a1, .int 2] [.int a4] (c := []) rfl rfl rfl rfl rfl (Zt.imp (zp_43 hd (Or.inr rfl)) (fun vq sq hq => ?_))
  obtain ⟨rfl, hq⟩ := hq
  rw [hq]
  change Zn _ _ _ _ _ _ _ _ _ _ _ [.int (zg s 71 (a1 * 3 + 2)), .int a4] _ _
  refine zn_brP rfl rfl ⟨fun hcn => ?_, fun hcn => ?_⟩
  · replace h := h.1 ((i_le (x := zg s 71 (a1 * 3 + 2)) (y := a4) rfl rfl).mp hcn)
    refine zn_c [.int 1000000] (xo_push (.int 1000000)) rfl rfl ?_
    exact zn_retI rfl h
  · replace h := h.2 (fun q => hcn ((i_le (x := zg s 71 (a1 * 3 + 2)) (y := a4) rfl rfl).mpr q))
    refine zn_ld rfl rfl rfl ?_
    refine zn_get (v := .ref 39) rfl (zv_C (a := 83) (n := 0) rfl rfl rfl) ?_
    refine zn_ld rfl rfl rfl ?_
    refine zn_c [.int 0, .int a4, .ref 39] (xo_push (.int 0)) rfl rfl ?_
    refine zn_zt [.ref 39, .int a4, .int 0] [] (c := []) rfl rfl rfl rfl rfl (Zt.imp (zp_42 hd (Or.inr rfl)) (fun vq sq hq => ?_))
    obtain ⟨rfl, hq⟩ := hq
    rw [hq]
    change Zn _ _ _ _ _ _ _ _ _ _ _ [.int (zg s 69 (a4 * 5 + 0))] _ _
    refine zn_st [.ref 83, .int a1, .int a2, .int a3, .int a4, .int (zg s 69 (a4 * 5 + 0)), .null, .null, .null, .null] rfl rfl rfl ?_
    refine zn_ld rfl rfl rfl ?_
    refine zn_brP rfl rfl ⟨fun hcn => ?_, fun hcn => ?_⟩
    · replace h := h.1 ((i_lt (x := zg s 69 (a4 * 5 + 0)) (y := 0) rfl (show (0 : Int32).toInt = 0 by decide)).mp hcn)
      exact m_123_44_39 hd r18 h
    · replace h := h.2 (fun q => hcn ((i_lt (x := zg s 69 (a4 * 5 + 0)) (y := 0) rfl (show (0 : Int32).toInt = 0 by decide)).mpr q))
      refine zn_ld rfl rfl rfl ?_
      refine zn_brN rfl rfl ⟨fun hcn => ?_, fun hcn => ?_⟩
      · replace h := h.1 (fun q => hcn ((i_eq (x := a2) (y := 0) rfl (show (0 : Int32).toInt = 0 by decide)).mpr q))
        exact m_123_42_39 hd r18 h
      · replace h := h.2 ((i_eq (x := a2) (y := 0) rfl (show (0 : Int32).toInt = 0 by decide)).mp hcn)
        refine zn_ld rfl rfl rfl ?_
        refine zn_get (v := .ref 39) rfl (zv_C (a := 83) (n := 0) rfl rfl rfl) ?_
        refine zn_ld rfl rfl rfl ?_
        refine zn_c [.int 1, .int a4, .ref 39] (xo_push (.int 1)) rfl rfl ?_
        refine zn_zt [.ref 39, .int a4, .int 1] [] (c := []) rfl rfl rfl rfl rfl (Zt.imp (zp_42 hd (Or.inr rfl)) (fun vq sq hq => ?_))
        obtain ⟨rfl, hq⟩ := hq
        rw [hq]
        change Zn _ _ _ _ _ _ _ _ _ _ _ [.int (zg s 69 (a4 * 5 + 1))] _ _
        refine zn_c [.int 3, .int (zg s 69 (a4 * 5 + 1))] (xo_push (.int 3)) rfl rfl ?_
        refine zn_brP rfl rfl ⟨fun hcn => ?_, fun hcn => ?_⟩
        · replace h := h.1 ((i_eq (x := zg s 69 (a4 * 5 + 1)) (y := 3) rfl (show (3 : Int32).toInt = 3 by decide)).mp hcn)
          exact m_123_44_39 hd r18 h
        · replace h := h.2 (fun q => hcn ((i_eq (x := zg s 69 (a4 * 5 + 1)) (y := 3) rfl (show (3 : Int32).toInt = 3 by decide)).mpr q))
          exact m_123_42_39 hd r18 h
theorem ml_123_18_39 {d d0 : Nat} (hd : d = d0 + 8)  {a1 : Int32} {a2 : Int32} {a3 : Int32} {a4 : Int32} {s : zS} {Q : Option Value → zS → Prop}  (h : vl_123_18 (fun j => Zt d (wd 39 j) j) 39  a1 a2 a3 a4 s Q) : Zn d [] [] ([(83, 1, 39), (83, 2, 40), (75, 0, 39), (75, 1, 57), (75, 2, 61)] : zW) ([(83, 1, 39), (83, 2, 40), (75, 0, 39), (75, 1, 57), (75, 2, 61)] : zW) xL_10 8 (some .int) xE_123 (xE_123.drop 18) [.ref 83, .int a1, .int a2, .int a3, .int a4, .null, .null, .null, .null, .null] [] s Q := by
  obtain ⟨I, μ, h0, h1⟩ := h
  have key : ∀ (n : Nat) (a1 : Int32) (a2 : Int32) (a3 : Int32) (a4 : Int32) (s : zS), μ a1 a2 a3 a4 s = n → I a1 a2 a3 a4 s → Zn d [] [] ([(83, 1, 39), (83, 2, 40), (75, 0, 39), (75, 1, 57), (75, 2, 61)] : zW) ([(83, 1, 39), (83, 2, 40), (75, 0, 39), (75, 1, 57), (75, 2, 61)] : zW) xL_10 8 (some .int) xE_123 (xE_123.drop 18) [.ref 83, .int a1, .int a2, .int a3, .int a4, .null, .null, .null, .null, .null] [] s Q := by
    intro n
    induction n using Nat.strongRecOn with
    | ind n ih =>
      intro a1 a2 a3 a4 s e hI
      exact m_123_18_39 hd (fun a1' a2' a3' a4' s' q => ih _ (by rw [← e]; exact q.2) a1' a2' a3' a4' s' rfl q.1) (h1 a1 a2 a3 a4 s hI)
  exact key _ a1 a2 a3 a4 s rfl h0
set_option maxRecDepth 20000 in
theorem m_123_9_39 {d d0 : Nat} (hd : d = d0 + 8)  {a1 : Int32} {t0 : Int32} {s : zS} {Q : Option Value → zS → Prop}  (h : v_123_9 (fun j => Zt d (wd 39 j) j) 39  a1 t0 s Q) : Zn d [] [] ([(83, 1, 39), (83, 2, 40), (75, 0, 39), (75, 1, 57), (75, 2, 61)] : zW) ([(83, 1, 39), (83, 2, 40), (75, 0, 39), (75, 1, 57), (75, 2, 61)] : zW) xL_10 8 (some .int) xE_123 (xE_123.drop 9) [.ref 83, .int a1, .null, .null, .null, .null, .null, .null, .null, .null] [.int t0] s Q := by
  unfold v_123_9 at h
  refine zn_st [.ref 83, .int a1, .int t0, .null, .null, .null, .null, .null, .null, .null] rfl rfl rfl ?_
  refine zn_ld rfl rfl rfl ?_
  refine zn_get (v := .ref 39) rfl (zv_C (a := 83) (n := 0) rfl rfl rfl) ?_
  refine zn_ld rfl rfl rfl ?_
  refine zn_c [.int 1, .int a1, .ref 39] (xo_push (.int 1)) rfl rfl ?_
  refine zn_zt [.ref 39, .int a1, .int 1] [] (c := []) rfl rfl rfl rfl rfl (Zt.imp (zp_43 hd (Or.inr rfl)) (fun vq sq hq => ?_))
  obtain ⟨rfl, hq⟩ := hq
  rw [hq]
  change Zn _ _ _ _ _ _ _ _ _ _ _ [.int (zg s 71 (a1 * 3 + 1))] _ _
  refine zn_st [.ref 83, .int a1, .int t0, .int (zg s 71 (a1 * 3 + 1)), .null, .null, .null, .null, .null, .null] rfl rfl rfl ?_
  refine zn_ld rfl rfl rfl ?_
  refine zn_st [.ref 83, .int a1, .int t0, .int (zg s 71 (a1 * 3 + 1)), .int (zg s 71 (a1 * 3 + 1)), .null, .null, .null, .null, .null] rfl rfl rfl ?_
  exact ml_123_18_39 hd  h
set_option maxRecDepth 20000 in
theorem m_123_0_39 {d d0 : Nat} (hd : d = d0 + 8)  {a1 : Int32} {s : zS} {Q : Option Value → zS → Prop}  (h : v_123_0 (fun j => Zt d (wd 39 j) j) 39  a1 s Q) : Zn d [] [] ([(83, 1, 39), (83, 2, 40), (75, 0, 39), (75, 1, 57), (75, 2, 61)] : zW) ([(83, 1, 39), (83, 2, 40), (75, 0, 39), (75, 1, 57), (75, 2, 61)] : zW) xL_10 8 (some .int) xE_123 (xE_123.drop 0) [.ref 83, .int a1, .null, .null, .null, .null, .null, .null, .null, .null] [] s Q := by
  unfold v_123_0 at h
  refine zn_ld rfl rfl rfl ?_
  refine zn_get (v := .ref 39) rfl (zv_C (a := 83) (n := 0) rfl rfl rfl) ?_
  refine zn_ld rfl rfl rfl ?_
  refine zn_c [.int 0, .int a1, .ref 39] (xo_push (.int 0)) rfl rfl ?_
  refine zn_zt [.ref 39, .int a1, .int 0] [] (c := []) rfl rfl rfl rfl rfl (Zt.imp (zp_43 hd (Or.inr rfl)) (fun vq sq hq => ?_))
  obtain ⟨rfl, hq⟩ := hq
  rw [hq]
  change Zn _ _ _ _ _ _ _ _ _ _ _ [.int (zg s 71 (a1 * 3 + 0))] _ _
  refine zn_brP rfl rfl ⟨fun hcn => ?_, fun hcn => ?_⟩
  · replace h := h.1 ((i_le (x := 0) (y := zg s 71 (a1 * 3 + 0)) (show (0 : Int32).toInt = 0 by decide) rfl).mp hcn)
    refine zn_c [.int 0] (xo_push (.int 0)) rfl rfl ?_
    exact m_123_9_39 hd  h
  · replace h := h.2 (fun q => hcn ((i_le (x := 0) (y := zg s 71 (a1 * 3 + 0)) (show (0 : Int32).toInt = 0 by decide) rfl).mpr q))
    refine zn_c [.int 1] (xo_push (.int 1)) rfl rfl ?_
    refine zn_go rfl ?_
    exact m_123_9_39 hd  h
theorem zq_123_39 {d : Nat} {a1 : Int32} {s : zS} {Q : Option Value → zS → Prop} (h : v_123_0 (fun j => Zt (d + 8) (wd 39 j) j) 39 a1 s Q) : Zt (d + 9) ([(83, 1, 39), (83, 2, 40), (75, 0, 39), (75, 1, 57), (75, 2, 61)] : zW) 123 [.ref 83, .int a1] s Q := zt_of (E := xE_123) (L := xL_10) (ml := 8) (ret := some .int) rfl rfl rfl (m_123_0_39 rfl h)
theorem zc_123 {d P : Nat} (hP : P = 3 ∨ P = 39) {a1 : Int32} {s : zS} {Q : Option Value → zS → Prop} (h : v_123_0 (fun j => Zt (d + 8) (wd P j) j) P a1 s Q) : Zt (d + 9) (wd P 123) 123 [.ref 83, .int a1] s Q := by
  rcases hP with rfl | rfl
  · exact zq_123_3 h
  · exact zq_123_39 h
/-! FeatherBench$Told.isOneScope -/
def v_124_34 (T : Nat → List Value → zS → (Option Value → zS → Prop) → Prop) (P : Nat)  (a1 : Int32) (a2 : Int32) (a3 : Int32) (a4 : Int32) (t0 : Int32) (s : zS) (Q : Option Value → zS → Prop) : Prop :=
  (t0.toInt = 0 ∨ t0.toInt = 1) ∧ Q (some (.int t0)) s
def v_124_33 (T : Nat → List Value → zS → (Option Value → zS → Prop) → Prop) (P : Nat)  (a1 : Int32) (a2 : Int32) (a3 : Int32) (a4 : Int32) (s : zS) (Q : Option Value → zS → Prop) : Prop :=
  v_124_34 T P  a1 a2 a3 a4 0 s Q
def v_124_31 (T : Nat → List Value → zS → (Option Value → zS → Prop) → Prop) (P : Nat)  (a1 : Int32) (a2 : Int32) (a3 : Int32) (a4 : Int32) (s : zS) (Q : Option Value → zS → Prop) : Prop :=
  v_124_34 T P  a1 a2 a3 a4 1 s Q
def v_124_0 (T : Nat → List Value → zS → (Option Value → zS → Prop) → Prop) (P : Nat)  (a1 : Int32) (a2 : Int32) (s : zS) (Q : Option Value → zS → Prop) : Prop :=
  (¬ ((zg s (P + 30) (a2 * 5 + 4)).toInt = (zg s (P + 30) (a1 * 5 + 4)).toInt) → v_124_33 T P  a1 a2 (zg s (P + 30) (a2 * 5 + 1)) (zg s (P + 30) (a1 * 5 + 1)) s Q) ∧ ((zg s (P + 30) (a2 * 5 + 4)).toInt = (zg s (P + 30) (a1 * 5 + 4)).toInt → ((zg s (P + 30) (a2 * 5 + 1)).toInt = (zg s (P + 30) (a1 * 5 + 1)).toInt → v_124_31 T P  a1 a2 (zg s (P + 30) (a2 * 5 + 1)) (zg s (P + 30) (a1 * 5 + 1)) s Q) ∧ (¬ ((zg s (P + 30) (a2 * 5 + 1)).toInt = (zg s (P + 30) (a1 * 5 + 1)).toInt) → (¬ ((zg s (P + 30) (a2 * 5 + 1)).toInt = 0) → v_124_33 T P  a1 a2 (zg s (P + 30) (a2 * 5 + 1)) (zg s (P + 30) (a1 * 5 + 1)) s Q) ∧ ((zg s (P + 30) (a2 * 5 + 1)).toInt = 0 → (¬ ((zg s (P + 30) (a1 * 5 + 1)).toInt = 1) → v_124_33 T P  a1 a2 (zg s (P + 30) (a2 * 5 + 1)) (zg s (P + 30) (a1 * 5 + 1)) s Q) ∧ ((zg s (P + 30) (a1 * 5 + 1)).toInt = 1 → v_124_31 T P  a1 a2 (zg s (P + 30) (a2 * 5 + 1)) (zg s (P + 30) (a1 * 5 + 1)) s Q))))
set_option maxRecDepth 20000 in
theorem m_124_34_3 {d d0 : Nat} (hd : d = d0 + 8)  {a1 : Int32} {a2 : Int32} {a3 : Int32} {a4 : Int32} {t0 : Int32} {s : zS} {Q : Option Value → zS → Prop}  (h : v_124_34 (fun j => Zt d (wd 3 j) j) 3  a1 a2 a3 a4 t0 s Q) : Zn d [] [] ([(83, 1, 3), (83, 2, 4), (75, 0, 3), (75, 1, 21), (75, 2, 25)] : zW) ([(83, 1, 3), (83, 2, 4), (75, 0, 3), (75, 1, 21), (75, 2, 25)] : zW) xL_10 5 (some .boolean) xE_124 (xE_124.drop 34) [.ref 83, .int a1, .int a2, .int a3, .int a4, .null, .null, .null] [.int t0] s Q := by
  unfold v_124_34 at h
  exact zn_retZ rfl (i_z (x := t0) rfl h.1) h.2
set_option maxRecDepth 20000 in
theorem m_124_33_3 {d d0 : Nat} (hd : d = d0 + 8)  {a1 : Int32} {a2 : Int32} {a3 : Int32} {a4 : Int32} {s : zS} {Q : Option Value → zS → Prop}  (h : v_124_33 (fun j => Zt d (wd 3 j) j) 3  a1 a2 a3 a4 s Q) : Zn d [] [] ([(83, 1, 3), (83, 2, 4), (75, 0, 3), (75, 1, 21), (75, 2, 25)] : zW) ([(83, 1, 3), (83, 2, 4), (75, 0, 3), (75, 1, 21), (75, 2, 25)] : zW) xL_10 5 (some .boolean) xE_124 (xE_124.drop 33) [.ref 83, .int a1, .int a2, .int a3, .int a4, .null, .null, .null] [] s Q := by
  unfold v_124_33 at h
  refine zn_c [.int 0] (xo_push (.int 0)) rfl rfl ?_
  exact m_124_34_3 hd  h
set_option maxRecDepth 20000 in
theorem m_124_31_3 {d d0 : Nat} (hd : d = d0 + 8)  {a1 : Int32} {a2 : Int32} {a3 : Int32} {a4 : Int32} {s : zS} {Q : Option Value → zS → Prop}  (h : v_124_31 (fun j => Zt d (wd 3 j) j) 3  a1 a2 a3 a4 s Q) : Zn d [] [] ([(83, 1, 3), (83, 2, 4), (75, 0, 3), (75, 1, 21), (75, 2, 25)] : zW) ([(83, 1, 3), (83, 2, 4), (75, 0, 3), (75, 1, 21), (75, 2, 25)] : zW) xL_10 5 (some .boolean) xE_124 (xE_124.drop 31) [.ref 83, .int a1, .int a2, .int a3, .int a4, .null, .null, .null] [] s Q := by
  unfold v_124_31 at h
  refine zn_c [.int 1] (xo_push (.int 1)) rfl rfl ?_
  refine zn_go rfl ?_
  exact m_124_34_3 hd  h
set_option maxRecDepth 20000 in
theorem m_124_0_3 {d d0 : Nat} (hd : d = d0 + 8)  {a1 : Int32} {a2 : Int32} {s : zS} {Q : Option Value → zS → Prop}  (h : v_124_0 (fun j => Zt d (wd 3 j) j) 3  a1 a2 s Q) : Zn d [] [] ([(83, 1, 3), (83, 2, 4), (75, 0, 3), (75, 1, 21), (75, 2, 25)] : zW) ([(83, 1, 3), (83, 2, 4), (75, 0, 3), (75, 1, 21), (75, 2, 25)] : zW) xL_10 5 (some .boolean) xE_124 (xE_124.drop 0) [.ref 83, .int a1, .int a2, .null, .null, .null, .null, .null] [] s Q := by
  unfold v_124_0 at h
  refine zn_ld rfl rfl rfl ?_
  refine zn_get (v := .ref 3) rfl (zv_C (a := 83) (n := 0) rfl rfl rfl) ?_
  refine zn_ld rfl rfl rfl ?_
  refine zn_c [.int 1, .int a2, .ref 3] (xo_push (.int 1)) rfl rfl ?_
  refine zn_zt [.ref 3, .int a2, .int 1] [] (c := []) rfl rfl rfl rfl rfl (Zt.imp (zp_42 hd (Or.inl rfl)) (fun vq sq hq => ?_))
  obtain ⟨rfl, hq⟩ := hq
  rw [hq]
  change Zn _ _ _ _ _ _ _ _ _ _ _ [.int (zg s 33 (a2 * 5 + 1))] _ _
  refine zn_st [.ref 83, .int a1, .int a2, .int (zg s 33 (a2 * 5 + 1)), .null, .null, .null, .null] rfl rfl rfl ?_
  refine zn_ld rfl rfl rfl ?_
  refine zn_get (v := .ref 3) rfl (zv_C (a := 83) (n := 0) rfl rfl rfl) ?_
  refine zn_ld rfl rfl rfl ?_
  refine zn_c [.int 1, .int a1, .ref 3] (xo_push (.int 1)) rfl rfl ?_
  refine zn_zt [.ref 3, .int a1, .int 1] [] (c := []) rfl rfl rfl rfl rfl (Zt.imp (zp_42 hd (Or.inl rfl)) (fun vq sq hq => ?_))
  obtain ⟨rfl, hq⟩ := hq
  rw [hq]
  change Zn _ _ _ _ _ _ _ _ _ _ _ [.int (zg s 33 (a1 * 5 + 1))] _ _
  refine zn_st [.ref 83, .int a1, .int a2, .int (zg s 33 (a2 * 5 + 1)), .int (zg s 33 (a1 * 5 + 1)), .null, .null, .null] rfl rfl rfl ?_
  refine zn_ld rfl rfl rfl ?_
  refine zn_get (v := .ref 3) rfl (zv_C (a := 83) (n := 0) rfl rfl rfl) ?_
  refine zn_ld rfl rfl rfl ?_
  refine zn_c [.int 4, .int a2, .ref 3] (xo_push (.int 4)) rfl rfl ?_
  refine zn_zt [.ref 3, .int a2, .int 4] [] (c := []) rfl rfl rfl rfl rfl (Zt.imp (zp_42 hd (Or.inl rfl)) (fun vq sq hq => ?_))
  obtain ⟨rfl, hq⟩ := hq
  rw [hq]
  change Zn _ _ _ _ _ _ _ _ _ _ _ [.int (zg s 33 (a2 * 5 + 4))] _ _
  refine zn_ld rfl rfl rfl ?_
  refine zn_get (v := .ref 3) rfl (zv_C (a := 83) (n := 0) rfl rfl rfl) ?_
  refine zn_ld rfl rfl rfl ?_
  refine zn_c [.int 4, .int a1, .ref 3, .int (zg s 33 (a2 * 5 + 4))] (xo_push (.int 4)) rfl rfl ?_
  refine zn_zt [.ref 3, .int a1, .int 4] [.int (zg s 33 (a2 * 5 + 4))] (c := []) rfl rfl rfl rfl rfl (Zt.imp (zp_42 hd (Or.inl rfl)) (fun vq sq hq => ?_))
  obtain ⟨rfl, hq⟩ := hq
  rw [hq]
  change Zn _ _ _ _ _ _ _ _ _ _ _ [.int (zg s 33 (a1 * 5 + 4)), .int (zg s 33 (a2 * 5 + 4))] _ _
  refine zn_brN rfl rfl ⟨fun hcn => ?_, fun hcn => ?_⟩
  · replace h := h.1 (fun q => hcn ((i_eq (x := zg s 33 (a2 * 5 + 4)) (y := zg s 33 (a1 * 5 + 4)) rfl rfl).mpr q))
    exact m_124_33_3 hd  h
  · replace h := h.2 ((i_eq (x := zg s 33 (a2 * 5 + 4)) (y := zg s 33 (a1 * 5 + 4)) rfl rfl).mp hcn)
    refine zn_ld rfl rfl rfl ?_
    refine zn_ld rfl rfl rfl ?_
    refine zn_brP rfl rfl ⟨fun hcn => ?_, fun hcn => ?_⟩
    · replace h := h.1 ((i_eq (x := zg s 33 (a2 * 5 + 1)) (y := zg s 33 (a1 * 5 + 1)) rfl rfl).mp hcn)
      exact m_124_31_3 hd  h
    · replace h := h.2 (fun q => hcn ((i_eq (x := zg s 33 (a2 * 5 + 1)) (y := zg s 33 (a1 * 5 + 1)) rfl rfl).mpr q))
      refine zn_ld rfl rfl rfl ?_
      refine zn_brN rfl rfl ⟨fun hcn => ?_, fun hcn => ?_⟩
      · replace h := h.1 (fun q => hcn ((i_eq (x := zg s 33 (a2 * 5 + 1)) (y := 0) rfl (show (0 : Int32).toInt = 0 by decide)).mpr q))
        exact m_124_33_3 hd  h
      · replace h := h.2 ((i_eq (x := zg s 33 (a2 * 5 + 1)) (y := 0) rfl (show (0 : Int32).toInt = 0 by decide)).mp hcn)
        refine zn_ld rfl rfl rfl ?_
        refine zn_c [.int 1, .int (zg s 33 (a1 * 5 + 1))] (xo_push (.int 1)) rfl rfl ?_
        refine zn_brN rfl rfl ⟨fun hcn => ?_, fun hcn => ?_⟩
        · replace h := h.1 (fun q => hcn ((i_eq (x := zg s 33 (a1 * 5 + 1)) (y := 1) rfl (show (1 : Int32).toInt = 1 by decide)).mpr q))
          exact m_124_33_3 hd  h
        · replace h := h.2 ((i_eq (x := zg s 33 (a1 * 5 + 1)) (y := 1) rfl (show (1 : Int32).toInt = 1 by decide)).mp hcn)
          exact m_124_31_3 hd  h
theorem zq_124_3 {d : Nat} {a1 : Int32} {a2 : Int32} {s : zS} {Q : Option Value → zS → Prop} (h : v_124_0 (fun j => Zt (d + 8) (wd 3 j) j) 3 a1 a2 s Q) : Zt (d + 9) ([(83, 1, 3), (83, 2, 4), (75, 0, 3), (75, 1, 21), (75, 2, 25)] : zW) 124 [.ref 83, .int a1, .int a2] s Q := zt_of (E := xE_124) (L := xL_10) (ml := 5) (ret := some .boolean) rfl rfl rfl (m_124_0_3 rfl h)
set_option maxRecDepth 20000 in
theorem m_124_34_39 {d d0 : Nat} (hd : d = d0 + 8)  {a1 : Int32} {a2 : Int32} {a3 : Int32} {a4 : Int32} {t0 : Int32} {s : zS} {Q : Option Value → zS → Prop}  (h : v_124_34 (fun j => Zt d (wd 39 j) j) 39  a1 a2 a3 a4 t0 s Q) : Zn d [] [] ([(83, 1, 39), (83, 2, 40), (75, 0, 39), (75, 1, 57), (75, 2, 61)] : zW) ([(83, 1, 39), (83, 2, 40), (75, 0, 39), (75, 1, 57), (75, 2, 61)] : zW) xL_10 5 (some .boolean) xE_124 (xE_124.drop 34) [.ref 83, .int a1, .int a2, .int a3, .int a4, .null, .null, .null] [.int t0] s Q := by
  unfold v_124_34 at h
  exact zn_retZ rfl (i_z (x := t0) rfl h.1) h.2
set_option maxRecDepth 20000 in
theorem m_124_33_39 {d d0 : Nat} (hd : d = d0 + 8)  {a1 : Int32} {a2 : Int32} {a3 : Int32} {a4 : Int32} {s : zS} {Q : Option Value → zS → Prop}  (h : v_124_33 (fun j => Zt d (wd 39 j) j) 39  a1 a2 a3 a4 s Q) : Zn d [] [] ([(83, 1, 39), (83, 2, 40), (75, 0, 39), (75, 1, 57), (75, 2, 61)] : zW) ([(83, 1, 39), (83, 2, 40), (75, 0, 39), (75, 1, 57), (75, 2, 61)] : zW) xL_10 5 (some .boolean) xE_124 (xE_124.drop 33) [.ref 83, .int a1, .int a2, .int a3, .int a4, .null, .null, .null] [] s Q := by
  unfold v_124_33 at h
  refine zn_c [.int 0] (xo_push (.int 0)) rfl rfl ?_
  exact m_124_34_39 hd  h
set_option maxRecDepth 20000 in
theorem m_124_31_39 {d d0 : Nat} (hd : d = d0 + 8)  {a1 : Int32} {a2 : Int32} {a3 : Int32} {a4 : Int32} {s : zS} {Q : Option Value → zS → Prop}  (h : v_124_31 (fun j => Zt d (wd 39 j) j) 39  a1 a2 a3 a4 s Q) : Zn d [] [] ([(83, 1, 39), (83, 2, 40), (75, 0, 39), (75, 1, 57), (75, 2, 61)] : zW) ([(83, 1, 39), (83, 2, 40), (75, 0, 39), (75, 1, 57), (75, 2, 61)] : zW) xL_10 5 (some .boolean) xE_124 (xE_124.drop 31) [.ref 83, .int a1, .int a2, .int a3, .int a4, .null, .null, .null] [] s Q := by
  unfold v_124_31 at h
  refine zn_c [.int 1] (xo_push (.int 1)) rfl rfl ?_
  refine zn_go rfl ?_
  exact m_124_34_39 hd  h
set_option maxRecDepth 20000 in
theorem m_124_0_39 {d d0 : Nat} (hd : d = d0 + 8)  {a1 : Int32} {a2 : Int32} {s : zS} {Q : Option Value → zS → Prop}  (h : v_124_0 (fun j => Zt d (wd 39 j) j) 39  a1 a2 s Q) : Zn d [] [] ([(83, 1, 39), (83, 2, 40), (75, 0, 39), (75, 1, 57), (75, 2, 61)] : zW) ([(83, 1, 39), (83, 2, 40), (75, 0, 39), (75, 1, 57), (75, 2, 61)] : zW) xL_10 5 (some .boolean) xE_124 (xE_124.drop 0) [.ref 83, .int a1, .int a2, .null, .null, .null, .null, .null] [] s Q := by
  unfold v_124_0 at h
  refine zn_ld rfl rfl rfl ?_
  refine zn_get (v := .ref 39) rfl (zv_C (a := 83) (n := 0) rfl rfl rfl) ?_
  refine zn_ld rfl rfl rfl ?_
  refine zn_c [.int 1, .int a2, .ref 39] (xo_push (.int 1)) rfl rfl ?_
  refine zn_zt [.ref 39, .int a2, .int 1] [] (c := []) rfl rfl rfl rfl rfl (Zt.imp (zp_42 hd (Or.inr rfl)) (fun vq sq hq => ?_))
  obtain ⟨rfl, hq⟩ := hq
  rw [hq]
  change Zn _ _ _ _ _ _ _ _ _ _ _ [.int (zg s 69 (a2 * 5 + 1))] _ _
  refine zn_st [.ref 83, .int a1, .int a2, .int (zg s 69 (a2 * 5 + 1)), .null, .null, .null, .null] rfl rfl rfl ?_
  refine zn_ld rfl rfl rfl ?_
  refine zn_get (v := .ref 39) rfl (zv_C (a := 83) (n := 0) rfl rfl rfl) ?_
  refine zn_ld rfl rfl rfl ?_
  refine zn_c [.int 1, .int a1, .ref 39] (xo_push (.int 1)) rfl rfl ?_
  refine zn_zt [.ref 39, .int a1, .int 1] [] (c := []) rfl rfl rfl rfl rfl (Zt.imp (zp_42 hd (Or.inr rfl)) (fun vq sq hq => ?_))
  obtain ⟨rfl, hq⟩ := hq
  rw [hq]
  change Zn _ _ _ _ _ _ _ _ _ _ _ [.int (zg s 69 (a1 * 5 + 1))] _ _
  refine zn_st [.ref 83, .int a1, .int a2, .int (zg s 69 (a2 * 5 + 1)), .int (zg s 69 (a1 * 5 + 1)), .null, .null, .null] rfl rfl rfl ?_
  refine zn_ld rfl rfl rfl ?_
  refine zn_get (v := .ref 39) rfl (zv_C (a := 83) (n := 0) rfl rfl rfl) ?_
  refine zn_ld rfl rfl rfl ?_
  refine zn_c [.int 4, .int a2, .ref 39] (xo_push (.int 4)) rfl rfl ?_
  refine zn_zt [.ref 39, .int a2, .int 4] [] (c := []) rfl rfl rfl rfl rfl (Zt.imp (zp_42 hd (Or.inr rfl)) (fun vq sq hq => ?_))
  obtain ⟨rfl, hq⟩ := hq
  rw [hq]
  change Zn _ _ _ _ _ _ _ _ _ _ _ [.int (zg s 69 (a2 * 5 + 4))] _ _
  refine zn_ld rfl rfl rfl ?_
  refine zn_get (v := .ref 39) rfl (zv_C (a := 83) (n := 0) rfl rfl rfl) ?_
  refine zn_ld rfl rfl rfl ?_
  refine zn_c [.int 4, .int a1, .ref 39, .int (zg s 69 (a2 * 5 + 4))] (xo_push (.int 4)) rfl rfl ?_
  refine zn_zt [.ref 39, .int a1, .int 4] [.int (zg s 69 (a2 * 5 + 4))] (c := []) rfl rfl rfl rfl rfl (Zt.imp (zp_42 hd (Or.inr rfl)) (fun vq sq hq => ?_))
  obtain ⟨rfl, hq⟩ := hq
  rw [hq]
  change Zn _ _ _ _ _ _ _ _ _ _ _ [.int (zg s 69 (a1 * 5 + 4)), .int (zg s 69 (a2 * 5 + 4))] _ _
  refine zn_brN rfl rfl ⟨fun hcn => ?_, fun hcn => ?_⟩
  · replace h := h.1 (fun q => hcn ((i_eq (x := zg s 69 (a2 * 5 + 4)) (y := zg s 69 (a1 * 5 + 4)) rfl rfl).mpr q))
    exact m_124_33_39 hd  h
  · replace h := h.2 ((i_eq (x := zg s 69 (a2 * 5 + 4)) (y := zg s 69 (a1 * 5 + 4)) rfl rfl).mp hcn)
    refine zn_ld rfl rfl rfl ?_
    refine zn_ld rfl rfl rfl ?_
    refine zn_brP rfl rfl ⟨fun hcn => ?_, fun hcn => ?_⟩
    · replace h := h.1 ((i_eq (x := zg s 69 (a2 * 5 + 1)) (y := zg s 69 (a1 * 5 + 1)) rfl rfl).mp hcn)
      exact m_124_31_39 hd  h
    · replace h := h.2 (fun q => hcn ((i_eq (x := zg s 69 (a2 * 5 + 1)) (y := zg s 69 (a1 * 5 + 1)) rfl rfl).mpr q))
      refine zn_ld rfl rfl rfl ?_
      refine zn_brN rfl rfl ⟨fun hcn => ?_, fun hcn => ?_⟩
      · replace h := h.1 (fun q => hcn ((i_eq (x := zg s 69 (a2 * 5 + 1)) (y := 0) rfl (show (0 : Int32).toInt = 0 by decide)).mpr q))
        exact m_124_33_39 hd  h
      · replace h := h.2 ((i_eq (x := zg s 69 (a2 * 5 + 1)) (y := 0) rfl (show (0 : Int32).toInt = 0 by decide)).mp hcn)
        refine zn_ld rfl rfl rfl ?_
        refine zn_c [.int 1, .int (zg s 69 (a1 * 5 + 1))] (xo_push (.int 1)) rfl rfl ?_
        refine zn_brN rfl rfl ⟨fun hcn => ?_, fun hcn => ?_⟩
        · replace h := h.1 (fun q => hcn ((i_eq (x := zg s 69 (a1 * 5 + 1)) (y := 1) rfl (show (1 : Int32).toInt = 1 by decide)).mpr q))
          exact m_124_33_39 hd  h
        · replace h := h.2 ((i_eq (x := zg s 69 (a1 * 5 + 1)) (y := 1) rfl (show (1 : Int32).toInt = 1 by decide)).mp hcn)
          exact m_124_31_39 hd  h
theorem zq_124_39 {d : Nat} {a1 : Int32} {a2 : Int32} {s : zS} {Q : Option Value → zS → Prop} (h : v_124_0 (fun j => Zt (d + 8) (wd 39 j) j) 39 a1 a2 s Q) : Zt (d + 9) ([(83, 1, 39), (83, 2, 40), (75, 0, 39), (75, 1, 57), (75, 2, 61)] : zW) 124 [.ref 83, .int a1, .int a2] s Q := zt_of (E := xE_124) (L := xL_10) (ml := 5) (ret := some .boolean) rfl rfl rfl (m_124_0_39 rfl h)
theorem zc_124 {d P : Nat} (hP : P = 3 ∨ P = 39) {a1 : Int32} {a2 : Int32} {s : zS} {Q : Option Value → zS → Prop} (h : v_124_0 (fun j => Zt (d + 8) (wd P j) j) P a1 a2 s Q) : Zt (d + 9) (wd P 124) 124 [.ref 83, .int a1, .int a2] s Q := by
  rcases hP with rfl | rfl
  · exact zq_124_3 h
  · exact zq_124_39 h
/-! FeatherBench$Told.isOneWord -/
def v_125_14 (T : Nat → List Value → zS → (Option Value → zS → Prop) → Prop) (P : Nat)  (a1 : Int32) (a2 : Int32) (t0 : Int32) (s : zS) (Q : Option Value → zS → Prop) : Prop :=
  (t0.toInt = 0 ∨ t0.toInt = 1) ∧ Q (some (.int t0)) s
def v_125_0 (T : Nat → List Value → zS → (Option Value → zS → Prop) → Prop) (P : Nat)  (a1 : Int32) (a2 : Int32) (s : zS) (Q : Option Value → zS → Prop) : Prop :=
  (¬ ((zg s (P + 10) a1).toInt = (zg s (P + 10) a2).toInt) → v_125_14 T P  a1 a2 0 s Q) ∧ ((zg s (P + 10) a1).toInt = (zg s (P + 10) a2).toInt → v_125_14 T P  a1 a2 1 s Q)
set_option maxRecDepth 20000 in
theorem m_125_14_3 {d d0 : Nat} (hd : d = d0 + 8)  {a1 : Int32} {a2 : Int32} {t0 : Int32} {s : zS} {Q : Option Value → zS → Prop}  (h : v_125_14 (fun j => Zt d (wd 3 j) j) 3  a1 a2 t0 s Q) : Zn d [] [] ([(83, 1, 3), (83, 2, 4), (75, 0, 3), (75, 1, 21), (75, 2, 25)] : zW) ([(83, 1, 3), (83, 2, 4), (75, 0, 3), (75, 1, 21), (75, 2, 25)] : zW) xL_10 3 (some .boolean) xE_125 (xE_125.drop 14) [.ref 83, .int a1, .int a2, .null, .null, .null] [.int t0] s Q := by
  unfold v_125_14 at h
  exact zn_retZ rfl (i_z (x := t0) rfl h.1) h.2
set_option maxRecDepth 20000 in
theorem m_125_0_3 {d d0 : Nat} (hd : d = d0 + 8)  {a1 : Int32} {a2 : Int32} {s : zS} {Q : Option Value → zS → Prop}  (h : v_125_0 (fun j => Zt d (wd 3 j) j) 3  a1 a2 s Q) : Zn d [] [] ([(83, 1, 3), (83, 2, 4), (75, 0, 3), (75, 1, 21), (75, 2, 25)] : zW) ([(83, 1, 3), (83, 2, 4), (75, 0, 3), (75, 1, 21), (75, 2, 25)] : zW) xL_10 3 (some .boolean) xE_125 (xE_125.drop 0) [.ref 83, .int a1, .int a2, .null, .null, .null] [] s Q := by
  unfold v_125_0 at h
  refine zn_ld rfl rfl rfl ?_
  refine zn_get (v := .ref 4) rfl (zv_C (a := 83) (n := 1) rfl rfl rfl) ?_
  refine zn_get (v := .ref 13) rfl (zv_R (a := 4) rfl rfl) ?_
  refine zn_ld rfl rfl rfl ?_
  refine zn_row a1 [] (a := 13) hd rfl rfl rfl rfl ?_
  change Zn _ _ _ _ _ _ _ _ _ _ _ [.int (zg s 13 a1)] _ _
  refine zn_ld rfl rfl rfl ?_
  refine zn_get (v := .ref 4) rfl (zv_C (a := 83) (n := 1) rfl rfl rfl) ?_
  refine zn_get (v := .ref 13) rfl (zv_R (a := 4) rfl rfl) ?_
  refine zn_ld rfl rfl rfl ?_
  refine zn_row a2 [.int (zg s 13 a1)] (a := 13) hd rfl rfl rfl rfl ?_
  change Zn _ _ _ _ _ _ _ _ _ _ _ [.int (zg s 13 a2), .int (zg s 13 a1)] _ _
  refine zn_brN rfl rfl ⟨fun hcn => ?_, fun hcn => ?_⟩
  · replace h := h.1 (fun q => hcn ((i_eq (x := zg s 13 a1) (y := zg s 13 a2) rfl rfl).mpr q))
    refine zn_c [.int 0] (xo_push (.int 0)) rfl rfl ?_
    exact m_125_14_3 hd  h
  · replace h := h.2 ((i_eq (x := zg s 13 a1) (y := zg s 13 a2) rfl rfl).mp hcn)
    refine zn_c [.int 1] (xo_push (.int 1)) rfl rfl ?_
    refine zn_go rfl ?_
    exact m_125_14_3 hd  h
theorem zq_125_3 {d : Nat} {a1 : Int32} {a2 : Int32} {s : zS} {Q : Option Value → zS → Prop} (h : v_125_0 (fun j => Zt (d + 8) (wd 3 j) j) 3 a1 a2 s Q) : Zt (d + 9) ([(83, 1, 3), (83, 2, 4), (75, 0, 3), (75, 1, 21), (75, 2, 25)] : zW) 125 [.ref 83, .int a1, .int a2] s Q := zt_of (E := xE_125) (L := xL_10) (ml := 3) (ret := some .boolean) rfl rfl rfl (m_125_0_3 rfl h)
set_option maxRecDepth 20000 in
theorem m_125_14_39 {d d0 : Nat} (hd : d = d0 + 8)  {a1 : Int32} {a2 : Int32} {t0 : Int32} {s : zS} {Q : Option Value → zS → Prop}  (h : v_125_14 (fun j => Zt d (wd 39 j) j) 39  a1 a2 t0 s Q) : Zn d [] [] ([(83, 1, 39), (83, 2, 40), (75, 0, 39), (75, 1, 57), (75, 2, 61)] : zW) ([(83, 1, 39), (83, 2, 40), (75, 0, 39), (75, 1, 57), (75, 2, 61)] : zW) xL_10 3 (some .boolean) xE_125 (xE_125.drop 14) [.ref 83, .int a1, .int a2, .null, .null, .null] [.int t0] s Q := by
  unfold v_125_14 at h
  exact zn_retZ rfl (i_z (x := t0) rfl h.1) h.2
set_option maxRecDepth 20000 in
theorem m_125_0_39 {d d0 : Nat} (hd : d = d0 + 8)  {a1 : Int32} {a2 : Int32} {s : zS} {Q : Option Value → zS → Prop}  (h : v_125_0 (fun j => Zt d (wd 39 j) j) 39  a1 a2 s Q) : Zn d [] [] ([(83, 1, 39), (83, 2, 40), (75, 0, 39), (75, 1, 57), (75, 2, 61)] : zW) ([(83, 1, 39), (83, 2, 40), (75, 0, 39), (75, 1, 57), (75, 2, 61)] : zW) xL_10 3 (some .boolean) xE_125 (xE_125.drop 0) [.ref 83, .int a1, .int a2, .null, .null, .null] [] s Q := by
  unfold v_125_0 at h
  refine zn_ld rfl rfl rfl ?_
  refine zn_get (v := .ref 40) rfl (zv_C (a := 83) (n := 1) rfl rfl rfl) ?_
  refine zn_get (v := .ref 49) rfl (zv_R (a := 40) rfl rfl) ?_
  refine zn_ld rfl rfl rfl ?_
  refine zn_row a1 [] (a := 49) hd rfl rfl rfl rfl ?_
  change Zn _ _ _ _ _ _ _ _ _ _ _ [.int (zg s 49 a1)] _ _
  refine zn_ld rfl rfl rfl ?_
  refine zn_get (v := .ref 40) rfl (zv_C (a := 83) (n := 1) rfl rfl rfl) ?_
  refine zn_get (v := .ref 49) rfl (zv_R (a := 40) rfl rfl) ?_
  refine zn_ld rfl rfl rfl ?_
  refine zn_row a2 [.int (zg s 49 a1)] (a := 49) hd rfl rfl rfl rfl ?_
  change Zn _ _ _ _ _ _ _ _ _ _ _ [.int (zg s 49 a2), .int (zg s 49 a1)] _ _
  refine zn_brN rfl rfl ⟨fun hcn => ?_, fun hcn => ?_⟩
  · replace h := h.1 (fun q => hcn ((i_eq (x := zg s 49 a1) (y := zg s 49 a2) rfl rfl).mpr q))
    refine zn_c [.int 0] (xo_push (.int 0)) rfl rfl ?_
    exact m_125_14_39 hd  h
  · replace h := h.2 ((i_eq (x := zg s 49 a1) (y := zg s 49 a2) rfl rfl).mp hcn)
    refine zn_c [.int 1] (xo_push (.int 1)) rfl rfl ?_
    refine zn_go rfl ?_
    exact m_125_14_39 hd  h
theorem zq_125_39 {d : Nat} {a1 : Int32} {a2 : Int32} {s : zS} {Q : Option Value → zS → Prop} (h : v_125_0 (fun j => Zt (d + 8) (wd 39 j) j) 39 a1 a2 s Q) : Zt (d + 9) ([(83, 1, 39), (83, 2, 40), (75, 0, 39), (75, 1, 57), (75, 2, 61)] : zW) 125 [.ref 83, .int a1, .int a2] s Q := zt_of (E := xE_125) (L := xL_10) (ml := 3) (ret := some .boolean) rfl rfl rfl (m_125_0_39 rfl h)
theorem zc_125 {d P : Nat} (hP : P = 3 ∨ P = 39) {a1 : Int32} {a2 : Int32} {s : zS} {Q : Option Value → zS → Prop} (h : v_125_0 (fun j => Zt (d + 8) (wd P j) j) P a1 a2 s Q) : Zt (d + 9) (wd P 125) 125 [.ref 83, .int a1, .int a2] s Q := by
  rcases hP with rfl | rfl
  · exact zq_125_3 h
  · exact zq_125_39 h
/-! FeatherBench$Told.twiceOfType -/
def v_126_50 (T : Nat → List Value → zS → (Option Value → zS → Prop) → Prop) (P : Nat) (R45 : Int32 → Int32 → Int32 → Int32 → Int32 → zS → Prop) (R50 : Int32 → Int32 → Int32 → Int32 → Int32 → Int32 → zS → Prop) (a1 : Int32) (a2 : Int32) (a3 : Int32) (a4 : Int32) (a5 : Int32) (a6 : Int32) (s : zS) (Q : Option Value → zS → Prop) : Prop :=
  (a5.toInt ≤ a6.toInt → ∀ x1 : Int32, (-2147483648 ≤ a5.toInt + 1 ∧ a5.toInt + 1 ≤ 2147483647 → x1.toInt = a5.toInt + 1) → R45 a1 a2 a3 a4 x1 s) ∧ (¬ (a5.toInt ≤ a6.toInt) → ∀ x2 : Int32, (-2147483648 ≤ a3.toInt + a5.toInt ∧ a3.toInt + a5.toInt ≤ 2147483647 → x2.toInt = a3.toInt + a5.toInt) → ∀ x4 : Int32, (-2147483648 ≤ a3.toInt + a6.toInt ∧ a3.toInt + a6.toInt ≤ 2147483647 → x4.toInt = a3.toInt + a6.toInt) → (¬ ((zg s (P + 28) (x2 * 5 + 1)).toInt = (zg s (P + 28) (x4 * 5 + 1)).toInt) → ∀ x6 : Int32, (-2147483648 ≤ a6.toInt + 1 ∧ a6.toInt + 1 ≤ 2147483647 → x6.toInt = a6.toInt + 1) → R50 a1 a2 a3 a4 a5 x6 s) ∧ ((zg s (P + 28) (x2 * 5 + 1)).toInt = (zg s (P + 28) (x4 * 5 + 1)).toInt → ∀ x7 : Int32, (-2147483648 ≤ a3.toInt + a5.toInt ∧ a3.toInt + a5.toInt ≤ 2147483647 → x7.toInt = a3.toInt + a5.toInt) → Q (some (.int (zg s (P + 28) (x7 * 5 + 0)))) s))
def vl_126_50 (T : Nat → List Value → zS → (Option Value → zS → Prop) → Prop) (P : Nat) (R45 : Int32 → Int32 → Int32 → Int32 → Int32 → zS → Prop) (a1 : Int32) (a2 : Int32) (a3 : Int32) (a4 : Int32) (a5 : Int32) (a6 : Int32) (s : zS) (Q : Option Value → zS → Prop) : Prop :=
  ∃ (I : Int32 → Int32 → Int32 → Int32 → Int32 → Int32 → zS → Prop) (μ : Int32 → Int32 → Int32 → Int32 → Int32 → Int32 → zS → Nat), I a1 a2 a3 a4 a5 a6 s ∧ ∀ (a1 : Int32) (a2 : Int32) (a3 : Int32) (a4 : Int32) (a5 : Int32) (a6 : Int32) (s : zS), I a1 a2 a3 a4 a5 a6 s → v_126_50 T P R45 (fun a1' a2' a3' a4' a5' a6' s' => I a1' a2' a3' a4' a5' a6' s' ∧ μ a1' a2' a3' a4' a5' a6' s' < μ a1 a2 a3 a4 a5 a6 s) a1 a2 a3 a4 a5 a6 s Q
def v_126_45 (T : Nat → List Value → zS → (Option Value → zS → Prop) → Prop) (P : Nat) (R45 : Int32 → Int32 → Int32 → Int32 → Int32 → zS → Prop) (a1 : Int32) (a2 : Int32) (a3 : Int32) (a4 : Int32) (a5 : Int32) (s : zS) (Q : Option Value → zS → Prop) : Prop :=
  (a4.toInt ≤ a5.toInt → Q (some (.int 1000000)) s) ∧ (¬ (a4.toInt ≤ a5.toInt) → vl_126_50 T P R45 a1 a2 a3 a4 a5 0 s Q)
def vl_126_45 (T : Nat → List Value → zS → (Option Value → zS → Prop) → Prop) (P : Nat)  (a1 : Int32) (a2 : Int32) (a3 : Int32) (a4 : Int32) (a5 : Int32) (s : zS) (Q : Option Value → zS → Prop) : Prop :=
  ∃ (I : Int32 → Int32 → Int32 → Int32 → Int32 → zS → Prop) (μ : Int32 → Int32 → Int32 → Int32 → Int32 → zS → Nat), I a1 a2 a3 a4 a5 s ∧ ∀ (a1 : Int32) (a2 : Int32) (a3 : Int32) (a4 : Int32) (a5 : Int32) (s : zS), I a1 a2 a3 a4 a5 s → v_126_45 T P (fun a1' a2' a3' a4' a5' s' => I a1' a2' a3' a4' a5' s' ∧ μ a1' a2' a3' a4' a5' s' < μ a1 a2 a3 a4 a5 s) a1 a2 a3 a4 a5 s Q
def v_126_42 (T : Nat → List Value → zS → (Option Value → zS → Prop) → Prop) (P : Nat)  (a1 : Int32) (a2 : Int32) (a3 : Int32) (t0 : Int32) (s : zS) (Q : Option Value → zS → Prop) : Prop :=
  vl_126_45 T P  a1 a2 a3 t0 0 s Q
def v_126_8 (T : Nat → List Value → zS → (Option Value → zS → Prop) → Prop) (P : Nat) (R8 : Int32 → Int32 → Int32 → zS → Prop) (a1 : Int32) (a2 : Int32) (a3 : Int32) (s : zS) (Q : Option Value → zS → Prop) : Prop :=
  (a1.toInt ≤ a3.toInt → ((zInf s P a1).toInt = 0 → v_126_42 T P  a1 a2 (zg s (P + 24) (a1 * 6 + 3)) 0 s Q) ∧ (¬ ((zInf s P a1).toInt = 0) → v_126_42 T P  a1 a2 (zg s (P + 24) (a1 * 6 + 3)) (zg s (P + 24) (a1 * 6 + 4)) s Q)) ∧ (¬ (a1.toInt ≤ a3.toInt) → T 125 [.ref 83, .int (zg s (P + 24) (a3 * 6 + 0)), .int a2] s (fun v4 s5 => ∃ x6, v4 = some (.int x6) ∧ ((x6.toInt = 0 → ∀ x7 : Int32, (-2147483648 ≤ a3.toInt + 1 ∧ a3.toInt + 1 ≤ 2147483647 → x7.toInt = a3.toInt + 1) → R8 a1 a2 x7 s5) ∧ (¬ (x6.toInt = 0) → Q (some (.int a2)) s5))))
def vl_126_8 (T : Nat → List Value → zS → (Option Value → zS → Prop) → Prop) (P : Nat)  (a1 : Int32) (a2 : Int32) (a3 : Int32) (s : zS) (Q : Option Value → zS → Prop) : Prop :=
  ∃ (I : Int32 → Int32 → Int32 → zS → Prop) (μ : Int32 → Int32 → Int32 → zS → Nat), I a1 a2 a3 s ∧ ∀ (a1 : Int32) (a2 : Int32) (a3 : Int32) (s : zS), I a1 a2 a3 s → v_126_8 T P (fun a1' a2' a3' s' => I a1' a2' a3' s' ∧ μ a1' a2' a3' s' < μ a1 a2 a3 s) a1 a2 a3 s Q
def v_126_0 (T : Nat → List Value → zS → (Option Value → zS → Prop) → Prop) (P : Nat)  (a1 : Int32) (s : zS) (Q : Option Value → zS → Prop) : Prop :=
  vl_126_8 T P  a1 (zg s (P + 24) (a1 * 6 + 0)) 0 s Q
set_option maxRecDepth 20000 in
theorem m_126_50_3 {d d0 : Nat} (hd : d = d0 + 8) {R45 : Int32 → Int32 → Int32 → Int32 → Int32 → zS → Prop} {R50 : Int32 → Int32 → Int32 → Int32 → Int32 → Int32 → zS → Prop} {a1 : Int32} {a2 : Int32} {a3 : Int32} {a4 : Int32} {a5 : Int32} {a6 : Int32} {s : zS} {Q : Option Value → zS → Prop} (r45 : ∀ a1 a2 a3 a4 a5 s, R45 a1 a2 a3 a4 a5 s → Zn d [] [] ([(83, 1, 3), (83, 2, 4), (75, 0, 3), (75, 1, 21), (75, 2, 25)] : zW) ([(83, 1, 3), (83, 2, 4), (75, 0, 3), (75, 1, 21), (75, 2, 25)] : zW) xL_10 7 (some .int) xE_126 (xE_126.drop 45) [.ref 83, .int a1, .int a2, .int a3, .int a4, .int a5, .null, .null, .null] [] s Q) (r50 : ∀ a1 a2 a3 a4 a5 a6 s, R50 a1 a2 a3 a4 a5 a6 s → Zn d [] [] ([(83, 1, 3), (83, 2, 4), (75, 0, 3), (75, 1, 21), (75, 2, 25)] : zW) ([(83, 1, 3), (83, 2, 4), (75, 0, 3), (75, 1, 21), (75, 2, 25)] : zW) xL_10 7 (some .int) xE_126 (xE_126.drop 50) [.ref 83, .int a1, .int a2, .int a3, .int a4, .int a5, .int a6, .null, .null] [] s Q) (h : v_126_50 (fun j => Zt d (wd 3 j) j) 3 R45 R50 a1 a2 a3 a4 a5 a6 s Q) : Zn d [] [] ([(83, 1, 3), (83, 2, 4), (75, 0, 3), (75, 1, 21), (75, 2, 25)] : zW) ([(83, 1, 3), (83, 2, 4), (75, 0, 3), (75, 1, 21), (75, 2, 25)] : zW) xL_10 7 (some .int) xE_126 (xE_126.drop 50) [.ref 83, .int a1, .int a2, .int a3, .int a4, .int a5, .int a6, .null, .null] [] s Q := by
  unfold v_126_50 at h
  refine zn_ld rfl rfl rfl ?_
  refine zn_ld rfl rfl rfl ?_
  refine zn_brP rfl rfl ⟨fun hcn => ?_, fun hcn => ?_⟩
  · replace h := h.1 ((i_le (x := a5) (y := a6) rfl rfl).mp hcn)
    replace h := h _ (i_add (x := a5) (y := 1) rfl (show (1 : Int32).toInt = 1 by decide))
    refine zn_inc [.ref 83, .int a1, .int a2, .int a3, .int a4, .int (a5 + 1), .int a6, .null, .null] rfl rfl rfl rfl ?_
    refine zn_go rfl ?_
    refine zn_fg 6 ?_
    exact r45 a1 a2 a3 a4 (a5 + 1) s h
  · replace h := h.2 (fun q => hcn ((i_le (x := a5) (y := a6) rfl rfl).mpr q))
    refine zn_ld rfl rfl rfl ?_
    refine zn_get (v := .ref 3) rfl (zv_C (a := 83) (n := 0) rfl rfl rfl) ?_
    refine zn_ld rfl rfl rfl ?_
    refine zn_ld rfl rfl rfl ?_
    replace h := h _ (i_add (x := a3) (y := a5) rfl rfl)
    refine zn_c [.int (a3 + a5), .ref 3] xo_iadd rfl rfl ?_
    refine zn_c [.int 1, .int (a3 + a5), .ref 3] (xo_push (.int 1)) rfl rfl ?_
    refine zn_zt [.ref 3, .int (a3 + a5), .int 1] [] (c := []) rfl rfl rfl rfl rfl (Zt.imp (zp_41 hd (Or.inl rfl)) (fun vq sq hq => ?_))
    obtain ⟨rfl, hq⟩ := hq
    rw [hq]
    change Zn _ _ _ _ _ _ _ _ _ _ _ [.int (zg s 31 ((a3 + a5) * 5 + 1))] _ _
    refine zn_ld rfl rfl rfl ?_
    refine zn_get (v := .ref 3) rfl (zv_C (a := 83) (n := 0) rfl rfl rfl) ?_
    refine zn_ld rfl rfl rfl ?_
    refine zn_ld rfl rfl rfl ?_
    replace h := h _ (i_add (x := a3) (y := a6) rfl rfl)
    refine zn_c [.int (a3 + a6), .ref 3, .int (zg s 31 ((a3 + a5) * 5 + 1))] xo_iadd rfl rfl ?_
    refine zn_c [.int 1, .int (a3 + a6), .ref 3, .int (zg s 31 ((a3 + a5) * 5 + 1))] (xo_push (.int 1)) rfl rfl ?_
    refine zn_zt [.ref 3, .int (a3 + a6), .int 1] [.int (zg s 31 ((a3 + a5) * 5 + 1))] (c := []) rfl rfl rfl rfl rfl (Zt.imp (zp_41 hd (Or.inl rfl)) (fun vq sq hq => ?_))
    obtain ⟨rfl, hq⟩ := hq
    rw [hq]
    change Zn _ _ _ _ _ _ _ _ _ _ _ [.int (zg s 31 ((a3 + a6) * 5 + 1)), .int (zg s 31 ((a3 + a5) * 5 + 1))] _ _
    refine zn_brN rfl rfl ⟨fun hcn => ?_, fun hcn => ?_⟩
    · replace h := h.1 (fun q => hcn ((i_eq (x := zg s 31 ((a3 + a5) * 5 + 1)) (y := zg s 31 ((a3 + a6) * 5 + 1)) rfl rfl).mpr q))
      replace h := h _ (i_add (x := a6) (y := 1) rfl (show (1 : Int32).toInt = 1 by decide))
      refine zn_inc [.ref 83, .int a1, .int a2, .int a3, .int a4, .int a5, .int (a6 + 1), .null, .null] rfl rfl rfl rfl ?_
      refine zn_go rfl ?_
      exact r50 a1 a2 a3 a4 a5 (a6 + 1) s h
    · replace h := h.2 ((i_eq (x := zg s 31 ((a3 + a5) * 5 + 1)) (y := zg s 31 ((a3 + a6) * 5 + 1)) rfl rfl).mp hcn)
      refine zn_ld rfl rfl rfl ?_
      refine zn_get (v := .ref 3) rfl (zv_C (a := 83) (n := 0) rfl rfl rfl) ?_
      refine zn_ld rfl rfl rfl ?_
      refine zn_ld rfl rfl rfl ?_
      replace h := h _ (i_add (x := a3) (y := a5) rfl rfl)
      refine zn_c [.int (a3 + a5), .ref 3] xo_iadd rfl rfl ?_
      refine zn_c [.int 0, .int (a3 + a5), .ref 3] (xo_push (.int 0)) rfl rfl ?_
      refine zn_zt [.ref 3, .int (a3 + a5), .int 0] [] (c := []) rfl rfl rfl rfl rfl (Zt.imp (zp_41 hd (Or.inl rfl)) (fun vq sq hq => ?_))
      obtain ⟨rfl, hq⟩ := hq
      rw [hq]
      change Zn _ _ _ _ _ _ _ _ _ _ _ [.int (zg s 31 ((a3 + a5) * 5 + 0))] _ _
      exact zn_retI rfl h
theorem ml_126_50_3 {d d0 : Nat} (hd : d = d0 + 8) {R45 : Int32 → Int32 → Int32 → Int32 → Int32 → zS → Prop} {a1 : Int32} {a2 : Int32} {a3 : Int32} {a4 : Int32} {a5 : Int32} {a6 : Int32} {s : zS} {Q : Option Value → zS → Prop} (r45 : ∀ a1 a2 a3 a4 a5 s, R45 a1 a2 a3 a4 a5 s → Zn d [] [] ([(83, 1, 3), (83, 2, 4), (75, 0, 3), (75, 1, 21), (75, 2, 25)] : zW) ([(83, 1, 3), (83, 2, 4), (75, 0, 3), (75, 1, 21), (75, 2, 25)] : zW) xL_10 7 (some .int) xE_126 (xE_126.drop 45) [.ref 83, .int a1, .int a2, .int a3, .int a4, .int a5, .null, .null, .null] [] s Q) (h : vl_126_50 (fun j => Zt d (wd 3 j) j) 3 R45 a1 a2 a3 a4 a5 a6 s Q) : Zn d [] [] ([(83, 1, 3), (83, 2, 4), (75, 0, 3), (75, 1, 21), (75, 2, 25)] : zW) ([(83, 1, 3), (83, 2, 4), (75, 0, 3), (75, 1, 21), (75, 2, 25)] : zW) xL_10 7 (some .int) xE_126 (xE_126.drop 50) [.ref 83, .int a1, .int a2, .int a3, .int a4, .int a5, .int a6, .null, .null] [] s Q := by
  obtain ⟨I, μ, h0, h1⟩ := h
  have key : ∀ (n : Nat) (a1 : Int32) (a2 : Int32) (a3 : Int32) (a4 : Int32) (a5 : Int32) (a6 : Int32) (s : zS), μ a1 a2 a3 a4 a5 a6 s = n → I a1 a2 a3 a4 a5 a6 s → Zn d [] [] ([(83, 1, 3), (83, 2, 4), (75, 0, 3), (75, 1, 21), (75, 2, 25)] : zW) ([(83, 1, 3), (83, 2, 4), (75, 0, 3), (75, 1, 21), (75, 2, 25)] : zW) xL_10 7 (some .int) xE_126 (xE_126.drop 50) [.ref 83, .int a1, .int a2, .int a3, .int a4, .int a5, .int a6, .null, .null] [] s Q := by
    intro n
    induction n using Nat.strongRecOn with
    | ind n ih =>
      intro a1 a2 a3 a4 a5 a6 s e hI
      exact m_126_50_3 hd r45 (fun a1' a2' a3' a4' a5' a6' s' q => ih _ (by rw [← e]; exact q.2) a1' a2' a3' a4' a5' a6' s' rfl q.1) (h1 a1 a2 a3 a4 a5 a6 s hI)
  exact key _ a1 a2 a3 a4 a5 a6 s rfl h0
set_option maxRecDepth 20000 in
theorem m_126_45_3 {d d0 : Nat} (hd : d = d0 + 8) {R45 : Int32 → Int32 → Int32 → Int32 → Int32 → zS → Prop} {a1 : Int32} {a2 : Int32} {a3 : Int32} {a4 : Int32} {a5 : Int32} {s : zS} {Q : Option Value → zS → Prop} (r45 : ∀ a1 a2 a3 a4 a5 s, R45 a1 a2 a3 a4 a5 s → Zn d [] [] ([(83, 1, 3), (83, 2, 4), (75, 0, 3), (75, 1, 21), (75, 2, 25)] : zW) ([(83, 1, 3), (83, 2, 4), (75, 0, 3), (75, 1, 21), (75, 2, 25)] : zW) xL_10 7 (some .int) xE_126 (xE_126.drop 45) [.ref 83, .int a1, .int a2, .int a3, .int a4, .int a5, .null, .null, .null] [] s Q) (h : v_126_45 (fun j => Zt d (wd 3 j) j) 3 R45 a1 a2 a3 a4 a5 s Q) : Zn d [] [] ([(83, 1, 3), (83, 2, 4), (75, 0, 3), (75, 1, 21), (75, 2, 25)] : zW) ([(83, 1, 3), (83, 2, 4), (75, 0, 3), (75, 1, 21), (75, 2, 25)] : zW) xL_10 7 (some .int) xE_126 (xE_126.drop 45) [.ref 83, .int a1, .int a2, .int a3, .int a4, .int a5, .null, .null, .null] [] s Q := by
  unfold v_126_45 at h
  refine zn_ld rfl rfl rfl ?_
  refine zn_ld rfl rfl rfl ?_
  refine zn_brP rfl rfl ⟨fun hcn => ?_, fun hcn => ?_⟩
  · replace h := h.1 ((i_le (x := a4) (y := a5) rfl rfl).mp hcn)
    refine zn_c [.int 1000000] (xo_push (.int 1000000)) rfl rfl ?_
    exact zn_retI rfl h
  · replace h := h.2 (fun q => hcn ((i_le (x := a4) (y := a5) rfl rfl).mpr q))
    refine zn_c [.int 0] (xo_push (.int 0)) rfl rfl ?_
    refine zn_st [.ref 83, .int a1, .int a2, .int a3, .int a4, .int a5, .int 0, .null, .null] rfl rfl rfl ?_
    exact ml_126_50_3 hd r45 h
theorem ml_126_45_3 {d d0 : Nat} (hd : d = d0 + 8)  {a1 : Int32} {a2 : Int32} {a3 : Int32} {a4 : Int32} {a5 : Int32} {s : zS} {Q : Option Value → zS → Prop}  (h : vl_126_45 (fun j => Zt d (wd 3 j) j) 3  a1 a2 a3 a4 a5 s Q) : Zn d [] [] ([(83, 1, 3), (83, 2, 4), (75, 0, 3), (75, 1, 21), (75, 2, 25)] : zW) ([(83, 1, 3), (83, 2, 4), (75, 0, 3), (75, 1, 21), (75, 2, 25)] : zW) xL_10 7 (some .int) xE_126 (xE_126.drop 45) [.ref 83, .int a1, .int a2, .int a3, .int a4, .int a5, .null, .null, .null] [] s Q := by
  obtain ⟨I, μ, h0, h1⟩ := h
  have key : ∀ (n : Nat) (a1 : Int32) (a2 : Int32) (a3 : Int32) (a4 : Int32) (a5 : Int32) (s : zS), μ a1 a2 a3 a4 a5 s = n → I a1 a2 a3 a4 a5 s → Zn d [] [] ([(83, 1, 3), (83, 2, 4), (75, 0, 3), (75, 1, 21), (75, 2, 25)] : zW) ([(83, 1, 3), (83, 2, 4), (75, 0, 3), (75, 1, 21), (75, 2, 25)] : zW) xL_10 7 (some .int) xE_126 (xE_126.drop 45) [.ref 83, .int a1, .int a2, .int a3, .int a4, .int a5, .null, .null, .null] [] s Q := by
    intro n
    induction n using Nat.strongRecOn with
    | ind n ih =>
      intro a1 a2 a3 a4 a5 s e hI
      exact m_126_45_3 hd (fun a1' a2' a3' a4' a5' s' q => ih _ (by rw [← e]; exact q.2) a1' a2' a3' a4' a5' s' rfl q.1) (h1 a1 a2 a3 a4 a5 s hI)
  exact key _ a1 a2 a3 a4 a5 s rfl h0
set_option maxRecDepth 20000 in
theorem m_126_42_3 {d d0 : Nat} (hd : d = d0 + 8)  {a1 : Int32} {a2 : Int32} {a3 : Int32} {t0 : Int32} {s : zS} {Q : Option Value → zS → Prop}  (h : v_126_42 (fun j => Zt d (wd 3 j) j) 3  a1 a2 a3 t0 s Q) : Zn d [] [] ([(83, 1, 3), (83, 2, 4), (75, 0, 3), (75, 1, 21), (75, 2, 25)] : zW) ([(83, 1, 3), (83, 2, 4), (75, 0, 3), (75, 1, 21), (75, 2, 25)] : zW) xL_10 7 (some .int) xE_126 (xE_126.drop 42) [.ref 83, .int a1, .int a2, .int a3, .null, .null, .null, .null, .null] [.int t0] s Q := by
  unfold v_126_42 at h
  refine zn_st [.ref 83, .int a1, .int a2, .int a3, .int t0, .null, .null, .null, .null] rfl rfl rfl ?_
  refine zn_c [.int 0] (xo_push (.int 0)) rfl rfl ?_
  refine zn_st [.ref 83, .int a1, .int a2, .int a3, .int t0, .int 0, .null, .null, .null] rfl rfl rfl ?_
  exact ml_126_45_3 hd  h
set_option maxRecDepth 20000 in
theorem m_126_8_3 {d d0 : Nat} (hd : d = d0 + 8) {R8 : Int32 → Int32 → Int32 → zS → Prop} {a1 : Int32} {a2 : Int32} {a3 : Int32} {s : zS} {Q : Option Value → zS → Prop} (r8 : ∀ a1 a2 a3 s, R8 a1 a2 a3 s → Zn d [] [] ([(83, 1, 3), (83, 2, 4), (75, 0, 3), (75, 1, 21), (75, 2, 25)] : zW) ([(83, 1, 3), (83, 2, 4), (75, 0, 3), (75, 1, 21), (75, 2, 25)] : zW) xL_10 7 (some .int) xE_126 (xE_126.drop 8) [.ref 83, .int a1, .int a2, .int a3, .null, .null, .null, .null, .null] [] s Q) (h : v_126_8 (fun j => Zt d (wd 3 j) j) 3 R8 a1 a2 a3 s Q) : Zn d [] [] ([(83, 1, 3), (83, 2, 4), (75, 0, 3), (75, 1, 21), (75, 2, 25)] : zW) ([(83, 1, 3), (83, 2, 4), (75, 0, 3), (75, 1, 21), (75, 2, 25)] : zW) xL_10 7 (some .int) xE_126 (xE_126.drop 8) [.ref 83, .int a1, .int a2, .int a3, .null, .null, .null, .null, .null] [] s Q := by
  unfold v_126_8 at h
  refine zn_ld rfl rfl rfl ?_
  refine zn_ld rfl rfl rfl ?_
  refine zn_brP rfl rfl ⟨fun hcn => ?_, fun hcn => ?_⟩
  · replace h := h.1 ((i_le (x := a1) (y := a3) rfl rfl).mp hcn)
    refine zn_ld rfl rfl rfl ?_
    refine zn_get (v := .ref 3) rfl (zv_C (a := 83) (n := 0) rfl rfl rfl) ?_
    refine zn_ld rfl rfl rfl ?_
    refine zn_c [.int 3, .int a1, .ref 3] (xo_push (.int 3)) rfl rfl ?_
    refine zn_zt [.ref 3, .int a1, .int 3] [] (c := []) rfl rfl rfl rfl rfl (Zt.imp (zp_39 hd (Or.inl rfl)) (fun vq sq hq => ?_))
    obtain ⟨rfl, hq⟩ := hq
    rw [hq]
    change Zn _ _ _ _ _ _ _ _ _ _ _ [.int (zg s 27 (a1 * 6 + 3))] _ _
    refine zn_st [.ref 83, .int a1, .int a2, .int (zg s 27 (a1 * 6 + 3)), .null, .null, .null, .null, .null] rfl rfl rfl ?_
    refine zn_ld rfl rfl rfl ?_
    refine zn_get (v := .ref 3) rfl (zv_C (a := 83) (n := 0) rfl rfl rfl) ?_
    refine zn_ld rfl rfl rfl ?_
    refine zn_zt [.ref 3, .int a1] [] (c := []) rfl rfl rfl rfl rfl (Zt.imp (zp_50 hd (Or.inl rfl)) (fun vq sq hq => ?_))
    obtain ⟨rfl, hq⟩ := hq
    rw [hq]
    change Zn _ _ _ _ _ _ _ _ _ _ _ [.int (zInf s 3 a1)] _ _
    refine zn_brP rfl rfl ⟨fun hcn => ?_, fun hcn => ?_⟩
    · replace h := h.1 ((i_eq (x := zInf s 3 a1) (y := 0) rfl (show (0 : Int32).toInt = 0 by decide)).mp hcn)
      refine zn_c [.int 0] (xo_push (.int 0)) rfl rfl ?_
      exact m_126_42_3 hd  h
    · replace h := h.2 (fun q => hcn ((i_eq (x := zInf s 3 a1) (y := 0) rfl (show (0 : Int32).toInt = 0 by decide)).mpr q))
      refine zn_ld rfl rfl rfl ?_
      refine zn_get (v := .ref 3) rfl (zv_C (a := 83) (n := 0) rfl rfl rfl) ?_
      refine zn_ld rfl rfl rfl ?_
      refine zn_c [.int 4, .int a1, .ref 3] (xo_push (.int 4)) rfl rfl ?_
      refine zn_zt [.ref 3, .int a1, .int 4] [] (c := []) rfl rfl rfl rfl rfl (Zt.imp (zp_39 hd (Or.inl rfl)) (fun vq sq hq => ?_))
      obtain ⟨rfl, hq⟩ := hq
      rw [hq]
      change Zn _ _ _ _ _ _ _ _ _ _ _ [.int (zg s 27 (a1 * 6 + 4))] _ _
      refine zn_go rfl ?_
      exact m_126_42_3 hd  h
  · replace h := h.2 (fun q => hcn ((i_le (x := a1) (y := a3) rfl rfl).mpr q))
    refine zn_ld rfl rfl rfl ?_
    refine zn_ld rfl rfl rfl ?_
    refine zn_get (v := .ref 3) rfl (zv_C (a := 83) (n := 0) rfl rfl rfl) ?_
    refine zn_ld rfl rfl rfl ?_
    refine zn_c [.int 0, .int a3, .ref 3, .ref 83] (xo_push (.int 0)) rfl rfl ?_
    refine zn_zt [.ref 3, .int a3, .int 0] [.ref 83] (c := []) rfl rfl rfl rfl rfl (Zt.imp (zp_39 hd (Or.inl rfl)) (fun vq sq hq => ?_))
    obtain ⟨rfl, hq⟩ := hq
    rw [hq]
    change Zn _ _ _ _ _ _ _ _ _ _ _ [.int (zg s 27 (a3 * 6 + 0)), .ref 83] _ _
    refine zn_ld rfl rfl rfl ?_
    refine zn_zt [.ref 83, .int (zg s 27 (a3 * 6 + 0)), .int a2] [] rfl rfl rfl rfl rfl (Zt.imp h (fun v4 s5 h => ?_))
    obtain ⟨x6, rfl, h⟩ := h
    change Zn _ _ _ _ _ _ _ _ _ _ _ [.int x6] _ _
    refine zn_brP rfl rfl ⟨fun hcn => ?_, fun hcn => ?_⟩
    · replace h := h.1 ((i_eq (x := x6) (y := 0) rfl (show (0 : Int32).toInt = 0 by decide)).mp hcn)
      replace h := h _ (i_add (x := a3) (y := 1) rfl (show (1 : Int32).toInt = 1 by decide))
      refine zn_inc [.ref 83, .int a1, .int a2, .int (a3 + 1), .null, .null, .null, .null, .null] rfl rfl rfl rfl ?_
      refine zn_go rfl ?_
      exact r8 a1 a2 (a3 + 1) s5 h
    · replace h := h.2 (fun q => hcn ((i_eq (x := x6) (y := 0) rfl (show (0 : Int32).toInt = 0 by decide)).mpr q))
      refine zn_ld rfl rfl rfl ?_
      exact zn_retI rfl h
theorem ml_126_8_3 {d d0 : Nat} (hd : d = d0 + 8)  {a1 : Int32} {a2 : Int32} {a3 : Int32} {s : zS} {Q : Option Value → zS → Prop}  (h : vl_126_8 (fun j => Zt d (wd 3 j) j) 3  a1 a2 a3 s Q) : Zn d [] [] ([(83, 1, 3), (83, 2, 4), (75, 0, 3), (75, 1, 21), (75, 2, 25)] : zW) ([(83, 1, 3), (83, 2, 4), (75, 0, 3), (75, 1, 21), (75, 2, 25)] : zW) xL_10 7 (some .int) xE_126 (xE_126.drop 8) [.ref 83, .int a1, .int a2, .int a3, .null, .null, .null, .null, .null] [] s Q := by
  obtain ⟨I, μ, h0, h1⟩ := h
  have key : ∀ (n : Nat) (a1 : Int32) (a2 : Int32) (a3 : Int32) (s : zS), μ a1 a2 a3 s = n → I a1 a2 a3 s → Zn d [] [] ([(83, 1, 3), (83, 2, 4), (75, 0, 3), (75, 1, 21), (75, 2, 25)] : zW) ([(83, 1, 3), (83, 2, 4), (75, 0, 3), (75, 1, 21), (75, 2, 25)] : zW) xL_10 7 (some .int) xE_126 (xE_126.drop 8) [.ref 83, .int a1, .int a2, .int a3, .null, .null, .null, .null, .null] [] s Q := by
    intro n
    induction n using Nat.strongRecOn with
    | ind n ih =>
      intro a1 a2 a3 s e hI
      exact m_126_8_3 hd (fun a1' a2' a3' s' q => ih _ (by rw [← e]; exact q.2) a1' a2' a3' s' rfl q.1) (h1 a1 a2 a3 s hI)
  exact key _ a1 a2 a3 s rfl h0
set_option maxRecDepth 20000 in
theorem m_126_0_3 {d d0 : Nat} (hd : d = d0 + 8)  {a1 : Int32} {s : zS} {Q : Option Value → zS → Prop}  (h : v_126_0 (fun j => Zt d (wd 3 j) j) 3  a1 s Q) : Zn d [] [] ([(83, 1, 3), (83, 2, 4), (75, 0, 3), (75, 1, 21), (75, 2, 25)] : zW) ([(83, 1, 3), (83, 2, 4), (75, 0, 3), (75, 1, 21), (75, 2, 25)] : zW) xL_10 7 (some .int) xE_126 (xE_126.drop 0) [.ref 83, .int a1, .null, .null, .null, .null, .null, .null, .null] [] s Q := by
  unfold v_126_0 at h
  refine zn_ld rfl rfl rfl ?_
  refine zn_get (v := .ref 3) rfl (zv_C (a := 83) (n := 0) rfl rfl rfl) ?_
  refine zn_ld rfl rfl rfl ?_
  refine zn_c [.int 0, .int a1, .ref 3] (xo_push (.int 0)) rfl rfl ?_
  refine zn_zt [.ref 3, .int a1, .int 0] [] (c := []) rfl rfl rfl rfl rfl (Zt.imp (zp_39 hd (Or.inl rfl)) (fun vq sq hq => ?_))
  obtain ⟨rfl, hq⟩ := hq
  rw [hq]
  change Zn _ _ _ _ _ _ _ _ _ _ _ [.int (zg s 27 (a1 * 6 + 0))] _ _
  refine zn_st [.ref 83, .int a1, .int (zg s 27 (a1 * 6 + 0)), .null, .null, .null, .null, .null, .null] rfl rfl rfl ?_
  refine zn_c [.int 0] (xo_push (.int 0)) rfl rfl ?_
  refine zn_st [.ref 83, .int a1, .int (zg s 27 (a1 * 6 + 0)), .int 0, .null, .null, .null, .null, .null] rfl rfl rfl ?_
  exact ml_126_8_3 hd  h
theorem zq_126_3 {d : Nat} {a1 : Int32} {s : zS} {Q : Option Value → zS → Prop} (h : v_126_0 (fun j => Zt (d + 8) (wd 3 j) j) 3 a1 s Q) : Zt (d + 9) ([(83, 1, 3), (83, 2, 4), (75, 0, 3), (75, 1, 21), (75, 2, 25)] : zW) 126 [.ref 83, .int a1] s Q := zt_of (E := xE_126) (L := xL_10) (ml := 7) (ret := some .int) rfl rfl rfl (m_126_0_3 rfl h)
set_option maxRecDepth 20000 in
theorem m_126_50_39 {d d0 : Nat} (hd : d = d0 + 8) {R45 : Int32 → Int32 → Int32 → Int32 → Int32 → zS → Prop} {R50 : Int32 → Int32 → Int32 → Int32 → Int32 → Int32 → zS → Prop} {a1 : Int32} {a2 : Int32} {a3 : Int32} {a4 : Int32} {a5 : Int32} {a6 : Int32} {s : zS} {Q : Option Value → zS → Prop} (r45 : ∀ a1 a2 a3 a4 a5 s, R45 a1 a2 a3 a4 a5 s → Zn d [] [] ([(83, 1, 39), (83, 2, 40), (75, 0, 39), (75, 1, 57), (75, 2, 61)] : zW) ([(83, 1, 39), (83, 2, 40), (75, 0, 39), (75, 1, 57), (75, 2, 61)] : zW) xL_10 7 (some .int) xE_126 (xE_126.drop 45) [.ref 83, .int a1, .int a2, .int a3, .int a4, .int a5, .null, .null, .null] [] s Q) (r50 : ∀ a1 a2 a3 a4 a5 a6 s, R50 a1 a2 a3 a4 a5 a6 s → Zn d [] [] ([(83, 1, 39), (83, 2, 40), (75, 0, 39), (75, 1, 57), (75, 2, 61)] : zW) ([(83, 1, 39), (83, 2, 40), (75, 0, 39), (75, 1, 57), (75, 2, 61)] : zW) xL_10 7 (some .int) xE_126 (xE_126.drop 50) [.ref 83, .int a1, .int a2, .int a3, .int a4, .int a5, .int a6, .null, .null] [] s Q) (h : v_126_50 (fun j => Zt d (wd 39 j) j) 39 R45 R50 a1 a2 a3 a4 a5 a6 s Q) : Zn d [] [] ([(83, 1, 39), (83, 2, 40), (75, 0, 39), (75, 1, 57), (75, 2, 61)] : zW) ([(83, 1, 39), (83, 2, 40), (75, 0, 39), (75, 1, 57), (75, 2, 61)] : zW) xL_10 7 (some .int) xE_126 (xE_126.drop 50) [.ref 83, .int a1, .int a2, .int a3, .int a4, .int a5, .int a6, .null, .null] [] s Q := by
  unfold v_126_50 at h
  refine zn_ld rfl rfl rfl ?_
  refine zn_ld rfl rfl rfl ?_
  refine zn_brP rfl rfl ⟨fun hcn => ?_, fun hcn => ?_⟩
  · replace h := h.1 ((i_le (x := a5) (y := a6) rfl rfl).mp hcn)
    replace h := h _ (i_add (x := a5) (y := 1) rfl (show (1 : Int32).toInt = 1 by decide))
    refine zn_inc [.ref 83, .int a1, .int a2, .int a3, .int a4, .int (a5 + 1), .int a6, .null, .null] rfl rfl rfl rfl ?_
    refine zn_go rfl ?_
    refine zn_fg 6 ?_
    exact r45 a1 a2 a3 a4 (a5 + 1) s h
  · replace h := h.2 (fun q => hcn ((i_le (x := a5) (y := a6) rfl rfl).mpr q))
    refine zn_ld rfl rfl rfl ?_
    refine zn_get (v := .ref 39) rfl (zv_C (a := 83) (n := 0) rfl rfl rfl) ?_
    refine zn_ld rfl rfl rfl ?_
    refine zn_ld rfl rfl rfl ?_
    replace h := h _ (i_add (x := a3) (y := a5) rfl rfl)
    refine zn_c [.int (a3 + a5), .ref 39] xo_iadd rfl rfl ?_
    refine zn_c [.int 1, .int (a3 + a5), .ref 39] (xo_push (.int 1)) rfl rfl ?_
    refine zn_zt [.ref 39, .int (a3 + a5), .int 1] [] (c := []) rfl rfl rfl rfl rfl (Zt.imp (zp_41 hd (Or.inr rfl)) (fun vq sq hq => ?_))
    obtain ⟨rfl, hq⟩ := hq
    rw [hq]
    change Zn _ _ _ _ _ _ _ _ _ _ _ [.int (zg s 67 ((a3 + a5) * 5 + 1))] _ _
    refine zn_ld rfl rfl rfl ?_
    refine zn_get (v := .ref 39) rfl (zv_C (a := 83) (n := 0) rfl rfl rfl) ?_
    refine zn_ld rfl rfl rfl ?_
    refine zn_ld rfl rfl rfl ?_
    replace h := h _ (i_add (x := a3) (y := a6) rfl rfl)
    refine zn_c [.int (a3 + a6), .ref 39, .int (zg s 67 ((a3 + a5) * 5 + 1))] xo_iadd rfl rfl ?_
    refine zn_c [.int 1, .int (a3 + a6), .ref 39, .int (zg s 67 ((a3 + a5) * 5 + 1))] (xo_push (.int 1)) rfl rfl ?_
    refine zn_zt [.ref 39, .int (a3 + a6), .int 1] [.int (zg s 67 ((a3 + a5) * 5 + 1))] (c := []) rfl rfl rfl rfl rfl (Zt.imp (zp_41 hd (Or.inr rfl)) (fun vq sq hq => ?_))
    obtain ⟨rfl, hq⟩ := hq
    rw [hq]
    change Zn _ _ _ _ _ _ _ _ _ _ _ [.int (zg s 67 ((a3 + a6) * 5 + 1)), .int (zg s 67 ((a3 + a5) * 5 + 1))] _ _
    refine zn_brN rfl rfl ⟨fun hcn => ?_, fun hcn => ?_⟩
    · replace h := h.1 (fun q => hcn ((i_eq (x := zg s 67 ((a3 + a5) * 5 + 1)) (y := zg s 67 ((a3 + a6) * 5 + 1)) rfl rfl).mpr q))
      replace h := h _ (i_add (x := a6) (y := 1) rfl (show (1 : Int32).toInt = 1 by decide))
      refine zn_inc [.ref 83, .int a1, .int a2, .int a3, .int a4, .int a5, .int (a6 + 1), .null, .null] rfl rfl rfl rfl ?_
      refine zn_go rfl ?_
      exact r50 a1 a2 a3 a4 a5 (a6 + 1) s h
    · replace h := h.2 ((i_eq (x := zg s 67 ((a3 + a5) * 5 + 1)) (y := zg s 67 ((a3 + a6) * 5 + 1)) rfl rfl).mp hcn)
      refine zn_ld rfl rfl rfl ?_
      refine zn_get (v := .ref 39) rfl (zv_C (a := 83) (n := 0) rfl rfl rfl) ?_
      refine zn_ld rfl rfl rfl ?_
      refine zn_ld rfl rfl rfl ?_
      replace h := h _ (i_add (x := a3) (y := a5) rfl rfl)
      refine zn_c [.int (a3 + a5), .ref 39] xo_iadd rfl rfl ?_
      refine zn_c [.int 0, .int (a3 + a5), .ref 39] (xo_push (.int 0)) rfl rfl ?_
      refine zn_zt [.ref 39, .int (a3 + a5), .int 0] [] (c := []) rfl rfl rfl rfl rfl (Zt.imp (zp_41 hd (Or.inr rfl)) (fun vq sq hq => ?_))
      obtain ⟨rfl, hq⟩ := hq
      rw [hq]
      change Zn _ _ _ _ _ _ _ _ _ _ _ [.int (zg s 67 ((a3 + a5) * 5 + 0))] _ _
      exact zn_retI rfl h
theorem ml_126_50_39 {d d0 : Nat} (hd : d = d0 + 8) {R45 : Int32 → Int32 → Int32 → Int32 → Int32 → zS → Prop} {a1 : Int32} {a2 : Int32} {a3 : Int32} {a4 : Int32} {a5 : Int32} {a6 : Int32} {s : zS} {Q : Option Value → zS → Prop} (r45 : ∀ a1 a2 a3 a4 a5 s, R45 a1 a2 a3 a4 a5 s → Zn d [] [] ([(83, 1, 39), (83, 2, 40), (75, 0, 39), (75, 1, 57), (75, 2, 61)] : zW) ([(83, 1, 39), (83, 2, 40), (75, 0, 39), (75, 1, 57), (75, 2, 61)] : zW) xL_10 7 (some .int) xE_126 (xE_126.drop 45) [.ref 83, .int a1, .int a2, .int a3, .int a4, .int a5, .null, .null, .null] [] s Q) (h : vl_126_50 (fun j => Zt d (wd 39 j) j) 39 R45 a1 a2 a3 a4 a5 a6 s Q) : Zn d [] [] ([(83, 1, 39), (83, 2, 40), (75, 0, 39), (75, 1, 57), (75, 2, 61)] : zW) ([(83, 1, 39), (83, 2, 40), (75, 0, 39), (75, 1, 57), (75, 2, 61)] : zW) xL_10 7 (some .int) xE_126 (xE_126.drop 50) [.ref 83, .int a1, .int a2, .int a3, .int a4, .int a5, .int a6, .null, .null] [] s Q := by
  obtain ⟨I, μ, h0, h1⟩ := h
  have key : ∀ (n : Nat) (a1 : Int32) (a2 : Int32) (a3 : Int32) (a4 : Int32) (a5 : Int32) (a6 : Int32) (s : zS), μ a1 a2 a3 a4 a5 a6 s = n → I a1 a2 a3 a4 a5 a6 s → Zn d [] [] ([(83, 1, 39), (83, 2, 40), (75, 0, 39), (75, 1, 57), (75, 2, 61)] : zW) ([(83, 1, 39), (83, 2, 40), (75, 0, 39), (75, 1, 57), (75, 2, 61)] : zW) xL_10 7 (some .int) xE_126 (xE_126.drop 50) [.ref 83, .int a1, .int a2, .int a3, .int a4, .int a5, .int a6, .null, .null] [] s Q := by
    intro n
    induction n using Nat.strongRecOn with
    | ind n ih =>
      intro a1 a2 a3 a4 a5 a6 s e hI
      exact m_126_50_39 hd r45 (fun a1' a2' a3' a4' a5' a6' s' q => ih _ (by rw [← e]; exact q.2) a1' a2' a3' a4' a5' a6' s' rfl q.1) (h1 a1 a2 a3 a4 a5 a6 s hI)
  exact key _ a1 a2 a3 a4 a5 a6 s rfl h0
set_option maxRecDepth 20000 in
theorem m_126_45_39 {d d0 : Nat} (hd : d = d0 + 8) {R45 : Int32 → Int32 → Int32 → Int32 → Int32 → zS → Prop} {a1 : Int32} {a2 : Int32} {a3 : Int32} {a4 : Int32} {a5 : Int32} {s : zS} {Q : Option Value → zS → Prop} (r45 : ∀ a1 a2 a3 a4 a5 s, R45 a1 a2 a3 a4 a5 s → Zn d [] [] ([(83, 1, 39), (83, 2, 40), (75, 0, 39), (75, 1, 57), (75, 2, 61)] : zW) ([(83, 1, 39), (83, 2, 40), (75, 0, 39), (75, 1, 57), (75, 2, 61)] : zW) xL_10 7 (some .int) xE_126 (xE_126.drop 45) [.ref 83, .int a1, .int a2, .int a3, .int a4, .int a5, .null, .null, .null] [] s Q) (h : v_126_45 (fun j => Zt d (wd 39 j) j) 39 R45 a1 a2 a3 a4 a5 s Q) : Zn d [] [] ([(83, 1, 39), (83, 2, 40), (75, 0, 39), (75, 1, 57), (75, 2, 61)] : zW) ([(83, 1, 39), (83, 2, 40), (75, 0, 39), (75, 1, 57), (75, 2, 61)] : zW) xL_10 7 (some .int) xE_126 (xE_126.drop 45) [.ref 83, .int a1, .int a2, .int a3, .int a4, .int a5, .null, .null, .null] [] s Q := by
  unfold v_126_45 at h
  refine zn_ld rfl rfl rfl ?_
  refine zn_ld rfl rfl rfl ?_
  refine zn_brP rfl rfl ⟨fun hcn => ?_, fun hcn => ?_⟩
  · replace h := h.1 ((i_le (x := a4) (y := a5) rfl rfl).mp hcn)
    refine zn_c [.int 1000000] (xo_push (.int 1000000)) rfl rfl ?_
    exact zn_retI rfl h
  · replace h := h.2 (fun q => hcn ((i_le (x := a4) (y := a5) rfl rfl).mpr q))
    refine zn_c [.int 0] (xo_push (.int 0)) rfl rfl ?_
    refine zn_st [.ref 83, .int a1, .int a2, .int a3, .int a4, .int a5, .int 0, .null, .null] rfl rfl rfl ?_
    exact ml_126_50_39 hd r45 h
theorem ml_126_45_39 {d d0 : Nat} (hd : d = d0 + 8)  {a1 : Int32} {a2 : Int32} {a3 : Int32} {a4 : Int32} {a5 : Int32} {s : zS} {Q : Option Value → zS → Prop}  (h : vl_126_45 (fun j => Zt d (wd 39 j) j) 39  a1 a2 a3 a4 a5 s Q) : Zn d [] [] ([(83, 1, 39), (83, 2, 40), (75, 0, 39), (75, 1, 57), (75, 2, 61)] : zW) ([(83, 1, 39), (83, 2, 40), (75, 0, 39), (75, 1, 57), (75, 2, 61)] : zW) xL_10 7 (some .int) xE_126 (xE_126.drop 45) [.ref 83, .int a1, .int a2, .int a3, .int a4, .int a5, .null, .null, .null] [] s Q := by
  obtain ⟨I, μ, h0, h1⟩ := h
  have key : ∀ (n : Nat) (a1 : Int32) (a2 : Int32) (a3 : Int32) (a4 : Int32) (a5 : Int32) (s : zS), μ a1 a2 a3 a4 a5 s = n → I a1 a2 a3 a4 a5 s → Zn d [] [] ([(83, 1, 39), (83, 2, 40), (75, 0, 39), (75, 1, 57), (75, 2, 61)] : zW) ([(83, 1, 39), (83, 2, 40), (75, 0, 39), (75, 1, 57), (75, 2, 61)] : zW) xL_10 7 (some .int) xE_126 (xE_126.drop 45) [.ref 83, .int a1, .int a2, .int a3, .int a4, .int a5, .null, .null, .null] [] s Q := by
    intro n
    induction n using Nat.strongRecOn with
    | ind n ih =>
      intro a1 a2 a3 a4 a5 s e hI
      exact m_126_45_39 hd (fun a1' a2' a3' a4' a5' s' q => ih _ (by rw [← e]; exact q.2) a1' a2' a3' a4' a5' s' rfl q.1) (h1 a1 a2 a3 a4 a5 s hI)
  exact key _ a1 a2 a3 a4 a5 s rfl h0
set_option maxRecDepth 20000 in
theorem m_126_42_39 {d d0 : Nat} (hd : d = d0 + 8)  {a1 : Int32} {a2 : Int32} {a3 : Int32} {t0 : Int32} {s : zS} {Q : Option Value → zS → Prop}  (h : v_126_42 (fun j => Zt d (wd 39 j) j) 39  a1 a2 a3 t0 s Q) : Zn d [] [] ([(83, 1, 39), (83, 2, 40), (75, 0, 39), (75, 1, 57), (75, 2, 61)] : zW) ([(83, 1, 39), (83, 2, 40), (75, 0, 39), (75, 1, 57), (75, 2, 61)] : zW) xL_10 7 (some .int) xE_126 (xE_126.drop 42) [.ref 83, .int a1, .int a2, .int a3, .null, .null, .null, .null, .null] [.int t0] s Q := by
  unfold v_126_42 at h
  refine zn_st [.ref 83, .int a1, .int a2, .int a3, .int t0, .null, .null, .null, .null] rfl rfl rfl ?_
  refine zn_c [.int 0] (xo_push (.int 0)) rfl rfl ?_
  refine zn_st [.ref 83, .int a1, .int a2, .int a3, .int t0, .int 0, .null, .null, .null] rfl rfl rfl ?_
  exact ml_126_45_39 hd  h
set_option maxRecDepth 20000 in
theorem m_126_8_39 {d d0 : Nat} (hd : d = d0 + 8) {R8 : Int32 → Int32 → Int32 → zS → Prop} {a1 : Int32} {a2 : Int32} {a3 : Int32} {s : zS} {Q : Option Value → zS → Prop} (r8 : ∀ a1 a2 a3 s, R8 a1 a2 a3 s → Zn d [] [] ([(83, 1, 39), (83, 2, 40), (75, 0, 39), (75, 1, 57), (75, 2, 61)] : zW) ([(83, 1, 39), (83, 2, 40), (75, 0, 39), (75, 1, 57), (75, 2, 61)] : zW) xL_10 7 (some .int) xE_126 (xE_126.drop 8) [.ref 83, .int a1, .int a2, .int a3, .null, .null, .null, .null, .null] [] s Q) (h : v_126_8 (fun j => Zt d (wd 39 j) j) 39 R8 a1 a2 a3 s Q) : Zn d [] [] ([(83, 1, 39), (83, 2, 40), (75, 0, 39), (75, 1, 57), (75, 2, 61)] : zW) ([(83, 1, 39), (83, 2, 40), (75, 0, 39), (75, 1, 57), (75, 2, 61)] : zW) xL_10 7 (some .int) xE_126 (xE_126.drop 8) [.ref 83, .int a1, .int a2, .int a3, .null, .null, .null, .null, .null] [] s Q := by
  unfold v_126_8 at h
  refine zn_ld rfl rfl rfl ?_
  refine zn_ld rfl rfl rfl ?_
  refine zn_brP rfl rfl ⟨fun hcn => ?_, fun hcn => ?_⟩
  · replace h := h.1 ((i_le (x := a1) (y := a3) rfl rfl).mp hcn)
    refine zn_ld rfl rfl rfl ?_
    refine zn_get (v := .ref 39) rfl (zv_C (a := 83) (n := 0) rfl rfl rfl) ?_
    refine zn_ld rfl rfl rfl ?_
    refine zn_c [.int 3, .int a1, .ref 39] (xo_push (.int 3)) rfl rfl ?_
    refine zn_zt [.ref 39, .int a1, .int 3] [] (c := []) rfl rfl rfl rfl rfl (Zt.imp (zp_39 hd (Or.inr rfl)) (fun vq sq hq => ?_))
    obtain ⟨rfl, hq⟩ := hq
    rw [hq]
    change Zn _ _ _ _ _ _ _ _ _ _ _ [.int (zg s 63 (a1 * 6 + 3))] _ _
    refine zn_st [.ref 83, .int a1, .int a2, .int (zg s 63 (a1 * 6 + 3)), .null, .null, .null, .null, .null] rfl rfl rfl ?_
    refine zn_ld rfl rfl rfl ?_
    refine zn_get (v := .ref 39) rfl (zv_C (a := 83) (n := 0) rfl rfl rfl) ?_
    refine zn_ld rfl rfl rfl ?_
    refine zn_zt [.ref 39, .int a1] [] (c := []) rfl rfl rfl rfl rfl (Zt.imp (zp_50 hd (Or.inr rfl)) (fun vq sq hq => ?_))
    obtain ⟨rfl, hq⟩ := hq
    rw [hq]
    change Zn _ _ _ _ _ _ _ _ _ _ _ [.int (zInf s 39 a1)] _ _
    refine zn_brP rfl rfl ⟨fun hcn => ?_, fun hcn => ?_⟩
    · replace h := h.1 ((i_eq (x := zInf s 39 a1) (y := 0) rfl (show (0 : Int32).toInt = 0 by decide)).mp hcn)
      refine zn_c [.int 0] (xo_push (.int 0)) rfl rfl ?_
      exact m_126_42_39 hd  h
    · replace h := h.2 (fun q => hcn ((i_eq (x := zInf s 39 a1) (y := 0) rfl (show (0 : Int32).toInt = 0 by decide)).mpr q))
      refine zn_ld rfl rfl rfl ?_
      refine zn_get (v := .ref 39) rfl (zv_C (a := 83) (n := 0) rfl rfl rfl) ?_
      refine zn_ld rfl rfl rfl ?_
      refine zn_c [.int 4, .int a1, .ref 39] (xo_push (.int 4)) rfl rfl ?_
      refine zn_zt [.ref 39, .int a1, .int 4] [] (c := []) rfl rfl rfl rfl rfl (Zt.imp (zp_39 hd (Or.inr rfl)) (fun vq sq hq => ?_))
      obtain ⟨rfl, hq⟩ := hq
      rw [hq]
      change Zn _ _ _ _ _ _ _ _ _ _ _ [.int (zg s 63 (a1 * 6 + 4))] _ _
      refine zn_go rfl ?_
      exact m_126_42_39 hd  h
  · replace h := h.2 (fun q => hcn ((i_le (x := a1) (y := a3) rfl rfl).mpr q))
    refine zn_ld rfl rfl rfl ?_
    refine zn_ld rfl rfl rfl ?_
    refine zn_get (v := .ref 39) rfl (zv_C (a := 83) (n := 0) rfl rfl rfl) ?_
    refine zn_ld rfl rfl rfl ?_
    refine zn_c [.int 0, .int a3, .ref 39, .ref 83] (xo_push (.int 0)) rfl rfl ?_
    refine zn_zt [.ref 39, .int a3, .int 0] [.ref 83] (c := []) rfl rfl rfl rfl rfl (Zt.imp (zp_39 hd (Or.inr rfl)) (fun vq sq hq => ?_))
    obtain ⟨rfl, hq⟩ := hq
    rw [hq]
    change Zn _ _ _ _ _ _ _ _ _ _ _ [.int (zg s 63 (a3 * 6 + 0)), .ref 83] _ _
    refine zn_ld rfl rfl rfl ?_
    refine zn_zt [.ref 83, .int (zg s 63 (a3 * 6 + 0)), .int a2] [] rfl rfl rfl rfl rfl (Zt.imp h (fun v4 s5 h => ?_))
    obtain ⟨x6, rfl, h⟩ := h
    change Zn _ _ _ _ _ _ _ _ _ _ _ [.int x6] _ _
    refine zn_brP rfl rfl ⟨fun hcn => ?_, fun hcn => ?_⟩
    · replace h := h.1 ((i_eq (x := x6) (y := 0) rfl (show (0 : Int32).toInt = 0 by decide)).mp hcn)
      replace h := h _ (i_add (x := a3) (y := 1) rfl (show (1 : Int32).toInt = 1 by decide))
      refine zn_inc [.ref 83, .int a1, .int a2, .int (a3 + 1), .null, .null, .null, .null, .null] rfl rfl rfl rfl ?_
      refine zn_go rfl ?_
      exact r8 a1 a2 (a3 + 1) s5 h
    · replace h := h.2 (fun q => hcn ((i_eq (x := x6) (y := 0) rfl (show (0 : Int32).toInt = 0 by decide)).mpr q))
      refine zn_ld rfl rfl rfl ?_
      exact zn_retI rfl h
theorem ml_126_8_39 {d d0 : Nat} (hd : d = d0 + 8)  {a1 : Int32} {a2 : Int32} {a3 : Int32} {s : zS} {Q : Option Value → zS → Prop}  (h : vl_126_8 (fun j => Zt d (wd 39 j) j) 39  a1 a2 a3 s Q) : Zn d [] [] ([(83, 1, 39), (83, 2, 40), (75, 0, 39), (75, 1, 57), (75, 2, 61)] : zW) ([(83, 1, 39), (83, 2, 40), (75, 0, 39), (75, 1, 57), (75, 2, 61)] : zW) xL_10 7 (some .int) xE_126 (xE_126.drop 8) [.ref 83, .int a1, .int a2, .int a3, .null, .null, .null, .null, .null] [] s Q := by
  obtain ⟨I, μ, h0, h1⟩ := h
  have key : ∀ (n : Nat) (a1 : Int32) (a2 : Int32) (a3 : Int32) (s : zS), μ a1 a2 a3 s = n → I a1 a2 a3 s → Zn d [] [] ([(83, 1, 39), (83, 2, 40), (75, 0, 39), (75, 1, 57), (75, 2, 61)] : zW) ([(83, 1, 39), (83, 2, 40), (75, 0, 39), (75, 1, 57), (75, 2, 61)] : zW) xL_10 7 (some .int) xE_126 (xE_126.drop 8) [.ref 83, .int a1, .int a2, .int a3, .null, .null, .null, .null, .null] [] s Q := by
    intro n
    induction n using Nat.strongRecOn with
    | ind n ih =>
      intro a1 a2 a3 s e hI
      exact m_126_8_39 hd (fun a1' a2' a3' s' q => ih _ (by rw [← e]; exact q.2) a1' a2' a3' s' rfl q.1) (h1 a1 a2 a3 s hI)
  exact key _ a1 a2 a3 s rfl h0
set_option maxRecDepth 20000 in
theorem m_126_0_39 {d d0 : Nat} (hd : d = d0 + 8)  {a1 : Int32} {s : zS} {Q : Option Value → zS → Prop}  (h : v_126_0 (fun j => Zt d (wd 39 j) j) 39  a1 s Q) : Zn d [] [] ([(83, 1, 39), (83, 2, 40), (75, 0, 39), (75, 1, 57), (75, 2, 61)] : zW) ([(83, 1, 39), (83, 2, 40), (75, 0, 39), (75, 1, 57), (75, 2, 61)] : zW) xL_10 7 (some .int) xE_126 (xE_126.drop 0) [.ref 83, .int a1, .null, .null, .null, .null, .null, .null, .null] [] s Q := by
  unfold v_126_0 at h
  refine zn_ld rfl rfl rfl ?_
  refine zn_get (v := .ref 39) rfl (zv_C (a := 83) (n := 0) rfl rfl rfl) ?_
  refine zn_ld rfl rfl rfl ?_
  refine zn_c [.int 0, .int a1, .ref 39] (xo_push (.int 0)) rfl rfl ?_
  refine zn_zt [.ref 39, .int a1, .int 0] [] (c := []) rfl rfl rfl rfl rfl (Zt.imp (zp_39 hd (Or.inr rfl)) (fun vq sq hq => ?_))
  obtain ⟨rfl, hq⟩ := hq
  rw [hq]
  change Zn _ _ _ _ _ _ _ _ _ _ _ [.int (zg s 63 (a1 * 6 + 0))] _ _
  refine zn_st [.ref 83, .int a1, .int (zg s 63 (a1 * 6 + 0)), .null, .null, .null, .null, .null, .null] rfl rfl rfl ?_
  refine zn_c [.int 0] (xo_push (.int 0)) rfl rfl ?_
  refine zn_st [.ref 83, .int a1, .int (zg s 63 (a1 * 6 + 0)), .int 0, .null, .null, .null, .null, .null] rfl rfl rfl ?_
  exact ml_126_8_39 hd  h
theorem zq_126_39 {d : Nat} {a1 : Int32} {s : zS} {Q : Option Value → zS → Prop} (h : v_126_0 (fun j => Zt (d + 8) (wd 39 j) j) 39 a1 s Q) : Zt (d + 9) ([(83, 1, 39), (83, 2, 40), (75, 0, 39), (75, 1, 57), (75, 2, 61)] : zW) 126 [.ref 83, .int a1] s Q := zt_of (E := xE_126) (L := xL_10) (ml := 7) (ret := some .int) rfl rfl rfl (m_126_0_39 rfl h)
theorem zc_126 {d P : Nat} (hP : P = 3 ∨ P = 39) {a1 : Int32} {s : zS} {Q : Option Value → zS → Prop} (h : v_126_0 (fun j => Zt (d + 8) (wd P j) j) P a1 s Q) : Zt (d + 9) (wd P 126) 126 [.ref 83, .int a1] s Q := by
  rcases hP with rfl | rfl
  · exact zq_126_3 h
  · exact zq_126_39 h
/-! FeatherBench$Told.twiceOfFunc -/
def v_127_39 (T : Nat → List Value → zS → (Option Value → zS → Prop) → Prop) (P : Nat) (R2 : Int32 → Int32 → zS → Prop) (a1 : Int32) (a2 : Int32) (s : zS) (Q : Option Value → zS → Prop) : Prop :=
  ∀ x1 : Int32, (-2147483648 ≤ a2.toInt + 1 ∧ a2.toInt + 1 ≤ 2147483647 → x1.toInt = a2.toInt + 1) → R2 a1 x1 s
def v_127_2 (T : Nat → List Value → zS → (Option Value → zS → Prop) → Prop) (P : Nat) (R2 : Int32 → Int32 → zS → Prop) (a1 : Int32) (a2 : Int32) (s : zS) (Q : Option Value → zS → Prop) : Prop :=
  (a1.toInt ≤ a2.toInt → Q (some (.int 1000000)) s) ∧ (¬ (a1.toInt ≤ a2.toInt) → (¬ ((zg s (P + 26) (a2 * 10 + 6)).toInt = (zg s (P + 26) (a1 * 10 + 6)).toInt) → v_127_39 T P R2 a1 a2 s Q) ∧ ((zg s (P + 26) (a2 * 10 + 6)).toInt = (zg s (P + 26) (a1 * 10 + 6)).toInt → T 125 [.ref 83, .int (zg s (P + 26) (a2 * 10 + 0)), .int (zg s (P + 26) (a1 * 10 + 0))] s (fun v5 s6 => ∃ x7, v5 = some (.int x7) ∧ ((x7.toInt = 0 → v_127_39 T P R2 a1 a2 s6 Q) ∧ (¬ (x7.toInt = 0) → Q (some (.int (zg s6 (P + 28) ((zg s6 (P + 26) (a1 * 10 + 5)) * 5 + 0)))) s6)))))
def vl_127_2 (T : Nat → List Value → zS → (Option Value → zS → Prop) → Prop) (P : Nat)  (a1 : Int32) (a2 : Int32) (s : zS) (Q : Option Value → zS → Prop) : Prop :=
  ∃ (I : Int32 → Int32 → zS → Prop) (μ : Int32 → Int32 → zS → Nat), I a1 a2 s ∧ ∀ (a1 : Int32) (a2 : Int32) (s : zS), I a1 a2 s → v_127_2 T P (fun a1' a2' s' => I a1' a2' s' ∧ μ a1' a2' s' < μ a1 a2 s) a1 a2 s Q
def v_127_0 (T : Nat → List Value → zS → (Option Value → zS → Prop) → Prop) (P : Nat)  (a1 : Int32) (s : zS) (Q : Option Value → zS → Prop) : Prop :=
  vl_127_2 T P  a1 0 s Q
set_option maxRecDepth 20000 in
theorem m_127_39_3 {d d0 : Nat} (hd : d = d0 + 8) {R2 : Int32 → Int32 → zS → Prop} {a1 : Int32} {a2 : Int32} {s : zS} {Q : Option Value → zS → Prop} (r2 : ∀ a1 a2 s, R2 a1 a2 s → Zn d [] [] ([(83, 1, 3), (83, 2, 4), (75, 0, 3), (75, 1, 21), (75, 2, 25)] : zW) ([(83, 1, 3), (83, 2, 4), (75, 0, 3), (75, 1, 21), (75, 2, 25)] : zW) xL_10 3 (some .int) xE_127 (xE_127.drop 2) [.ref 83, .int a1, .int a2, .null, .null] [] s Q) (h : v_127_39 (fun j => Zt d (wd 3 j) j) 3 R2 a1 a2 s Q) : Zn d [] [] ([(83, 1, 3), (83, 2, 4), (75, 0, 3), (75, 1, 21), (75, 2, 25)] : zW) ([(83, 1, 3), (83, 2, 4), (75, 0, 3), (75, 1, 21), (75, 2, 25)] : zW) xL_10 3 (some .int) xE_127 (xE_127.drop 39) [.ref 83, .int a1, .int a2, .null, .null] [] s Q := by
  unfold v_127_39 at h
  replace h := h _ (i_add (x := a2) (y := 1) rfl (show (1 : Int32).toInt = 1 by decide))
  refine zn_inc [.ref 83, .int a1, .int (a2 + 1), .null, .null] rfl rfl rfl rfl ?_
  refine zn_go rfl ?_
  exact r2 a1 (a2 + 1) s h
set_option maxRecDepth 20000 in
theorem m_127_2_3 {d d0 : Nat} (hd : d = d0 + 8) {R2 : Int32 → Int32 → zS → Prop} {a1 : Int32} {a2 : Int32} {s : zS} {Q : Option Value → zS → Prop} (r2 : ∀ a1 a2 s, R2 a1 a2 s → Zn d [] [] ([(83, 1, 3), (83, 2, 4), (75, 0, 3), (75, 1, 21), (75, 2, 25)] : zW) ([(83, 1, 3), (83, 2, 4), (75, 0, 3), (75, 1, 21), (75, 2, 25)] : zW) xL_10 3 (some .int) xE_127 (xE_127.drop 2) [.ref 83, .int a1, .int a2, .null, .null] [] s Q) (h : v_127_2 (fun j => Zt d (wd 3 j) j) 3 R2 a1 a2 s Q) : Zn d [] [] ([(83, 1, 3), (83, 2, 4), (75, 0, 3), (75, 1, 21), (75, 2, 25)] : zW) ([(83, 1, 3), (83, 2, 4), (75, 0, 3), (75, 1, 21), (75, 2, 25)] : zW) xL_10 3 (some .int) xE_127 (xE_127.drop 2) [.ref 83, .int a1, .int a2, .null, .null] [] s Q := by
  unfold v_127_2 at h
  refine zn_ld rfl rfl rfl ?_
  refine zn_ld rfl rfl rfl ?_
  refine zn_brP rfl rfl ⟨fun hcn => ?_, fun hcn => ?_⟩
  · replace h := h.1 ((i_le (x := a1) (y := a2) rfl rfl).mp hcn)
    refine zn_c [.int 1000000] (xo_push (.int 1000000)) rfl rfl ?_
    exact zn_retI rfl h
  · replace h := h.2 (fun q => hcn ((i_le (x := a1) (y := a2) rfl rfl).mpr q))
    refine zn_ld rfl rfl rfl ?_
    refine zn_get (v := .ref 3) rfl (zv_C (a := 83) (n := 0) rfl rfl rfl) ?_
    refine zn_ld rfl rfl rfl ?_
    refine zn_c [.int 6, .int a2, .ref 3] (xo_push (.int 6)) rfl rfl ?_
    refine zn_zt [.ref 3, .int a2, .int 6] [] (c := []) rfl rfl rfl rfl rfl (Zt.imp (zp_40 hd (Or.inl rfl)) (fun vq sq hq => ?_))
    obtain ⟨rfl, hq⟩ := hq
    rw [hq]
    change Zn _ _ _ _ _ _ _ _ _ _ _ [.int (zg s 29 (a2 * 10 + 6))] _ _
    refine zn_ld rfl rfl rfl ?_
    refine zn_get (v := .ref 3) rfl (zv_C (a := 83) (n := 0) rfl rfl rfl) ?_
    refine zn_ld rfl rfl rfl ?_
    refine zn_c [.int 6, .int a1, .ref 3, .int (zg s 29 (a2 * 10 + 6))] (xo_push (.int 6)) rfl rfl ?_
    refine zn_zt [.ref 3, .int a1, .int 6] [.int (zg s 29 (a2 * 10 + 6))] (c := []) rfl rfl rfl rfl rfl (Zt.imp (zp_40 hd (Or.inl rfl)) (fun vq sq hq => ?_))
    obtain ⟨rfl, hq⟩ := hq
    rw [hq]
    change Zn _ _ _ _ _ _ _ _ _ _ _ [.int (zg s 29 (a1 * 10 + 6)), .int (zg s 29 (a2 * 10 + 6))] _ _
    refine zn_brN rfl rfl ⟨fun hcn => ?_, fun hcn => ?_⟩
    · replace h := h.1 (fun q => hcn ((i_eq (x := zg s 29 (a2 * 10 + 6)) (y := zg s 29 (a1 * 10 + 6)) rfl rfl).mpr q))
      exact m_127_39_3 hd r2 h
    · replace h := h.2 ((i_eq (x := zg s 29 (a2 * 10 + 6)) (y := zg s 29 (a1 * 10 + 6)) rfl rfl).mp hcn)
      refine zn_ld rfl rfl rfl ?_
      refine zn_ld rfl rfl rfl ?_
      refine zn_get (v := .ref 3) rfl (zv_C (a := 83) (n := 0) rfl rfl rfl) ?_
      refine zn_ld rfl rfl rfl ?_
      refine zn_c [.int 0, .int a2, .ref 3, .ref 83] (xo_push (.int 0)) rfl rfl ?_
      refine zn_zt [.ref 3, .int a2, .int 0] [.ref 83] (c := []) rfl rfl rfl rfl rfl (Zt.imp (zp_40 hd (Or.inl rfl)) (fun vq sq hq => ?_))
      obtain ⟨rfl, hq⟩ := hq
      rw [hq]
      change Zn _ _ _ _ _ _ _ _ _ _ _ [.int (zg s 29 (a2 * 10 + 0)), .ref 83] _ _
      refine zn_ld rfl rfl rfl ?_
      refine zn_get (v := .ref 3) rfl (zv_C (a := 83) (n := 0) rfl rfl rfl) ?_
      refine zn_ld rfl rfl rfl ?_
      refine zn_c [.int 0, .int a1, .ref 3, .int (zg s 29 (a2 * 10 + 0)), .ref 83] (xo_push (.int 0)) rfl rfl ?_
      refine zn_zt [.ref 3, .int a1, .int 0] [.int (zg s 29 (a2 * 10 + 0)), .ref 83] (c := []) rfl rfl rfl rfl rfl (Zt.imp (zp_40 hd (Or.inl rfl)) (fun vq sq hq => ?_))
      obtain ⟨rfl, hq⟩ := hq
      rw [hq]
      change Zn _ _ _ _ _ _ _ _ _ _ _ [.int (zg s 29 (a1 * 10 + 0)), .int (zg s 29 (a2 * 10 + 0)), .ref 83] _ _
      refine zn_zt [.ref 83, .int (zg s 29 (a2 * 10 + 0)), .int (zg s 29 (a1 * 10 + 0))] [] rfl rfl rfl rfl rfl (Zt.imp h (fun v5 s6 h => ?_))
      obtain ⟨x7, rfl, h⟩ := h
      change Zn _ _ _ _ _ _ _ _ _ _ _ [.int x7] _ _
      refine zn_brP rfl rfl ⟨fun hcn => ?_, fun hcn => ?_⟩
      · replace h := h.1 ((i_eq (x := x7) (y := 0) rfl (show (0 : Int32).toInt = 0 by decide)).mp hcn)
        exact m_127_39_3 hd r2 h
      · replace h := h.2 (fun q => hcn ((i_eq (x := x7) (y := 0) rfl (show (0 : Int32).toInt = 0 by decide)).mpr q))
        refine zn_ld rfl rfl rfl ?_
        refine zn_get (v := .ref 3) rfl (zv_C (a := 83) (n := 0) rfl rfl rfl) ?_
        refine zn_ld rfl rfl rfl ?_
        refine zn_get (v := .ref 3) rfl (zv_C (a := 83) (n := 0) rfl rfl rfl) ?_
        refine zn_ld rfl rfl rfl ?_
        refine zn_c [.int 5, .int a1, .ref 3, .ref 3] (xo_push (.int 5)) rfl rfl ?_
        refine zn_zt [.ref 3, .int a1, .int 5] [.ref 3] (c := []) rfl rfl rfl rfl rfl (Zt.imp (zp_40 hd (Or.inl rfl)) (fun vq sq hq => ?_))
        obtain ⟨rfl, hq⟩ := hq
        rw [hq]
        change Zn _ _ _ _ _ _ _ _ _ _ _ [.int (zg s6 29 (a1 * 10 + 5)), .ref 3] _ _
        refine zn_c [.int 0, .int (zg s6 29 (a1 * 10 + 5)), .ref 3] (xo_push (.int 0)) rfl rfl ?_
        refine zn_zt [.ref 3, .int (zg s6 29 (a1 * 10 + 5)), .int 0] [] (c := []) rfl rfl rfl rfl rfl (Zt.imp (zp_41 hd (Or.inl rfl)) (fun vq sq hq => ?_))
        obtain ⟨rfl, hq⟩ := hq
        rw [hq]
        change Zn _ _ _ _ _ _ _ _ _ _ _ [.int (zg s6 31 ((zg s6 29 (a1 * 10 + 5)) * 5 + 0))] _ _
        exact zn_retI rfl h
theorem ml_127_2_3 {d d0 : Nat} (hd : d = d0 + 8)  {a1 : Int32} {a2 : Int32} {s : zS} {Q : Option Value → zS → Prop}  (h : vl_127_2 (fun j => Zt d (wd 3 j) j) 3  a1 a2 s Q) : Zn d [] [] ([(83, 1, 3), (83, 2, 4), (75, 0, 3), (75, 1, 21), (75, 2, 25)] : zW) ([(83, 1, 3), (83, 2, 4), (75, 0, 3), (75, 1, 21), (75, 2, 25)] : zW) xL_10 3 (some .int) xE_127 (xE_127.drop 2) [.ref 83, .int a1, .int a2, .null, .null] [] s Q := by
  obtain ⟨I, μ, h0, h1⟩ := h
  have key : ∀ (n : Nat) (a1 : Int32) (a2 : Int32) (s : zS), μ a1 a2 s = n → I a1 a2 s → Zn d [] [] ([(83, 1, 3), (83, 2, 4), (75, 0, 3), (75, 1, 21), (75, 2, 25)] : zW) ([(83, 1, 3), (83, 2, 4), (75, 0, 3), (75, 1, 21), (75, 2, 25)] : zW) xL_10 3 (some .int) xE_127 (xE_127.drop 2) [.ref 83, .int a1, .int a2, .null, .null] [] s Q := by
    intro n
    induction n using Nat.strongRecOn with
    | ind n ih =>
      intro a1 a2 s e hI
      exact m_127_2_3 hd (fun a1' a2' s' q => ih _ (by rw [← e]; exact q.2) a1' a2' s' rfl q.1) (h1 a1 a2 s hI)
  exact key _ a1 a2 s rfl h0
set_option maxRecDepth 20000 in
theorem m_127_0_3 {d d0 : Nat} (hd : d = d0 + 8)  {a1 : Int32} {s : zS} {Q : Option Value → zS → Prop}  (h : v_127_0 (fun j => Zt d (wd 3 j) j) 3  a1 s Q) : Zn d [] [] ([(83, 1, 3), (83, 2, 4), (75, 0, 3), (75, 1, 21), (75, 2, 25)] : zW) ([(83, 1, 3), (83, 2, 4), (75, 0, 3), (75, 1, 21), (75, 2, 25)] : zW) xL_10 3 (some .int) xE_127 (xE_127.drop 0) [.ref 83, .int a1, .null, .null, .null] [] s Q := by
  unfold v_127_0 at h
  refine zn_c [.int 0] (xo_push (.int 0)) rfl rfl ?_
  refine zn_st [.ref 83, .int a1, .int 0, .null, .null] rfl rfl rfl ?_
  exact ml_127_2_3 hd  h
theorem zq_127_3 {d : Nat} {a1 : Int32} {s : zS} {Q : Option Value → zS → Prop} (h : v_127_0 (fun j => Zt (d + 8) (wd 3 j) j) 3 a1 s Q) : Zt (d + 9) ([(83, 1, 3), (83, 2, 4), (75, 0, 3), (75, 1, 21), (75, 2, 25)] : zW) 127 [.ref 83, .int a1] s Q := zt_of (E := xE_127) (L := xL_10) (ml := 3) (ret := some .int) rfl rfl rfl (m_127_0_3 rfl h)
set_option maxRecDepth 20000 in
theorem m_127_39_39 {d d0 : Nat} (hd : d = d0 + 8) {R2 : Int32 → Int32 → zS → Prop} {a1 : Int32} {a2 : Int32} {s : zS} {Q : Option Value → zS → Prop} (r2 : ∀ a1 a2 s, R2 a1 a2 s → Zn d [] [] ([(83, 1, 39), (83, 2, 40), (75, 0, 39), (75, 1, 57), (75, 2, 61)] : zW) ([(83, 1, 39), (83, 2, 40), (75, 0, 39), (75, 1, 57), (75, 2, 61)] : zW) xL_10 3 (some .int) xE_127 (xE_127.drop 2) [.ref 83, .int a1, .int a2, .null, .null] [] s Q) (h : v_127_39 (fun j => Zt d (wd 39 j) j) 39 R2 a1 a2 s Q) : Zn d [] [] ([(83, 1, 39), (83, 2, 40), (75, 0, 39), (75, 1, 57), (75, 2, 61)] : zW) ([(83, 1, 39), (83, 2, 40), (75, 0, 39), (75, 1, 57), (75, 2, 61)] : zW) xL_10 3 (some .int) xE_127 (xE_127.drop 39) [.ref 83, .int a1, .int a2, .null, .null] [] s Q := by
  unfold v_127_39 at h
  replace h := h _ (i_add (x := a2) (y := 1) rfl (show (1 : Int32).toInt = 1 by decide))
  refine zn_inc [.ref 83, .int a1, .int (a2 + 1), .null, .null] rfl rfl rfl rfl ?_
  refine zn_go rfl ?_
  exact r2 a1 (a2 + 1) s h
set_option maxRecDepth 20000 in
theorem m_127_2_39 {d d0 : Nat} (hd : d = d0 + 8) {R2 : Int32 → Int32 → zS → Prop} {a1 : Int32} {a2 : Int32} {s : zS} {Q : Option Value → zS → Prop} (r2 : ∀ a1 a2 s, R2 a1 a2 s → Zn d [] [] ([(83, 1, 39), (83, 2, 40), (75, 0, 39), (75, 1, 57), (75, 2, 61)] : zW) ([(83, 1, 39), (83, 2, 40), (75, 0, 39), (75, 1, 57), (75, 2, 61)] : zW) xL_10 3 (some .int) xE_127 (xE_127.drop 2) [.ref 83, .int a1, .int a2, .null, .null] [] s Q) (h : v_127_2 (fun j => Zt d (wd 39 j) j) 39 R2 a1 a2 s Q) : Zn d [] [] ([(83, 1, 39), (83, 2, 40), (75, 0, 39), (75, 1, 57), (75, 2, 61)] : zW) ([(83, 1, 39), (83, 2, 40), (75, 0, 39), (75, 1, 57), (75, 2, 61)] : zW) xL_10 3 (some .int) xE_127 (xE_127.drop 2) [.ref 83, .int a1, .int a2, .null, .null] [] s Q := by
  unfold v_127_2 at h
  refine zn_ld rfl rfl rfl ?_
  refine zn_ld rfl rfl rfl ?_
  refine zn_brP rfl rfl ⟨fun hcn => ?_, fun hcn => ?_⟩
  · replace h := h.1 ((i_le (x := a1) (y := a2) rfl rfl).mp hcn)
    refine zn_c [.int 1000000] (xo_push (.int 1000000)) rfl rfl ?_
    exact zn_retI rfl h
  · replace h := h.2 (fun q => hcn ((i_le (x := a1) (y := a2) rfl rfl).mpr q))
    refine zn_ld rfl rfl rfl ?_
    refine zn_get (v := .ref 39) rfl (zv_C (a := 83) (n := 0) rfl rfl rfl) ?_
    refine zn_ld rfl rfl rfl ?_
    refine zn_c [.int 6, .int a2, .ref 39] (xo_push (.int 6)) rfl rfl ?_
    refine zn_zt [.ref 39, .int a2, .int 6] [] (c := []) rfl rfl rfl rfl rfl (Zt.imp (zp_40 hd (Or.inr rfl)) (fun vq sq hq => ?_))
    obtain ⟨rfl, hq⟩ := hq
    rw [hq]
    change Zn _ _ _ _ _ _ _ _ _ _ _ [.int (zg s 65 (a2 * 10 + 6))] _ _
    refine zn_ld rfl rfl rfl ?_
    refine zn_get (v := .ref 39) rfl (zv_C (a := 83) (n := 0) rfl rfl rfl) ?_
    refine zn_ld rfl rfl rfl ?_
    refine zn_c [.int 6, .int a1, .ref 39, .int (zg s 65 (a2 * 10 + 6))] (xo_push (.int 6)) rfl rfl ?_
    refine zn_zt [.ref 39, .int a1, .int 6] [.int (zg s 65 (a2 * 10 + 6))] (c := []) rfl rfl rfl rfl rfl (Zt.imp (zp_40 hd (Or.inr rfl)) (fun vq sq hq => ?_))
    obtain ⟨rfl, hq⟩ := hq
    rw [hq]
    change Zn _ _ _ _ _ _ _ _ _ _ _ [.int (zg s 65 (a1 * 10 + 6)), .int (zg s 65 (a2 * 10 + 6))] _ _
    refine zn_brN rfl rfl ⟨fun hcn => ?_, fun hcn => ?_⟩
    · replace h := h.1 (fun q => hcn ((i_eq (x := zg s 65 (a2 * 10 + 6)) (y := zg s 65 (a1 * 10 + 6)) rfl rfl).mpr q))
      exact m_127_39_39 hd r2 h
    · replace h := h.2 ((i_eq (x := zg s 65 (a2 * 10 + 6)) (y := zg s 65 (a1 * 10 + 6)) rfl rfl).mp hcn)
      refine zn_ld rfl rfl rfl ?_
      refine zn_ld rfl rfl rfl ?_
      refine zn_get (v := .ref 39) rfl (zv_C (a := 83) (n := 0) rfl rfl rfl) ?_
      refine zn_ld rfl rfl rfl ?_
      refine zn_c [.int 0, .int a2, .ref 39, .ref 83] (xo_push (.int 0)) rfl rfl ?_
      refine zn_zt [.ref 39, .int a2, .int 0] [.ref 83] (c := []) rfl rfl rfl rfl rfl (Zt.imp (zp_40 hd (Or.inr rfl)) (fun vq sq hq => ?_))
      obtain ⟨rfl, hq⟩ := hq
      rw [hq]
      change Zn _ _ _ _ _ _ _ _ _ _ _ [.int (zg s 65 (a2 * 10 + 0)), .ref 83] _ _
      refine zn_ld rfl rfl rfl ?_
      refine zn_get (v := .ref 39) rfl (zv_C (a := 83) (n := 0) rfl rfl rfl) ?_
      refine zn_ld rfl rfl rfl ?_
      refine zn_c [.int 0, .int a1, .ref 39, .int (zg s 65 (a2 * 10 + 0)), .ref 83] (xo_push (.int 0)) rfl rfl ?_
      refine zn_zt [.ref 39, .int a1, .int 0] [.int (zg s 65 (a2 * 10 + 0)), .ref 83] (c := []) rfl rfl rfl rfl rfl (Zt.imp (zp_40 hd (Or.inr rfl)) (fun vq sq hq => ?_))
      obtain ⟨rfl, hq⟩ := hq
      rw [hq]
      change Zn _ _ _ _ _ _ _ _ _ _ _ [.int (zg s 65 (a1 * 10 + 0)), .int (zg s 65 (a2 * 10 + 0)), .ref 83] _ _
      refine zn_zt [.ref 83, .int (zg s 65 (a2 * 10 + 0)), .int (zg s 65 (a1 * 10 + 0))] [] rfl rfl rfl rfl rfl (Zt.imp h (fun v5 s6 h => ?_))
      obtain ⟨x7, rfl, h⟩ := h
      change Zn _ _ _ _ _ _ _ _ _ _ _ [.int x7] _ _
      refine zn_brP rfl rfl ⟨fun hcn => ?_, fun hcn => ?_⟩
      · replace h := h.1 ((i_eq (x := x7) (y := 0) rfl (show (0 : Int32).toInt = 0 by decide)).mp hcn)
        exact m_127_39_39 hd r2 h
      · replace h := h.2 (fun q => hcn ((i_eq (x := x7) (y := 0) rfl (show (0 : Int32).toInt = 0 by decide)).mpr q))
        refine zn_ld rfl rfl rfl ?_
        refine zn_get (v := .ref 39) rfl (zv_C (a := 83) (n := 0) rfl rfl rfl) ?_
        refine zn_ld rfl rfl rfl ?_
        refine zn_get (v := .ref 39) rfl (zv_C (a := 83) (n := 0) rfl rfl rfl) ?_
        refine zn_ld rfl rfl rfl ?_
        refine zn_c [.int 5, .int a1, .ref 39, .ref 39] (xo_push (.int 5)) rfl rfl ?_
        refine zn_zt [.ref 39, .int a1, .int 5] [.ref 39] (c := []) rfl rfl rfl rfl rfl (Zt.imp (zp_40 hd (Or.inr rfl)) (fun vq sq hq => ?_))
        obtain ⟨rfl, hq⟩ := hq
        rw [hq]
        change Zn _ _ _ _ _ _ _ _ _ _ _ [.int (zg s6 65 (a1 * 10 + 5)), .ref 39] _ _
        refine zn_c [.int 0, .int (zg s6 65 (a1 * 10 + 5)), .ref 39] (xo_push (.int 0)) rfl rfl ?_
        refine zn_zt [.ref 39, .int (zg s6 65 (a1 * 10 + 5)), .int 0] [] (c := []) rfl rfl rfl rfl rfl (Zt.imp (zp_41 hd (Or.inr rfl)) (fun vq sq hq => ?_))
        obtain ⟨rfl, hq⟩ := hq
        rw [hq]
        change Zn _ _ _ _ _ _ _ _ _ _ _ [.int (zg s6 67 ((zg s6 65 (a1 * 10 + 5)) * 5 + 0))] _ _
        exact zn_retI rfl h
theorem ml_127_2_39 {d d0 : Nat} (hd : d = d0 + 8)  {a1 : Int32} {a2 : Int32} {s : zS} {Q : Option Value → zS → Prop}  (h : vl_127_2 (fun j => Zt d (wd 39 j) j) 39  a1 a2 s Q) : Zn d [] [] ([(83, 1, 39), (83, 2, 40), (75, 0, 39), (75, 1, 57), (75, 2, 61)] : zW) ([(83, 1, 39), (83, 2, 40), (75, 0, 39), (75, 1, 57), (75, 2, 61)] : zW) xL_10 3 (some .int) xE_127 (xE_127.drop 2) [.ref 83, .int a1, .int a2, .null, .null] [] s Q := by
  obtain ⟨I, μ, h0, h1⟩ := h
  have key : ∀ (n : Nat) (a1 : Int32) (a2 : Int32) (s : zS), μ a1 a2 s = n → I a1 a2 s → Zn d [] [] ([(83, 1, 39), (83, 2, 40), (75, 0, 39), (75, 1, 57), (75, 2, 61)] : zW) ([(83, 1, 39), (83, 2, 40), (75, 0, 39), (75, 1, 57), (75, 2, 61)] : zW) xL_10 3 (some .int) xE_127 (xE_127.drop 2) [.ref 83, .int a1, .int a2, .null, .null] [] s Q := by
    intro n
    induction n using Nat.strongRecOn with
    | ind n ih =>
      intro a1 a2 s e hI
      exact m_127_2_39 hd (fun a1' a2' s' q => ih _ (by rw [← e]; exact q.2) a1' a2' s' rfl q.1) (h1 a1 a2 s hI)
  exact key _ a1 a2 s rfl h0
set_option maxRecDepth 20000 in
theorem m_127_0_39 {d d0 : Nat} (hd : d = d0 + 8)  {a1 : Int32} {s : zS} {Q : Option Value → zS → Prop}  (h : v_127_0 (fun j => Zt d (wd 39 j) j) 39  a1 s Q) : Zn d [] [] ([(83, 1, 39), (83, 2, 40), (75, 0, 39), (75, 1, 57), (75, 2, 61)] : zW) ([(83, 1, 39), (83, 2, 40), (75, 0, 39), (75, 1, 57), (75, 2, 61)] : zW) xL_10 3 (some .int) xE_127 (xE_127.drop 0) [.ref 83, .int a1, .null, .null, .null] [] s Q := by
  unfold v_127_0 at h
  refine zn_c [.int 0] (xo_push (.int 0)) rfl rfl ?_
  refine zn_st [.ref 83, .int a1, .int 0, .null, .null] rfl rfl rfl ?_
  exact ml_127_2_39 hd  h
theorem zq_127_39 {d : Nat} {a1 : Int32} {s : zS} {Q : Option Value → zS → Prop} (h : v_127_0 (fun j => Zt (d + 8) (wd 39 j) j) 39 a1 s Q) : Zt (d + 9) ([(83, 1, 39), (83, 2, 40), (75, 0, 39), (75, 1, 57), (75, 2, 61)] : zW) 127 [.ref 83, .int a1] s Q := zt_of (E := xE_127) (L := xL_10) (ml := 3) (ret := some .int) rfl rfl rfl (m_127_0_39 rfl h)
theorem zc_127 {d P : Nat} (hP : P = 3 ∨ P = 39) {a1 : Int32} {s : zS} {Q : Option Value → zS → Prop} (h : v_127_0 (fun j => Zt (d + 8) (wd P j) j) P a1 s Q) : Zt (d + 9) (wd P 127) 127 [.ref 83, .int a1] s Q := by
  rcases hP with rfl | rfl
  · exact zq_127_3 h
  · exact zq_127_39 h
/-! FeatherBench$Told.bindFunc -/
def v_129_83 (T : Nat → List Value → zS → (Option Value → zS → Prop) → Prop) (P : Nat)  (a1 : Int32) (a2 : Int32) (a3 : Int32) (s : zS) (Q : Option Value → zS → Prop) : Prop :=
  Q none s
def v_129_0 (T : Nat → List Value → zS → (Option Value → zS → Prop) → Prop) (P : Nat)  (a1 : Int32) (s : zS) (Q : Option Value → zS → Prop) : Prop :=
  T 51 [.ref P, .ref (P + 1), .int (zg s (P + 26) (a1 * 10 + 0))] s (fun v2 s3 => ∃ x4, v2 = some (.int x4) ∧ ((0 ≤ x4.toInt → (¬ ((zStr s3 P x4).toInt = 0) → ((zg s3 (P + 22) x4).toInt = (zg s3 (P + 26) (a1 * 10 + 4)).toInt → ∀ x6 : Int32, (-2147483648 ≤ a1.toInt * 10 ∧ a1.toInt * 10 ≤ 2147483647 → x6.toInt = a1.toInt * 10) → ∀ x7 : Int32, (-2147483648 ≤ x6.toInt + 2 ∧ x6.toInt + 2 ≤ 2147483647 → x7.toInt = x6.toInt + 2) → (-1 ≤ x4.toInt ∧ x4.toInt ≤ 5000) ∧ (∀ s8, s8 = zt s3 (P + 26) x7 x4 → ∀ x9 : Int32, (-2147483648 ≤ a1.toInt * 10 ∧ a1.toInt * 10 ≤ 2147483647 → x9.toInt = a1.toInt * 10) → ∀ x10 : Int32, (-2147483648 ≤ x9.toInt + 9 ∧ x9.toInt + 9 ≤ 2147483647 → x10.toInt = x9.toInt + 9) → (-1 ≤ (zg s8 (P + 24) (x4 * 6 + 5)).toInt ∧ (zg s8 (P + 24) (x4 * 6 + 5)).toInt ≤ 5000) ∧ (∀ s12, s12 = zt s8 (P + 26) x10 (zg s8 (P + 24) (x4 * 6 + 5)) → ∀ x13 : Int32, (-2147483648 ≤ x4.toInt * 6 ∧ x4.toInt * 6 ≤ 2147483647 → x13.toInt = x4.toInt * 6) → ∀ x14 : Int32, (-2147483648 ≤ x13.toInt + 5 ∧ x13.toInt + 5 ≤ 2147483647 → x14.toInt = x13.toInt + 5) → (-1 ≤ a1.toInt ∧ a1.toInt ≤ 5000) ∧ (∀ s15, s15 = zt s12 (P + 24) x14 a1 → v_129_83 T P  a1 (zg s (P + 26) (a1 * 10 + 0)) x4 s15 Q)))) ∧ (¬ ((zg s3 (P + 22) x4).toInt = (zg s3 (P + 26) (a1 * 10 + 4)).toInt) → T 38 [.ref P, .int 4, .int (zg s (P + 26) (a1 * 10 + 0))] s3 (fun v16 s17 => v16 = none ∧ (v_129_83 T P  a1 (zg s (P + 26) (a1 * 10 + 0)) x4 s17 Q)))) ∧ ((zStr s3 P x4).toInt = 0 → T 38 [.ref P, .int 6, .int (zg s (P + 26) (a1 * 10 + 0))] s3 (fun v18 s19 => v18 = none ∧ (v_129_83 T P  a1 (zg s (P + 26) (a1 * 10 + 0)) x4 s19 Q)))) ∧ (¬ (0 ≤ x4.toInt) → T 38 [.ref P, .int 2, .int (zg s (P + 26) (a1 * 10 + 0))] s3 (fun v20 s21 => v20 = none ∧ (v_129_83 T P  a1 (zg s (P + 26) (a1 * 10 + 0)) x4 s21 Q)))))
set_option maxRecDepth 20000 in
theorem m_129_83_3 {d d0 : Nat} (hd : d = d0 + 8)  {a1 : Int32} {a2 : Int32} {a3 : Int32} {s : zS} {Q : Option Value → zS → Prop}  (h : v_129_83 (fun j => Zt d (wd 3 j) j) 3  a1 a2 a3 s Q) : Zn d [] [(3, 99), (3, 98)] ([(83, 1, 3), (83, 2, 4), (75, 0, 3), (75, 1, 21), (75, 2, 25)] : zW) ([(83, 1, 3), (83, 2, 4), (75, 0, 3), (75, 1, 21), (75, 2, 25)] : zW) xL_10 4 (none) xE_129 (xE_129.drop 83) [.ref 83, .int a1, .int a2, .int a3, .null, .null] [] s Q := by
  unfold v_129_83 at h
  exact zn_ret0 rfl h
set_option maxRecDepth 20000 in
theorem m_129_0_3 {d d0 : Nat} (hd : d = d0 + 8)  {a1 : Int32} {s : zS} {Q : Option Value → zS → Prop}  (h : v_129_0 (fun j => Zt d (wd 3 j) j) 3  a1 s Q) : Zn d [] [(3, 99), (3, 98)] ([(83, 1, 3), (83, 2, 4), (75, 0, 3), (75, 1, 21), (75, 2, 25)] : zW) ([(83, 1, 3), (83, 2, 4), (75, 0, 3), (75, 1, 21), (75, 2, 25)] : zW) xL_10 4 (none) xE_129 (xE_129.drop 0) [.ref 83, .int a1, .null, .null, .null, .null] [] s Q := by
  unfold v_129_0 at h
  refine zn_ld rfl rfl rfl ?_
  refine zn_get (v := .ref 3) rfl (zv_C (a := 83) (n := 0) rfl rfl rfl) ?_
  refine zn_ld rfl rfl rfl ?_
  refine zn_c [.int 0, .int a1, .ref 3] (xo_push (.int 0)) rfl rfl ?_
  refine zn_zt [.ref 3, .int a1, .int 0] [] (c := []) rfl rfl rfl rfl rfl (Zt.imp (zp_40 hd (Or.inl rfl)) (fun vq sq hq => ?_))
  obtain ⟨rfl, hq⟩ := hq
  rw [hq]
  change Zn _ _ _ _ _ _ _ _ _ _ _ [.int (zg s 29 (a1 * 10 + 0))] _ _
  refine zn_st [.ref 83, .int a1, .int (zg s 29 (a1 * 10 + 0)), .null, .null, .null] rfl rfl rfl ?_
  refine zn_ld rfl rfl rfl ?_
  refine zn_get (v := .ref 3) rfl (zv_C (a := 83) (n := 0) rfl rfl rfl) ?_
  refine zn_ld rfl rfl rfl ?_
  refine zn_get (v := .ref 4) rfl (zv_C (a := 83) (n := 1) rfl rfl rfl) ?_
  refine zn_ld rfl rfl rfl ?_
  refine zn_zt [.ref 3, .ref 4, .int (zg s 29 (a1 * 10 + 0))] [] rfl rfl rfl rfl rfl (Zt.imp h (fun v2 s3 h => ?_))
  obtain ⟨x4, rfl, h⟩ := h
  change Zn _ _ _ _ _ _ _ _ _ _ _ [.int x4] _ _
  refine zn_st [.ref 83, .int a1, .int (zg s 29 (a1 * 10 + 0)), .int x4, .null, .null] rfl rfl rfl ?_
  refine zn_ld rfl rfl rfl ?_
  refine zn_brP rfl rfl ⟨fun hcn => ?_, fun hcn => ?_⟩
  · replace h := h.1 ((i_le (x := 0) (y := x4) (show (0 : Int32).toInt = 0 by decide) rfl).mp hcn)
    refine zn_ld rfl rfl rfl ?_
    refine zn_get (v := .ref 3) rfl (zv_C (a := 83) (n := 0) rfl rfl rfl) ?_
    refine zn_ld rfl rfl rfl ?_
    refine zn_zt [.ref 3, .int x4] [] (c := []) rfl rfl rfl rfl rfl (Zt.imp (zp_49 hd (Or.inl rfl)) (fun vq sq hq => ?_))
    obtain ⟨rfl, hq⟩ := hq
    rw [hq]
    change Zn _ _ _ _ _ _ _ _ _ _ _ [.int (zStr s3 3 x4)] _ _
    refine zn_brN rfl rfl ⟨fun hcn => ?_, fun hcn => ?_⟩
    · replace h := h.1 (fun q => hcn ((i_eq (x := zStr s3 3 x4) (y := 0) rfl (show (0 : Int32).toInt = 0 by decide)).mpr q))
      refine zn_ld rfl rfl rfl ?_
      refine zn_get (v := .ref 3) rfl (zv_C (a := 83) (n := 0) rfl rfl rfl) ?_
      refine zn_get (v := .ref 25) rfl (zv_R (a := 3) rfl rfl) ?_
      refine zn_ld rfl rfl rfl ?_
      refine zn_row x4 [] (a := 25) hd rfl rfl rfl rfl ?_
      change Zn _ _ _ _ _ _ _ _ _ _ _ [.int (zg s3 25 x4)] _ _
      refine zn_ld rfl rfl rfl ?_
      refine zn_get (v := .ref 3) rfl (zv_C (a := 83) (n := 0) rfl rfl rfl) ?_
      refine zn_ld rfl rfl rfl ?_
      refine zn_c [.int 4, .int a1, .ref 3, .int (zg s3 25 x4)] (xo_push (.int 4)) rfl rfl ?_
      refine zn_zt [.ref 3, .int a1, .int 4] [.int (zg s3 25 x4)] (c := []) rfl rfl rfl rfl rfl (Zt.imp (zp_40 hd (Or.inl rfl)) (fun vq sq hq => ?_))
      obtain ⟨rfl, hq⟩ := hq
      rw [hq]
      change Zn _ _ _ _ _ _ _ _ _ _ _ [.int (zg s3 29 (a1 * 10 + 4)), .int (zg s3 25 x4)] _ _
      refine zn_brP rfl rfl ⟨fun hcn => ?_, fun hcn => ?_⟩
      · replace h := h.1 ((i_eq (x := zg s3 25 x4) (y := zg s3 29 (a1 * 10 + 4)) rfl rfl).mp hcn)
        refine zn_ld rfl rfl rfl ?_
        refine zn_get (v := .ref 3) rfl (zv_C (a := 83) (n := 0) rfl rfl rfl) ?_
        refine zn_get (v := .ref 29) rfl (zv_R (a := 3) rfl rfl) ?_
        refine zn_ld rfl rfl rfl ?_
        refine zn_c [.int 10, .int a1, .ref 29] (xo_push (.int 10)) rfl rfl ?_
        replace h := h _ (i_mul (x := a1) (y := 10) rfl (show (10 : Int32).toInt = 10 by decide))
        refine zn_c [.int (a1 * 10), .ref 29] xo_imul rfl rfl ?_
        refine zn_c [.int 2, .int (a1 * 10), .ref 29] (xo_push (.int 2)) rfl rfl ?_
        replace h := h _ (i_add (x := (a1 * 10)) (y := 2) rfl (show (2 : Int32).toInt = 2 by decide))
        refine zn_c [.int ((a1 * 10) + 2), .ref 29] xo_iadd rfl rfl ?_
        refine zn_ld rfl rfl rfl ?_
        refine zn_set ((a1 * 10) + 2) x4 [] (a := 29) hd rfl rfl rfl rfl h.1 rfl rfl ?_
        replace h := h.2
        replace h := h _ rfl
        refine zn_ld rfl rfl rfl ?_
        refine zn_get (v := .ref 3) rfl (zv_C (a := 83) (n := 0) rfl rfl rfl) ?_
        refine zn_get (v := .ref 29) rfl (zv_R (a := 3) rfl rfl) ?_
        refine zn_ld rfl rfl rfl ?_
        refine zn_c [.int 10, .int a1, .ref 29] (xo_push (.int 10)) rfl rfl ?_
        replace h := h _ (i_mul (x := a1) (y := 10) rfl (show (10 : Int32).toInt = 10 by decide))
        refine zn_c [.int (a1 * 10), .ref 29] xo_imul rfl rfl ?_
        refine zn_c [.int 9, .int (a1 * 10), .ref 29] (xo_push (.int 9)) rfl rfl ?_
        replace h := h _ (i_add (x := (a1 * 10)) (y := 9) rfl (show (9 : Int32).toInt = 9 by decide))
        refine zn_c [.int ((a1 * 10) + 9), .ref 29] xo_iadd rfl rfl ?_
        refine zn_ld rfl rfl rfl ?_
        refine zn_get (v := .ref 3) rfl (zv_C (a := 83) (n := 0) rfl rfl rfl) ?_
        refine zn_ld rfl rfl rfl ?_
        refine zn_c [.int 5, .int x4, .ref 3, .int ((a1 * 10) + 9), .ref 29] (xo_push (.int 5)) rfl rfl ?_
        refine zn_zt [.ref 3, .int x4, .int 5] [.int ((a1 * 10) + 9), .ref 29] (c := []) rfl rfl rfl rfl rfl (Zt.imp (zp_39 hd (Or.inl rfl)) (fun vq sq hq => ?_))
        obtain ⟨rfl, hq⟩ := hq
        rw [hq]
        change Zn _ _ _ _ _ _ _ _ _ _ _ [.int (zg (zt s3 29 ((a1 * 10) + 2) x4) 27 (x4 * 6 + 5)), .int ((a1 * 10) + 9), .ref 29] _ _
        refine zn_set ((a1 * 10) + 9) (zg (zt s3 29 ((a1 * 10) + 2) x4) 27 (x4 * 6 + 5)) [] (a := 29) hd rfl rfl rfl rfl h.1 rfl rfl ?_
        replace h := h.2
        replace h := h _ rfl
        refine zn_ld rfl rfl rfl ?_
        refine zn_get (v := .ref 3) rfl (zv_C (a := 83) (n := 0) rfl rfl rfl) ?_
        refine zn_get (v := .ref 27) rfl (zv_R (a := 3) rfl rfl) ?_
        refine zn_ld rfl rfl rfl ?_
        refine zn_c [.int 6, .int x4, .ref 27] (xo_push (.int 6)) rfl rfl ?_
        replace h := h _ (i_mul (x := x4) (y := 6) rfl (show (6 : Int32).toInt = 6 by decide))
        refine zn_c [.int (x4 * 6), .ref 27] xo_imul rfl rfl ?_
        refine zn_c [.int 5, .int (x4 * 6), .ref 27] (xo_push (.int 5)) rfl rfl ?_
        replace h := h _ (i_add (x := (x4 * 6)) (y := 5) rfl (show (5 : Int32).toInt = 5 by decide))
        refine zn_c [.int ((x4 * 6) + 5), .ref 27] xo_iadd rfl rfl ?_
        refine zn_ld rfl rfl rfl ?_
        refine zn_set ((x4 * 6) + 5) a1 [] (a := 27) hd rfl rfl rfl rfl h.1 rfl rfl ?_
        replace h := h.2
        replace h := h _ rfl
        exact m_129_83_3 hd  h
      · replace h := h.2 (fun q => hcn ((i_eq (x := zg s3 25 x4) (y := zg s3 29 (a1 * 10 + 4)) rfl rfl).mpr q))
        refine zn_ld rfl rfl rfl ?_
        refine zn_get (v := .ref 3) rfl (zv_C (a := 83) (n := 0) rfl rfl rfl) ?_
        refine zn_c [.int 4, .ref 3] (xo_push (.int 4)) rfl rfl ?_
        refine zn_ld rfl rfl rfl ?_
        refine zn_zt [.ref 3, .int 4, .int (zg s 29 (a1 * 10 + 0))] [] rfl rfl rfl rfl rfl (Zt.imp h (fun v16 s17 h => ?_))
        obtain ⟨rfl, h⟩ := h
        change Zn _ _ _ _ _ _ _ _ _ _ _ [] _ _
        refine zn_go rfl ?_
        exact m_129_83_3 hd  h
    · replace h := h.2 ((i_eq (x := zStr s3 3 x4) (y := 0) rfl (show (0 : Int32).toInt = 0 by decide)).mp hcn)
      refine zn_ld rfl rfl rfl ?_
      refine zn_get (v := .ref 3) rfl (zv_C (a := 83) (n := 0) rfl rfl rfl) ?_
      refine zn_c [.int 6, .ref 3] (xo_push (.int 6)) rfl rfl ?_
      refine zn_ld rfl rfl rfl ?_
      refine zn_zt [.ref 3, .int 6, .int (zg s 29 (a1 * 10 + 0))] [] rfl rfl rfl rfl rfl (Zt.imp h (fun v18 s19 h => ?_))
      obtain ⟨rfl, h⟩ := h
      change Zn _ _ _ _ _ _ _ _ _ _ _ [] _ _
      refine zn_go rfl ?_
      exact m_129_83_3 hd  h
  · replace h := h.2 (fun q => hcn ((i_le (x := 0) (y := x4) (show (0 : Int32).toInt = 0 by decide) rfl).mpr q))
    refine zn_ld rfl rfl rfl ?_
    refine zn_get (v := .ref 3) rfl (zv_C (a := 83) (n := 0) rfl rfl rfl) ?_
    refine zn_c [.int 2, .ref 3] (xo_push (.int 2)) rfl rfl ?_
    refine zn_ld rfl rfl rfl ?_
    refine zn_zt [.ref 3, .int 2, .int (zg s 29 (a1 * 10 + 0))] [] rfl rfl rfl rfl rfl (Zt.imp h (fun v20 s21 h => ?_))
    obtain ⟨rfl, h⟩ := h
    change Zn _ _ _ _ _ _ _ _ _ _ _ [] _ _
    refine zn_go rfl ?_
    exact m_129_83_3 hd  h
theorem zq_129_3 {d : Nat} {a1 : Int32} {s : zS} {Q : Option Value → zS → Prop} (h : v_129_0 (fun j => Zt (d + 8) (wd 3 j) j) 3 a1 s Q) : Zt (d + 9) ([(83, 1, 3), (83, 2, 4), (75, 0, 3), (75, 1, 21), (75, 2, 25)] : zW) 129 [.ref 83, .int a1] s Q := zt_of (E := xE_129) (L := xL_10) (ml := 4) (ret := none) rfl rfl rfl (m_129_0_3 rfl h)
set_option maxRecDepth 20000 in
theorem m_129_83_39 {d d0 : Nat} (hd : d = d0 + 8)  {a1 : Int32} {a2 : Int32} {a3 : Int32} {s : zS} {Q : Option Value → zS → Prop}  (h : v_129_83 (fun j => Zt d (wd 39 j) j) 39  a1 a2 a3 s Q) : Zn d [] [(39, 99), (39, 98)] ([(83, 1, 39), (83, 2, 40), (75, 0, 39), (75, 1, 57), (75, 2, 61)] : zW) ([(83, 1, 39), (83, 2, 40), (75, 0, 39), (75, 1, 57), (75, 2, 61)] : zW) xL_10 4 (none) xE_129 (xE_129.drop 83) [.ref 83, .int a1, .int a2, .int a3, .null, .null] [] s Q := by
  unfold v_129_83 at h
  exact zn_ret0 rfl h
set_option maxRecDepth 20000 in
theorem m_129_0_39 {d d0 : Nat} (hd : d = d0 + 8)  {a1 : Int32} {s : zS} {Q : Option Value → zS → Prop}  (h : v_129_0 (fun j => Zt d (wd 39 j) j) 39  a1 s Q) : Zn d [] [(39, 99), (39, 98)] ([(83, 1, 39), (83, 2, 40), (75, 0, 39), (75, 1, 57), (75, 2, 61)] : zW) ([(83, 1, 39), (83, 2, 40), (75, 0, 39), (75, 1, 57), (75, 2, 61)] : zW) xL_10 4 (none) xE_129 (xE_129.drop 0) [.ref 83, .int a1, .null, .null, .null, .null] [] s Q := by
  unfold v_129_0 at h
  refine zn_ld rfl rfl rfl ?_
  refine zn_get (v := .ref 39) rfl (zv_C (a := 83) (n := 0) rfl rfl rfl) ?_
  refine zn_ld rfl rfl rfl ?_
  refine zn_c [.int 0, .int a1, .ref 39] (xo_push (.int 0)) rfl rfl ?_
  refine zn_zt [.ref 39, .int a1, .int 0] [] (c := []) rfl rfl rfl rfl rfl (Zt.imp (zp_40 hd (Or.inr rfl)) (fun vq sq hq => ?_))
  obtain ⟨rfl, hq⟩ := hq
  rw [hq]
  change Zn _ _ _ _ _ _ _ _ _ _ _ [.int (zg s 65 (a1 * 10 + 0))] _ _
  refine zn_st [.ref 83, .int a1, .int (zg s 65 (a1 * 10 + 0)), .null, .null, .null] rfl rfl rfl ?_
  refine zn_ld rfl rfl rfl ?_
  refine zn_get (v := .ref 39) rfl (zv_C (a := 83) (n := 0) rfl rfl rfl) ?_
  refine zn_ld rfl rfl rfl ?_
  refine zn_get (v := .ref 40) rfl (zv_C (a := 83) (n := 1) rfl rfl rfl) ?_
  refine zn_ld rfl rfl rfl ?_
  refine zn_zt [.ref 39, .ref 40, .int (zg s 65 (a1 * 10 + 0))] [] rfl rfl rfl rfl rfl (Zt.imp h (fun v2 s3 h => ?_))
  obtain ⟨x4, rfl, h⟩ := h
  change Zn _ _ _ _ _ _ _ _ _ _ _ [.int x4] _ _
  refine zn_st [.ref 83, .int a1, .int (zg s 65 (a1 * 10 + 0)), .int x4, .null, .null] rfl rfl rfl ?_
  refine zn_ld rfl rfl rfl ?_
  refine zn_brP rfl rfl ⟨fun hcn => ?_, fun hcn => ?_⟩
  · replace h := h.1 ((i_le (x := 0) (y := x4) (show (0 : Int32).toInt = 0 by decide) rfl).mp hcn)
    refine zn_ld rfl rfl rfl ?_
    refine zn_get (v := .ref 39) rfl (zv_C (a := 83) (n := 0) rfl rfl rfl) ?_
    refine zn_ld rfl rfl rfl ?_
    refine zn_zt [.ref 39, .int x4] [] (c := []) rfl rfl rfl rfl rfl (Zt.imp (zp_49 hd (Or.inr rfl)) (fun vq sq hq => ?_))
    obtain ⟨rfl, hq⟩ := hq
    rw [hq]
    change Zn _ _ _ _ _ _ _ _ _ _ _ [.int (zStr s3 39 x4)] _ _
    refine zn_brN rfl rfl ⟨fun hcn => ?_, fun hcn => ?_⟩
    · replace h := h.1 (fun q => hcn ((i_eq (x := zStr s3 39 x4) (y := 0) rfl (show (0 : Int32).toInt = 0 by decide)).mpr q))
      refine zn_ld rfl rfl rfl ?_
      refine zn_get (v := .ref 39) rfl (zv_C (a := 83) (n := 0) rfl rfl rfl) ?_
      refine zn_get (v := .ref 61) rfl (zv_R (a := 39) rfl rfl) ?_
      refine zn_ld rfl rfl rfl ?_
      refine zn_row x4 [] (a := 61) hd rfl rfl rfl rfl ?_
      change Zn _ _ _ _ _ _ _ _ _ _ _ [.int (zg s3 61 x4)] _ _
      refine zn_ld rfl rfl rfl ?_
      refine zn_get (v := .ref 39) rfl (zv_C (a := 83) (n := 0) rfl rfl rfl) ?_
      refine zn_ld rfl rfl rfl ?_
      refine zn_c [.int 4, .int a1, .ref 39, .int (zg s3 61 x4)] (xo_push (.int 4)) rfl rfl ?_
      refine zn_zt [.ref 39, .int a1, .int 4] [.int (zg s3 61 x4)] (c := []) rfl rfl rfl rfl rfl (Zt.imp (zp_40 hd (Or.inr rfl)) (fun vq sq hq => ?_))
      obtain ⟨rfl, hq⟩ := hq
      rw [hq]
      change Zn _ _ _ _ _ _ _ _ _ _ _ [.int (zg s3 65 (a1 * 10 + 4)), .int (zg s3 61 x4)] _ _
      refine zn_brP rfl rfl ⟨fun hcn => ?_, fun hcn => ?_⟩
      · replace h := h.1 ((i_eq (x := zg s3 61 x4) (y := zg s3 65 (a1 * 10 + 4)) rfl rfl).mp hcn)
        refine zn_ld rfl rfl rfl ?_
        refine zn_get (v := .ref 39) rfl (zv_C (a := 83) (n := 0) rfl rfl rfl) ?_
        refine zn_get (v := .ref 65) rfl (zv_R (a := 39) rfl rfl) ?_
        refine zn_ld rfl rfl rfl ?_
        refine zn_c [.int 10, .int a1, .ref 65] (xo_push (.int 10)) rfl rfl ?_
        replace h := h _ (i_mul (x := a1) (y := 10) rfl (show (10 : Int32).toInt = 10 by decide))
        refine zn_c [.int (a1 * 10), .ref 65] xo_imul rfl rfl ?_
        refine zn_c [.int 2, .int (a1 * 10), .ref 65] (xo_push (.int 2)) rfl rfl ?_
        replace h := h _ (i_add (x := (a1 * 10)) (y := 2) rfl (show (2 : Int32).toInt = 2 by decide))
        refine zn_c [.int ((a1 * 10) + 2), .ref 65] xo_iadd rfl rfl ?_
        refine zn_ld rfl rfl rfl ?_
        refine zn_set ((a1 * 10) + 2) x4 [] (a := 65) hd rfl rfl rfl rfl h.1 rfl rfl ?_
        replace h := h.2
        replace h := h _ rfl
        refine zn_ld rfl rfl rfl ?_
        refine zn_get (v := .ref 39) rfl (zv_C (a := 83) (n := 0) rfl rfl rfl) ?_
        refine zn_get (v := .ref 65) rfl (zv_R (a := 39) rfl rfl) ?_
        refine zn_ld rfl rfl rfl ?_
        refine zn_c [.int 10, .int a1, .ref 65] (xo_push (.int 10)) rfl rfl ?_
        replace h := h _ (i_mul (x := a1) (y := 10) rfl (show (10 : Int32).toInt = 10 by decide))
        refine zn_c [.int (a1 * 10), .ref 65] xo_imul rfl rfl ?_
        refine zn_c [.int 9, .int (a1 * 10), .ref 65] (xo_push (.int 9)) rfl rfl ?_
        replace h := h _ (i_add (x := (a1 * 10)) (y := 9) rfl (show (9 : Int32).toInt = 9 by decide))
        refine zn_c [.int ((a1 * 10) + 9), .ref 65] xo_iadd rfl rfl ?_
        refine zn_ld rfl rfl rfl ?_
        refine zn_get (v := .ref 39) rfl (zv_C (a := 83) (n := 0) rfl rfl rfl) ?_
        refine zn_ld rfl rfl rfl ?_
        refine zn_c [.int 5, .int x4, .ref 39, .int ((a1 * 10) + 9), .ref 65] (xo_push (.int 5)) rfl rfl ?_
        refine zn_zt [.ref 39, .int x4, .int 5] [.int ((a1 * 10) + 9), .ref 65] (c := []) rfl rfl rfl rfl rfl (Zt.imp (zp_39 hd (Or.inr rfl)) (fun vq sq hq => ?_))
        obtain ⟨rfl, hq⟩ := hq
        rw [hq]
        change Zn _ _ _ _ _ _ _ _ _ _ _ [.int (zg (zt s3 65 ((a1 * 10) + 2) x4) 63 (x4 * 6 + 5)), .int ((a1 * 10) + 9), .ref 65] _ _
        refine zn_set ((a1 * 10) + 9) (zg (zt s3 65 ((a1 * 10) + 2) x4) 63 (x4 * 6 + 5)) [] (a := 65) hd rfl rfl rfl rfl h.1 rfl rfl ?_
        replace h := h.2
        replace h := h _ rfl
        refine zn_ld rfl rfl rfl ?_
        refine zn_get (v := .ref 39) rfl (zv_C (a := 83) (n := 0) rfl rfl rfl) ?_
        refine zn_get (v := .ref 63) rfl (zv_R (a := 39) rfl rfl) ?_
        refine zn_ld rfl rfl rfl ?_
        refine zn_c [.int 6, .int x4, .ref 63] (xo_push (.int 6)) rfl rfl ?_
        replace h := h _ (i_mul (x := x4) (y := 6) rfl (show (6 : Int32).toInt = 6 by decide))
        refine zn_c [.int (x4 * 6), .ref 63] xo_imul rfl rfl ?_
        refine zn_c [.int 5, .int (x4 * 6), .ref 63] (xo_push (.int 5)) rfl rfl ?_
        replace h := h _ (i_add (x := (x4 * 6)) (y := 5) rfl (show (5 : Int32).toInt = 5 by decide))
        refine zn_c [.int ((x4 * 6) + 5), .ref 63] xo_iadd rfl rfl ?_
        refine zn_ld rfl rfl rfl ?_
        refine zn_set ((x4 * 6) + 5) a1 [] (a := 63) hd rfl rfl rfl rfl h.1 rfl rfl ?_
        replace h := h.2
        replace h := h _ rfl
        exact m_129_83_39 hd  h
      · replace h := h.2 (fun q => hcn ((i_eq (x := zg s3 61 x4) (y := zg s3 65 (a1 * 10 + 4)) rfl rfl).mpr q))
        refine zn_ld rfl rfl rfl ?_
        refine zn_get (v := .ref 39) rfl (zv_C (a := 83) (n := 0) rfl rfl rfl) ?_
        refine zn_c [.int 4, .ref 39] (xo_push (.int 4)) rfl rfl ?_
        refine zn_ld rfl rfl rfl ?_
        refine zn_zt [.ref 39, .int 4, .int (zg s 65 (a1 * 10 + 0))] [] rfl rfl rfl rfl rfl (Zt.imp h (fun v16 s17 h => ?_))
        obtain ⟨rfl, h⟩ := h
        change Zn _ _ _ _ _ _ _ _ _ _ _ [] _ _
        refine zn_go rfl ?_
        exact m_129_83_39 hd  h
    · replace h := h.2 ((i_eq (x := zStr s3 39 x4) (y := 0) rfl (show (0 : Int32).toInt = 0 by decide)).mp hcn)
      refine zn_ld rfl rfl rfl ?_
      refine zn_get (v := .ref 39) rfl (zv_C (a := 83) (n := 0) rfl rfl rfl) ?_
      refine zn_c [.int 6, .ref 39] (xo_push (.int 6)) rfl rfl ?_
      refine zn_ld rfl rfl rfl ?_
      refine zn_zt [.ref 39, .int 6, .int (zg s 65 (a1 * 10 + 0))] [] rfl rfl rfl rfl rfl (Zt.imp h (fun v18 s19 h => ?_))
      obtain ⟨rfl, h⟩ := h
      change Zn _ _ _ _ _ _ _ _ _ _ _ [] _ _
      refine zn_go rfl ?_
      exact m_129_83_39 hd  h
  · replace h := h.2 (fun q => hcn ((i_le (x := 0) (y := x4) (show (0 : Int32).toInt = 0 by decide) rfl).mpr q))
    refine zn_ld rfl rfl rfl ?_
    refine zn_get (v := .ref 39) rfl (zv_C (a := 83) (n := 0) rfl rfl rfl) ?_
    refine zn_c [.int 2, .ref 39] (xo_push (.int 2)) rfl rfl ?_
    refine zn_ld rfl rfl rfl ?_
    refine zn_zt [.ref 39, .int 2, .int (zg s 65 (a1 * 10 + 0))] [] rfl rfl rfl rfl rfl (Zt.imp h (fun v20 s21 h => ?_))
    obtain ⟨rfl, h⟩ := h
    change Zn _ _ _ _ _ _ _ _ _ _ _ [] _ _
    refine zn_go rfl ?_
    exact m_129_83_39 hd  h
theorem zq_129_39 {d : Nat} {a1 : Int32} {s : zS} {Q : Option Value → zS → Prop} (h : v_129_0 (fun j => Zt (d + 8) (wd 39 j) j) 39 a1 s Q) : Zt (d + 9) ([(83, 1, 39), (83, 2, 40), (75, 0, 39), (75, 1, 57), (75, 2, 61)] : zW) 129 [.ref 83, .int a1] s Q := zt_of (E := xE_129) (L := xL_10) (ml := 4) (ret := none) rfl rfl rfl (m_129_0_39 rfl h)
theorem zc_129 {d P : Nat} (hP : P = 3 ∨ P = 39) {a1 : Int32} {s : zS} {Q : Option Value → zS → Prop} (h : v_129_0 (fun j => Zt (d + 8) (wd P j) j) P a1 s Q) : Zt (d + 9) (wd P 129) 129 [.ref 83, .int a1] s Q := by
  rcases hP with rfl | rfl
  · exact zq_129_3 h
  · exact zq_129_39 h
/-! FeatherBench$Told.enterDecl -/
def v_130_31 (T : Nat → List Value → zS → (Option Value → zS → Prop) → Prop) (P : Nat)  (a1 : Int32) (s : zS) (Q : Option Value → zS → Prop) : Prop :=
  Q none s
def v_130_0 (T : Nat → List Value → zS → (Option Value → zS → Prop) → Prop) (P : Nat)  (a1 : Int32) (s : zS) (Q : Option Value → zS → Prop) : Prop :=
  (0 ≤ a1.toInt → T 82 [.ref 75, .int a1, .int (zg s (P + 24) (a1 * 6 + 2)), .int (-1)] s (fun v2 s3 => v2 = none ∧ (v_130_31 T P  a1 s3 Q))) ∧ (¬ (0 ≤ a1.toInt) → ∀ x4 : Int32, (-2147483648 ≤ (-1) - a1.toInt ∧ (-1) - a1.toInt ≤ 2147483647 → x4.toInt = (-1) - a1.toInt) → T 82 [.ref 75, .int (zg s (P + 26) (x4 * 10 + 2)), .int (zg s (P + 26) (x4 * 10 + 3)), .int (-1)] s (fun v7 s8 => v7 = none ∧ (v_130_31 T P  a1 s8 Q)))
set_option maxRecDepth 20000 in
theorem m_130_31_3 {d d0 : Nat} (hd : d = d0 + 8)  {a1 : Int32} {s : zS} {Q : Option Value → zS → Prop}  (h : v_130_31 (fun j => Zt d (wd 3 j) j) 3  a1 s Q) : Zn d [] [] ([(83, 1, 3), (83, 2, 4), (75, 0, 3), (75, 1, 21), (75, 2, 25)] : zW) ([(83, 1, 3), (83, 2, 4), (75, 0, 3), (75, 1, 21), (75, 2, 25)] : zW) xL_10 3 (none) xE_130 (xE_130.drop 31) [.ref 83, .int a1, .null, .null, .null] [] s Q := by
  unfold v_130_31 at h
  exact zn_ret0 rfl h
set_option maxRecDepth 20000 in
theorem m_130_0_3 {d d0 : Nat} (hd : d = d0 + 8)  {a1 : Int32} {s : zS} {Q : Option Value → zS → Prop}  (h : v_130_0 (fun j => Zt d (wd 3 j) j) 3  a1 s Q) : Zn d [] [] ([(83, 1, 3), (83, 2, 4), (75, 0, 3), (75, 1, 21), (75, 2, 25)] : zW) ([(83, 1, 3), (83, 2, 4), (75, 0, 3), (75, 1, 21), (75, 2, 25)] : zW) xL_10 3 (none) xE_130 (xE_130.drop 0) [.ref 83, .int a1, .null, .null, .null] [] s Q := by
  unfold v_130_0 at h
  refine zn_ld rfl rfl rfl ?_
  refine zn_brP rfl rfl ⟨fun hcn => ?_, fun hcn => ?_⟩
  · replace h := h.1 ((i_le (x := 0) (y := a1) (show (0 : Int32).toInt = 0 by decide) rfl).mp hcn)
    refine zn_ld rfl rfl rfl ?_
    refine zn_get (v := .ref 75) rfl (zv_R (a := 83) rfl rfl) ?_
    refine zn_ld rfl rfl rfl ?_
    refine zn_ld rfl rfl rfl ?_
    refine zn_get (v := .ref 3) rfl (zv_C (a := 83) (n := 0) rfl rfl rfl) ?_
    refine zn_ld rfl rfl rfl ?_
    refine zn_c [.int 2, .int a1, .ref 3, .int a1, .ref 75] (xo_push (.int 2)) rfl rfl ?_
    refine zn_zt [.ref 3, .int a1, .int 2] [.int a1, .ref 75] (c := []) rfl rfl rfl rfl rfl (Zt.imp (zp_39 hd (Or.inl rfl)) (fun vq sq hq => ?_))
    obtain ⟨rfl, hq⟩ := hq
    rw [hq]
    change Zn _ _ _ _ _ _ _ _ _ _ _ [.int (zg s 27 (a1 * 6 + 2)), .int a1, .ref 75] _ _
    refine zn_c [.int (-1), .int (zg s 27 (a1 * 6 + 2)), .int a1, .ref 75] (xo_push (.int (-1))) rfl rfl ?_
    refine zn_zt [.ref 75, .int a1, .int (zg s 27 (a1 * 6 + 2)), .int (-1)] [] rfl rfl rfl rfl rfl (Zt.imp h (fun v2 s3 h => ?_))
    obtain ⟨rfl, h⟩ := h
    change Zn _ _ _ _ _ _ _ _ _ _ _ [] _ _
    exact m_130_31_3 hd  h
  · replace h := h.2 (fun q => hcn ((i_le (x := 0) (y := a1) (show (0 : Int32).toInt = 0 by decide) rfl).mpr q))
    refine zn_c [.int (-1)] (xo_push (.int (-1))) rfl rfl ?_
    refine zn_ld rfl rfl rfl ?_
    replace h := h _ (i_sub (x := (-1)) (y := a1) (show ((-1) : Int32).toInt = (-1) by decide) rfl)
    refine zn_c [.int ((-1) - a1)] xo_isub rfl rfl ?_
    refine zn_st [.ref 83, .int a1, .int ((-1) - a1), .null, .null] rfl rfl rfl ?_
    refine zn_ld rfl rfl rfl ?_
    refine zn_get (v := .ref 75) rfl (zv_R (a := 83) rfl rfl) ?_
    refine zn_ld rfl rfl rfl ?_
    refine zn_get (v := .ref 3) rfl (zv_C (a := 83) (n := 0) rfl rfl rfl) ?_
    refine zn_ld rfl rfl rfl ?_
    refine zn_c [.int 2, .int ((-1) - a1), .ref 3, .ref 75] (xo_push (.int 2)) rfl rfl ?_
    refine zn_zt [.ref 3, .int ((-1) - a1), .int 2] [.ref 75] (c := []) rfl rfl rfl rfl rfl (Zt.imp (zp_40 hd (Or.inl rfl)) (fun vq sq hq => ?_))
    obtain ⟨rfl, hq⟩ := hq
    rw [hq]
    change Zn _ _ _ _ _ _ _ _ _ _ _ [.int (zg s 29 (((-1) - a1) * 10 + 2)), .ref 75] _ _
    refine zn_ld rfl rfl rfl ?_
    refine zn_get (v := .ref 3) rfl (zv_C (a := 83) (n := 0) rfl rfl rfl) ?_
    refine zn_ld rfl rfl rfl ?_
    refine zn_c [.int 3, .int ((-1) - a1), .ref 3, .int (zg s 29 (((-1) - a1) * 10 + 2)), .ref 75] (xo_push (.int 3)) rfl rfl ?_
    refine zn_zt [.ref 3, .int ((-1) - a1), .int 3] [.int (zg s 29 (((-1) - a1) * 10 + 2)), .ref 75] (c := []) rfl rfl rfl rfl rfl (Zt.imp (zp_40 hd (Or.inl rfl)) (fun vq sq hq => ?_))
    obtain ⟨rfl, hq⟩ := hq
    rw [hq]
    change Zn _ _ _ _ _ _ _ _ _ _ _ [.int (zg s 29 (((-1) - a1) * 10 + 3)), .int (zg s 29 (((-1) - a1) * 10 + 2)), .ref 75] _ _
    refine zn_c [.int (-1), .int (zg s 29 (((-1) - a1) * 10 + 3)), .int (zg s 29 (((-1) - a1) * 10 + 2)), .ref 75] (xo_push (.int (-1))) rfl rfl ?_
    refine zn_zt [.ref 75, .int (zg s 29 (((-1) - a1) * 10 + 2)), .int (zg s 29 (((-1) - a1) * 10 + 3)), .int (-1)] [] rfl rfl rfl rfl rfl (Zt.imp h (fun v7 s8 h => ?_))
    obtain ⟨rfl, h⟩ := h
    change Zn _ _ _ _ _ _ _ _ _ _ _ [] _ _
    refine zn_go rfl ?_
    refine zn_fg 2 ?_
    exact m_130_31_3 hd  h
theorem zq_130_3 {d : Nat} {a1 : Int32} {s : zS} {Q : Option Value → zS → Prop} (h : v_130_0 (fun j => Zt (d + 8) (wd 3 j) j) 3 a1 s Q) : Zt (d + 9) ([(83, 1, 3), (83, 2, 4), (75, 0, 3), (75, 1, 21), (75, 2, 25)] : zW) 130 [.ref 83, .int a1] s Q := zt_of (E := xE_130) (L := xL_10) (ml := 3) (ret := none) rfl rfl rfl (m_130_0_3 rfl h)
set_option maxRecDepth 20000 in
theorem m_130_31_39 {d d0 : Nat} (hd : d = d0 + 8)  {a1 : Int32} {s : zS} {Q : Option Value → zS → Prop}  (h : v_130_31 (fun j => Zt d (wd 39 j) j) 39  a1 s Q) : Zn d [] [] ([(83, 1, 39), (83, 2, 40), (75, 0, 39), (75, 1, 57), (75, 2, 61)] : zW) ([(83, 1, 39), (83, 2, 40), (75, 0, 39), (75, 1, 57), (75, 2, 61)] : zW) xL_10 3 (none) xE_130 (xE_130.drop 31) [.ref 83, .int a1, .null, .null, .null] [] s Q := by
  unfold v_130_31 at h
  exact zn_ret0 rfl h
set_option maxRecDepth 20000 in
theorem m_130_0_39 {d d0 : Nat} (hd : d = d0 + 8)  {a1 : Int32} {s : zS} {Q : Option Value → zS → Prop}  (h : v_130_0 (fun j => Zt d (wd 39 j) j) 39  a1 s Q) : Zn d [] [] ([(83, 1, 39), (83, 2, 40), (75, 0, 39), (75, 1, 57), (75, 2, 61)] : zW) ([(83, 1, 39), (83, 2, 40), (75, 0, 39), (75, 1, 57), (75, 2, 61)] : zW) xL_10 3 (none) xE_130 (xE_130.drop 0) [.ref 83, .int a1, .null, .null, .null] [] s Q := by
  unfold v_130_0 at h
  refine zn_ld rfl rfl rfl ?_
  refine zn_brP rfl rfl ⟨fun hcn => ?_, fun hcn => ?_⟩
  · replace h := h.1 ((i_le (x := 0) (y := a1) (show (0 : Int32).toInt = 0 by decide) rfl).mp hcn)
    refine zn_ld rfl rfl rfl ?_
    refine zn_get (v := .ref 75) rfl (zv_R (a := 83) rfl rfl) ?_
    refine zn_ld rfl rfl rfl ?_
    refine zn_ld rfl rfl rfl ?_
    refine zn_get (v := .ref 39) rfl (zv_C (a := 83) (n := 0) rfl rfl rfl) ?_
    refine zn_ld rfl rfl rfl ?_
    refine zn_c [.int 2, .int a1, .ref 39, .int a1, .ref 75] (xo_push (.int 2)) rfl rfl ?_
    refine zn_zt [.ref 39, .int a1, .int 2] [.int a1, .ref 75] (c := []) rfl rfl rfl rfl rfl (Zt.imp (zp_39 hd (Or.inr rfl)) (fun vq sq hq => ?_))
    obtain ⟨rfl, hq⟩ := hq
    rw [hq]
    change Zn _ _ _ _ _ _ _ _ _ _ _ [.int (zg s 63 (a1 * 6 + 2)), .int a1, .ref 75] _ _
    refine zn_c [.int (-1), .int (zg s 63 (a1 * 6 + 2)), .int a1, .ref 75] (xo_push (.int (-1))) rfl rfl ?_
    refine zn_zt [.ref 75, .int a1, .int (zg s 63 (a1 * 6 + 2)), .int (-1)] [] rfl rfl rfl rfl rfl (Zt.imp h (fun v2 s3 h => ?_))
    obtain ⟨rfl, h⟩ := h
    change Zn _ _ _ _ _ _ _ _ _ _ _ [] _ _
    exact m_130_31_39 hd  h
  · replace h := h.2 (fun q => hcn ((i_le (x := 0) (y := a1) (show (0 : Int32).toInt = 0 by decide) rfl).mpr q))
    refine zn_c [.int (-1)] (xo_push (.int (-1))) rfl rfl ?_
    refine zn_ld rfl rfl rfl ?_
    replace h := h _ (i_sub (x := (-1)) (y := a1) (show ((-1) : Int32).toInt = (-1) by decide) rfl)
    refine zn_c [.int ((-1) - a1)] xo_isub rfl rfl ?_
    refine zn_st [.ref 83, .int a1, .int ((-1) - a1), .null, .null] rfl rfl rfl ?_
    refine zn_ld rfl rfl rfl ?_
    refine zn_get (v := .ref 75) rfl (zv_R (a := 83) rfl rfl) ?_
    refine zn_ld rfl rfl rfl ?_
    refine zn_get (v := .ref 39) rfl (zv_C (a := 83) (n := 0) rfl rfl rfl) ?_
    refine zn_ld rfl rfl rfl ?_
    refine zn_c [.int 2, .int ((-1) - a1), .ref 39, .ref 75] (xo_push (.int 2)) rfl rfl ?_
    refine zn_zt [.ref 39, .int ((-1) - a1), .int 2] [.ref 75] (c := []) rfl rfl rfl rfl rfl (Zt.imp (zp_40 hd (Or.inr rfl)) (fun vq sq hq => ?_))
    obtain ⟨rfl, hq⟩ := hq
    rw [hq]
    change Zn _ _ _ _ _ _ _ _ _ _ _ [.int (zg s 65 (((-1) - a1) * 10 + 2)), .ref 75] _ _
    refine zn_ld rfl rfl rfl ?_
    refine zn_get (v := .ref 39) rfl (zv_C (a := 83) (n := 0) rfl rfl rfl) ?_
    refine zn_ld rfl rfl rfl ?_
    refine zn_c [.int 3, .int ((-1) - a1), .ref 39, .int (zg s 65 (((-1) - a1) * 10 + 2)), .ref 75] (xo_push (.int 3)) rfl rfl ?_
    refine zn_zt [.ref 39, .int ((-1) - a1), .int 3] [.int (zg s 65 (((-1) - a1) * 10 + 2)), .ref 75] (c := []) rfl rfl rfl rfl rfl (Zt.imp (zp_40 hd (Or.inr rfl)) (fun vq sq hq => ?_))
    obtain ⟨rfl, hq⟩ := hq
    rw [hq]
    change Zn _ _ _ _ _ _ _ _ _ _ _ [.int (zg s 65 (((-1) - a1) * 10 + 3)), .int (zg s 65 (((-1) - a1) * 10 + 2)), .ref 75] _ _
    refine zn_c [.int (-1), .int (zg s 65 (((-1) - a1) * 10 + 3)), .int (zg s 65 (((-1) - a1) * 10 + 2)), .ref 75] (xo_push (.int (-1))) rfl rfl ?_
    refine zn_zt [.ref 75, .int (zg s 65 (((-1) - a1) * 10 + 2)), .int (zg s 65 (((-1) - a1) * 10 + 3)), .int (-1)] [] rfl rfl rfl rfl rfl (Zt.imp h (fun v7 s8 h => ?_))
    obtain ⟨rfl, h⟩ := h
    change Zn _ _ _ _ _ _ _ _ _ _ _ [] _ _
    refine zn_go rfl ?_
    refine zn_fg 2 ?_
    exact m_130_31_39 hd  h
theorem zq_130_39 {d : Nat} {a1 : Int32} {s : zS} {Q : Option Value → zS → Prop} (h : v_130_0 (fun j => Zt (d + 8) (wd 39 j) j) 39 a1 s Q) : Zt (d + 9) ([(83, 1, 39), (83, 2, 40), (75, 0, 39), (75, 1, 57), (75, 2, 61)] : zW) 130 [.ref 83, .int a1] s Q := zt_of (E := xE_130) (L := xL_10) (ml := 3) (ret := none) rfl rfl rfl (m_130_0_39 rfl h)
theorem zc_130 {d P : Nat} (hP : P = 3 ∨ P = 39) {a1 : Int32} {s : zS} {Q : Option Value → zS → Prop} (h : v_130_0 (fun j => Zt (d + 8) (wd P j) j) P a1 s Q) : Zt (d + 9) (wd P 130) 130 [.ref 83, .int a1] s Q := by
  rcases hP with rfl | rfl
  · exact zq_130_3 h
  · exact zq_130_39 h
/-! FeatherBench$Told.tellSlot -/
def v_131_56 (T : Nat → List Value → zS → (Option Value → zS → Prop) → Prop) (P : Nat)  (a1 : Int32) (a2 : Int32) (a3 : Int32) (s : zS) (Q : Option Value → zS → Prop) : Prop :=
  Q none s
def v_131_0 (T : Nat → List Value → zS → (Option Value → zS → Prop) → Prop) (P : Nat)  (a1 : Int32) (s : zS) (Q : Option Value → zS → Prop) : Prop :=
  (0 ≤ (zg s (P + 30) (a1 * 5 + 2)).toInt → ∀ s3, s3 = zf s 75 6 (zg s (P + 30) (a1 * 5 + 4)) → ∀ x4 : Int32, (-2147483648 ≤ a1.toInt * 5 ∧ a1.toInt * 5 ≤ 2147483647 → x4.toInt = a1.toInt * 5) → ∀ x5 : Int32, (-2147483648 ≤ x4.toInt + 3 ∧ x4.toInt + 3 ≤ 2147483647 → x5.toInt = x4.toInt + 3) → (-1 ≤ (s3.1 P 10).toInt ∧ (s3.1 P 10).toInt ≤ 2000000000) ∧ (∀ s6, s6 = zt s3 (P + 30) x5 (s3.1 P 10) → T 132 [.ref 83, .int (zg s (P + 30) (a1 * 5 + 2)), .int 1] s6 (fun v7 s8 => ∃ x9, v7 = some (.int x9) ∧ ((¬ ((zg s8 (P + 30) (a1 * 5 + 1)).toInt = 0) → v_131_56 T P  a1 (zg s (P + 30) (a1 * 5 + 2)) (s3.1 P 10) s8 Q) ∧ ((zg s8 (P + 30) (a1 * 5 + 1)).toInt = 0 → (¬ ((zInf s8 P (zg s8 (P + 18) (s3.1 P 10))).toInt = 0) → v_131_56 T P  a1 (zg s (P + 30) (a1 * 5 + 2)) (s3.1 P 10) s8 Q) ∧ ((zInf s8 P (zg s8 (P + 18) (s3.1 P 10))).toInt = 0 → T 38 [.ref P, .int 6, .int (zg s (P + 30) (a1 * 5 + 2))] s8 (fun v11 s12 => v11 = none ∧ (v_131_56 T P  a1 (zg s (P + 30) (a1 * 5 + 2)) (s3.1 P 10) s12 Q)))))))) ∧ (¬ (0 ≤ (zg s (P + 30) (a1 * 5 + 2)).toInt) → Q none s)
set_option maxRecDepth 20000 in
theorem m_131_56_3 {d d0 : Nat} (hd : d = d0 + 8)  {a1 : Int32} {a2 : Int32} {a3 : Int32} {s : zS} {Q : Option Value → zS → Prop}  (h : v_131_56 (fun j => Zt d (wd 3 j) j) 3  a1 a2 a3 s Q) : Zn d [] [(3, 99), (3, 98)] ([(83, 1, 3), (83, 2, 4), (75, 0, 3), (75, 1, 21), (75, 2, 25)] : zW) ([(83, 1, 3), (83, 2, 4), (75, 0, 3), (75, 1, 21), (75, 2, 25)] : zW) xL_10 4 (none) xE_131 (xE_131.drop 56) [.ref 83, .int a1, .int a2, .int a3, .null, .null] [] s Q := by
  unfold v_131_56 at h
  exact zn_ret0 rfl h
set_option maxRecDepth 20000 in
theorem m_131_0_3 {d d0 : Nat} (hd : d = d0 + 8)  {a1 : Int32} {s : zS} {Q : Option Value → zS → Prop}  (h : v_131_0 (fun j => Zt d (wd 3 j) j) 3  a1 s Q) : Zn d [] [(3, 99), (3, 98)] ([(83, 1, 3), (83, 2, 4), (75, 0, 3), (75, 1, 21), (75, 2, 25)] : zW) ([(83, 1, 3), (83, 2, 4), (75, 0, 3), (75, 1, 21), (75, 2, 25)] : zW) xL_10 4 (none) xE_131 (xE_131.drop 0) [.ref 83, .int a1, .null, .null, .null, .null] [] s Q := by
  unfold v_131_0 at h
  refine zn_ld rfl rfl rfl ?_
  refine zn_get (v := .ref 3) rfl (zv_C (a := 83) (n := 0) rfl rfl rfl) ?_
  refine zn_ld rfl rfl rfl ?_
  refine zn_c [.int 2, .int a1, .ref 3] (xo_push (.int 2)) rfl rfl ?_
  refine zn_zt [.ref 3, .int a1, .int 2] [] (c := []) rfl rfl rfl rfl rfl (Zt.imp (zp_42 hd (Or.inl rfl)) (fun vq sq hq => ?_))
  obtain ⟨rfl, hq⟩ := hq
  rw [hq]
  change Zn _ _ _ _ _ _ _ _ _ _ _ [.int (zg s 33 (a1 * 5 + 2))] _ _
  refine zn_st [.ref 83, .int a1, .int (zg s 33 (a1 * 5 + 2)), .null, .null, .null] rfl rfl rfl ?_
  refine zn_ld rfl rfl rfl ?_
  refine zn_brP rfl rfl ⟨fun hcn => ?_, fun hcn => ?_⟩
  · replace h := h.1 ((i_le (x := 0) (y := zg s 33 (a1 * 5 + 2)) (show (0 : Int32).toInt = 0 by decide) rfl).mp hcn)
    refine zn_ld rfl rfl rfl ?_
    refine zn_get (v := .ref 75) rfl (zv_R (a := 83) rfl rfl) ?_
    refine zn_ld rfl rfl rfl ?_
    refine zn_get (v := .ref 3) rfl (zv_C (a := 83) (n := 0) rfl rfl rfl) ?_
    refine zn_ld rfl rfl rfl ?_
    refine zn_c [.int 4, .int a1, .ref 3, .ref 75] (xo_push (.int 4)) rfl rfl ?_
    refine zn_zt [.ref 3, .int a1, .int 4] [.ref 75] (c := []) rfl rfl rfl rfl rfl (Zt.imp (zp_42 hd (Or.inl rfl)) (fun vq sq hq => ?_))
    obtain ⟨rfl, hq⟩ := hq
    rw [hq]
    change Zn _ _ _ _ _ _ _ _ _ _ _ [.int (zg s 33 (a1 * 5 + 4)), .ref 75] _ _
    refine zn_putI (a := 75) rfl rfl rfl rfl ⟨Int32.le_toInt _, Int.le_of_lt_add_one (Int32.toInt_lt _)⟩ rfl rfl rfl ?_
    replace h := h _ rfl
    refine zn_ld rfl rfl rfl ?_
    refine zn_get (v := .ref 3) rfl (zv_C (a := 83) (n := 0) rfl rfl rfl) ?_
    refine zn_get (v := .int ((zf s 75 6 (zg s 33 (a1 * 5 + 4))).1 3 10)) rfl (zv_I (a := 3) rfl rfl) ?_
    refine zn_st [.ref 83, .int a1, .int (zg s 33 (a1 * 5 + 2)), .int ((zf s 75 6 (zg s 33 (a1 * 5 + 4))).1 3 10), .null, .null] rfl rfl rfl ?_
    refine zn_ld rfl rfl rfl ?_
    refine zn_get (v := .ref 3) rfl (zv_C (a := 83) (n := 0) rfl rfl rfl) ?_
    refine zn_get (v := .ref 33) rfl (zv_R (a := 3) rfl rfl) ?_
    refine zn_ld rfl rfl rfl ?_
    refine zn_c [.int 5, .int a1, .ref 33] (xo_push (.int 5)) rfl rfl ?_
    replace h := h _ (i_mul (x := a1) (y := 5) rfl (show (5 : Int32).toInt = 5 by decide))
    refine zn_c [.int (a1 * 5), .ref 33] xo_imul rfl rfl ?_
    refine zn_c [.int 3, .int (a1 * 5), .ref 33] (xo_push (.int 3)) rfl rfl ?_
    replace h := h _ (i_add (x := (a1 * 5)) (y := 3) rfl (show (3 : Int32).toInt = 3 by decide))
    refine zn_c [.int ((a1 * 5) + 3), .ref 33] xo_iadd rfl rfl ?_
    refine zn_ld rfl rfl rfl ?_
    refine zn_set ((a1 * 5) + 3) ((zf s 75 6 (zg s 33 (a1 * 5 + 4))).1 3 10) [] (a := 33) hd rfl rfl rfl rfl h.1 rfl rfl ?_
    replace h := h.2
    replace h := h _ rfl
    refine zn_ld rfl rfl rfl ?_
    refine zn_ld rfl rfl rfl ?_
    refine zn_c [.int 1, .int (zg s 33 (a1 * 5 + 2)), .ref 83] (xo_push (.int 1)) rfl rfl ?_
    refine zn_zt [.ref 83, .int (zg s 33 (a1 * 5 + 2)), .int 1] [] rfl rfl rfl rfl rfl (Zt.imp h (fun v7 s8 h => ?_))
    obtain ⟨x9, rfl, h⟩ := h
    change Zn _ _ _ _ _ _ _ _ _ _ _ [.int x9] _ _
    refine zn_c [] xo_pop rfl rfl ?_
    refine zn_ld rfl rfl rfl ?_
    refine zn_get (v := .ref 3) rfl (zv_C (a := 83) (n := 0) rfl rfl rfl) ?_
    refine zn_ld rfl rfl rfl ?_
    refine zn_c [.int 1, .int a1, .ref 3] (xo_push (.int 1)) rfl rfl ?_
    refine zn_zt [.ref 3, .int a1, .int 1] [] (c := []) rfl rfl rfl rfl rfl (Zt.imp (zp_42 hd (Or.inl rfl)) (fun vq sq hq => ?_))
    obtain ⟨rfl, hq⟩ := hq
    rw [hq]
    change Zn _ _ _ _ _ _ _ _ _ _ _ [.int (zg s8 33 (a1 * 5 + 1))] _ _
    refine zn_brN rfl rfl ⟨fun hcn => ?_, fun hcn => ?_⟩
    · replace h := h.1 (fun q => hcn ((i_eq (x := zg s8 33 (a1 * 5 + 1)) (y := 0) rfl (show (0 : Int32).toInt = 0 by decide)).mpr q))
      exact m_131_56_3 hd  h
    · replace h := h.2 ((i_eq (x := zg s8 33 (a1 * 5 + 1)) (y := 0) rfl (show (0 : Int32).toInt = 0 by decide)).mp hcn)
      refine zn_ld rfl rfl rfl ?_
      refine zn_get (v := .ref 3) rfl (zv_C (a := 83) (n := 0) rfl rfl rfl) ?_
      refine zn_ld rfl rfl rfl ?_
      refine zn_get (v := .ref 3) rfl (zv_C (a := 83) (n := 0) rfl rfl rfl) ?_
      refine zn_get (v := .ref 21) rfl (zv_R (a := 3) rfl rfl) ?_
      refine zn_ld rfl rfl rfl ?_
      refine zn_row ((zf s 75 6 (zg s 33 (a1 * 5 + 4))).1 3 10) [.ref 3] (a := 21) hd rfl rfl rfl rfl ?_
      change Zn _ _ _ _ _ _ _ _ _ _ _ [.int (zg s8 21 ((zf s 75 6 (zg s 33 (a1 * 5 + 4))).1 3 10)), .ref 3] _ _
      refine zn_zt [.ref 3, .int (zg s8 21 ((zf s 75 6 (zg s 33 (a1 * 5 + 4))).1 3 10))] [] (c := []) rfl rfl rfl rfl rfl (Zt.imp (zp_50 hd (Or.inl rfl)) (fun vq sq hq => ?_))
      obtain ⟨rfl, hq⟩ := hq
      rw [hq]
      change Zn _ _ _ _ _ _ _ _ _ _ _ [.int (zInf s8 3 (zg s8 21 ((zf s 75 6 (zg s 33 (a1 * 5 + 4))).1 3 10)))] _ _
      refine zn_brN rfl rfl ⟨fun hcn => ?_, fun hcn => ?_⟩
      · replace h := h.1 (fun q => hcn ((i_eq (x := zInf s8 3 (zg s8 21 ((zf s 75 6 (zg s 33 (a1 * 5 + 4))).1 3 10))) (y := 0) rfl (show (0 : Int32).toInt = 0 by decide)).mpr q))
        exact m_131_56_3 hd  h
      · replace h := h.2 ((i_eq (x := zInf s8 3 (zg s8 21 ((zf s 75 6 (zg s 33 (a1 * 5 + 4))).1 3 10))) (y := 0) rfl (show (0 : Int32).toInt = 0 by decide)).mp hcn)
        refine zn_ld rfl rfl rfl ?_
        refine zn_get (v := .ref 3) rfl (zv_C (a := 83) (n := 0) rfl rfl rfl) ?_
        refine zn_c [.int 6, .ref 3] (xo_push (.int 6)) rfl rfl ?_
        refine zn_ld rfl rfl rfl ?_
        refine zn_zt [.ref 3, .int 6, .int (zg s 33 (a1 * 5 + 2))] [] rfl rfl rfl rfl rfl (Zt.imp h (fun v11 s12 h => ?_))
        obtain ⟨rfl, h⟩ := h
        change Zn _ _ _ _ _ _ _ _ _ _ _ [] _ _
        exact m_131_56_3 hd  h
  · replace h := h.2 (fun q => hcn ((i_le (x := 0) (y := zg s 33 (a1 * 5 + 2)) (show (0 : Int32).toInt = 0 by decide) rfl).mpr q))
    exact zn_ret0 rfl h
theorem zq_131_3 {d : Nat} {a1 : Int32} {s : zS} {Q : Option Value → zS → Prop} (h : v_131_0 (fun j => Zt (d + 8) (wd 3 j) j) 3 a1 s Q) : Zt (d + 9) ([(83, 1, 3), (83, 2, 4), (75, 0, 3), (75, 1, 21), (75, 2, 25)] : zW) 131 [.ref 83, .int a1] s Q := zt_of (E := xE_131) (L := xL_10) (ml := 4) (ret := none) rfl rfl rfl (m_131_0_3 rfl h)
set_option maxRecDepth 20000 in
theorem m_131_56_39 {d d0 : Nat} (hd : d = d0 + 8)  {a1 : Int32} {a2 : Int32} {a3 : Int32} {s : zS} {Q : Option Value → zS → Prop}  (h : v_131_56 (fun j => Zt d (wd 39 j) j) 39  a1 a2 a3 s Q) : Zn d [] [(39, 99), (39, 98)] ([(83, 1, 39), (83, 2, 40), (75, 0, 39), (75, 1, 57), (75, 2, 61)] : zW) ([(83, 1, 39), (83, 2, 40), (75, 0, 39), (75, 1, 57), (75, 2, 61)] : zW) xL_10 4 (none) xE_131 (xE_131.drop 56) [.ref 83, .int a1, .int a2, .int a3, .null, .null] [] s Q := by
  unfold v_131_56 at h
  exact zn_ret0 rfl h
set_option maxRecDepth 20000 in
theorem m_131_0_39 {d d0 : Nat} (hd : d = d0 + 8)  {a1 : Int32} {s : zS} {Q : Option Value → zS → Prop}  (h : v_131_0 (fun j => Zt d (wd 39 j) j) 39  a1 s Q) : Zn d [] [(39, 99), (39, 98)] ([(83, 1, 39), (83, 2, 40), (75, 0, 39), (75, 1, 57), (75, 2, 61)] : zW) ([(83, 1, 39), (83, 2, 40), (75, 0, 39), (75, 1, 57), (75, 2, 61)] : zW) xL_10 4 (none) xE_131 (xE_131.drop 0) [.ref 83, .int a1, .null, .null, .null, .null] [] s Q := by
  unfold v_131_0 at h
  refine zn_ld rfl rfl rfl ?_
  refine zn_get (v := .ref 39) rfl (zv_C (a := 83) (n := 0) rfl rfl rfl) ?_
  refine zn_ld rfl rfl rfl ?_
  refine zn_c [.int 2, .int a1, .ref 39] (xo_push (.int 2)) rfl rfl ?_
  refine zn_zt [.ref 39, .int a1, .int 2] [] (c := []) rfl rfl rfl rfl rfl (Zt.imp (zp_42 hd (Or.inr rfl)) (fun vq sq hq => ?_))
  obtain ⟨rfl, hq⟩ := hq
  rw [hq]
  change Zn _ _ _ _ _ _ _ _ _ _ _ [.int (zg s 69 (a1 * 5 + 2))] _ _
  refine zn_st [.ref 83, .int a1, .int (zg s 69 (a1 * 5 + 2)), .null, .null, .null] rfl rfl rfl ?_
  refine zn_ld rfl rfl rfl ?_
  refine zn_brP rfl rfl ⟨fun hcn => ?_, fun hcn => ?_⟩
  · replace h := h.1 ((i_le (x := 0) (y := zg s 69 (a1 * 5 + 2)) (show (0 : Int32).toInt = 0 by decide) rfl).mp hcn)
    refine zn_ld rfl rfl rfl ?_
    refine zn_get (v := .ref 75) rfl (zv_R (a := 83) rfl rfl) ?_
    refine zn_ld rfl rfl rfl ?_
    refine zn_get (v := .ref 39) rfl (zv_C (a := 83) (n := 0) rfl rfl rfl) ?_
    refine zn_ld rfl rfl rfl ?_
    refine zn_c [.int 4, .int a1, .ref 39, .ref 75] (xo_push (.int 4)) rfl rfl ?_
    refine zn_zt [.ref 39, .int a1, .int 4] [.ref 75] (c := []) rfl rfl rfl rfl rfl (Zt.imp (zp_42 hd (Or.inr rfl)) (fun vq sq hq => ?_))
    obtain ⟨rfl, hq⟩ := hq
    rw [hq]
    change Zn _ _ _ _ _ _ _ _ _ _ _ [.int (zg s 69 (a1 * 5 + 4)), .ref 75] _ _
    refine zn_putI (a := 75) rfl rfl rfl rfl ⟨Int32.le_toInt _, Int.le_of_lt_add_one (Int32.toInt_lt _)⟩ rfl rfl rfl ?_
    replace h := h _ rfl
    refine zn_ld rfl rfl rfl ?_
    refine zn_get (v := .ref 39) rfl (zv_C (a := 83) (n := 0) rfl rfl rfl) ?_
    refine zn_get (v := .int ((zf s 75 6 (zg s 69 (a1 * 5 + 4))).1 39 10)) rfl (zv_I (a := 39) rfl rfl) ?_
    refine zn_st [.ref 83, .int a1, .int (zg s 69 (a1 * 5 + 2)), .int ((zf s 75 6 (zg s 69 (a1 * 5 + 4))).1 39 10), .null, .null] rfl rfl rfl ?_
    refine zn_ld rfl rfl rfl ?_
    refine zn_get (v := .ref 39) rfl (zv_C (a := 83) (n := 0) rfl rfl rfl) ?_
    refine zn_get (v := .ref 69) rfl (zv_R (a := 39) rfl rfl) ?_
    refine zn_ld rfl rfl rfl ?_
    refine zn_c [.int 5, .int a1, .ref 69] (xo_push (.int 5)) rfl rfl ?_
    replace h := h _ (i_mul (x := a1) (y := 5) rfl (show (5 : Int32).toInt = 5 by decide))
    refine zn_c [.int (a1 * 5), .ref 69] xo_imul rfl rfl ?_
    refine zn_c [.int 3, .int (a1 * 5), .ref 69] (xo_push (.int 3)) rfl rfl ?_
    replace h := h _ (i_add (x := (a1 * 5)) (y := 3) rfl (show (3 : Int32).toInt = 3 by decide))
    refine zn_c [.int ((a1 * 5) + 3), .ref 69] xo_iadd rfl rfl ?_
    refine zn_ld rfl rfl rfl ?_
    refine zn_set ((a1 * 5) + 3) ((zf s 75 6 (zg s 69 (a1 * 5 + 4))).1 39 10) [] (a := 69) hd rfl rfl rfl rfl h.1 rfl rfl ?_
    replace h := h.2
    replace h := h _ rfl
    refine zn_ld rfl rfl rfl ?_
    refine zn_ld rfl rfl rfl ?_
    refine zn_c [.int 1, .int (zg s 69 (a1 * 5 + 2)), .ref 83] (xo_push (.int 1)) rfl rfl ?_
    refine zn_zt [.ref 83, .int (zg s 69 (a1 * 5 + 2)), .int 1] [] rfl rfl rfl rfl rfl (Zt.imp h (fun v7 s8 h => ?_))
    obtain ⟨x9, rfl, h⟩ := h
    change Zn _ _ _ _ _ _ _ _ _ _ _ [.int x9] _ _
    refine zn_c [] xo_pop rfl rfl ?_
    refine zn_ld rfl rfl rfl ?_
    refine zn_get (v := .ref 39) rfl (zv_C (a := 83) (n := 0) rfl rfl rfl) ?_
    refine zn_ld rfl rfl rfl ?_
    refine zn_c [.int 1, .int a1, .ref 39] (xo_push (.int 1)) rfl rfl ?_
    refine zn_zt [.ref 39, .int a1, .int 1] [] (c := []) rfl rfl rfl rfl rfl (Zt.imp (zp_42 hd (Or.inr rfl)) (fun vq sq hq => ?_))
    obtain ⟨rfl, hq⟩ := hq
    rw [hq]
    change Zn _ _ _ _ _ _ _ _ _ _ _ [.int (zg s8 69 (a1 * 5 + 1))] _ _
    refine zn_brN rfl rfl ⟨fun hcn => ?_, fun hcn => ?_⟩
    · replace h := h.1 (fun q => hcn ((i_eq (x := zg s8 69 (a1 * 5 + 1)) (y := 0) rfl (show (0 : Int32).toInt = 0 by decide)).mpr q))
      exact m_131_56_39 hd  h
    · replace h := h.2 ((i_eq (x := zg s8 69 (a1 * 5 + 1)) (y := 0) rfl (show (0 : Int32).toInt = 0 by decide)).mp hcn)
      refine zn_ld rfl rfl rfl ?_
      refine zn_get (v := .ref 39) rfl (zv_C (a := 83) (n := 0) rfl rfl rfl) ?_
      refine zn_ld rfl rfl rfl ?_
      refine zn_get (v := .ref 39) rfl (zv_C (a := 83) (n := 0) rfl rfl rfl) ?_
      refine zn_get (v := .ref 57) rfl (zv_R (a := 39) rfl rfl) ?_
      refine zn_ld rfl rfl rfl ?_
      refine zn_row ((zf s 75 6 (zg s 69 (a1 * 5 + 4))).1 39 10) [.ref 39] (a := 57) hd rfl rfl rfl rfl ?_
      change Zn _ _ _ _ _ _ _ _ _ _ _ [.int (zg s8 57 ((zf s 75 6 (zg s 69 (a1 * 5 + 4))).1 39 10)), .ref 39] _ _
      refine zn_zt [.ref 39, .int (zg s8 57 ((zf s 75 6 (zg s 69 (a1 * 5 + 4))).1 39 10))] [] (c := []) rfl rfl rfl rfl rfl (Zt.imp (zp_50 hd (Or.inr rfl)) (fun vq sq hq => ?_))
      obtain ⟨rfl, hq⟩ := hq
      rw [hq]
      change Zn _ _ _ _ _ _ _ _ _ _ _ [.int (zInf s8 39 (zg s8 57 ((zf s 75 6 (zg s 69 (a1 * 5 + 4))).1 39 10)))] _ _
      refine zn_brN rfl rfl ⟨fun hcn => ?_, fun hcn => ?_⟩
      · replace h := h.1 (fun q => hcn ((i_eq (x := zInf s8 39 (zg s8 57 ((zf s 75 6 (zg s 69 (a1 * 5 + 4))).1 39 10))) (y := 0) rfl (show (0 : Int32).toInt = 0 by decide)).mpr q))
        exact m_131_56_39 hd  h
      · replace h := h.2 ((i_eq (x := zInf s8 39 (zg s8 57 ((zf s 75 6 (zg s 69 (a1 * 5 + 4))).1 39 10))) (y := 0) rfl (show (0 : Int32).toInt = 0 by decide)).mp hcn)
        refine zn_ld rfl rfl rfl ?_
        refine zn_get (v := .ref 39) rfl (zv_C (a := 83) (n := 0) rfl rfl rfl) ?_
        refine zn_c [.int 6, .ref 39] (xo_push (.int 6)) rfl rfl ?_
        refine zn_ld rfl rfl rfl ?_
        refine zn_zt [.ref 39, .int 6, .int (zg s 69 (a1 * 5 + 2))] [] rfl rfl rfl rfl rfl (Zt.imp h (fun v11 s12 h => ?_))
        obtain ⟨rfl, h⟩ := h
        change Zn _ _ _ _ _ _ _ _ _ _ _ [] _ _
        exact m_131_56_39 hd  h
  · replace h := h.2 (fun q => hcn ((i_le (x := 0) (y := zg s 69 (a1 * 5 + 2)) (show (0 : Int32).toInt = 0 by decide) rfl).mpr q))
    exact zn_ret0 rfl h
theorem zq_131_39 {d : Nat} {a1 : Int32} {s : zS} {Q : Option Value → zS → Prop} (h : v_131_0 (fun j => Zt (d + 8) (wd 39 j) j) 39 a1 s Q) : Zt (d + 9) ([(83, 1, 39), (83, 2, 40), (75, 0, 39), (75, 1, 57), (75, 2, 61)] : zW) 131 [.ref 83, .int a1] s Q := zt_of (E := xE_131) (L := xL_10) (ml := 4) (ret := none) rfl rfl rfl (m_131_0_39 rfl h)
theorem zc_131 {d P : Nat} (hP : P = 3 ∨ P = 39) {a1 : Int32} {s : zS} {Q : Option Value → zS → Prop} (h : v_131_0 (fun j => Zt (d + 8) (wd P j) j) P a1 s Q) : Zt (d + 9) (wd P 131) 131 [.ref 83, .int a1] s Q := by
  rcases hP with rfl | rfl
  · exact zq_131_3 h
  · exact zq_131_39 h
/-! FeatherBench$Told.tell -/
def v_132_119 (T : Nat → List Value → zS → (Option Value → zS → Prop) → Prop) (P : Nat)  (a1 : Int32) (a2 : Int32) (a3 : Int32) (a4 : Int32) (a5 : Int32) (a6 : Int32) (a7 : Int32) (a8 : Int32) (t0 : Int32) (s : zS) (Q : Option Value → zS → Prop) : Prop :=
  Q (some (.int t0)) s
def v_132_112 (T : Nat → List Value → zS → (Option Value → zS → Prop) → Prop) (P : Nat)  (a1 : Int32) (a2 : Int32) (a3 : Int32) (a4 : Int32) (a5 : Int32) (a6 : Int32) (a7 : Int32) (a8 : Int32) (s : zS) (Q : Option Value → zS → Prop) : Prop :=
  (a4.toInt = 0 → v_132_119 T P  a1 a2 a3 a4 a5 a6 a7 a8 a7 s Q) ∧ (¬ (a4.toInt = 0) → ∀ x1 : Int32, (-2147483648 ≤ a7.toInt + 1 ∧ a7.toInt + 1 ≤ 2147483647 → x1.toInt = a7.toInt + 1) → v_132_119 T P  a1 a2 a3 a4 a5 a6 a7 a8 x1 s Q)
def v_132_100 (T : Nat → List Value → zS → (Option Value → zS → Prop) → Prop) (P : Nat)  (a1 : Int32) (a2 : Int32) (a3 : Int32) (a4 : Int32) (a5 : Int32) (a6 : Int32) (a7 : Int32) (a8 : Int32) (s : zS) (Q : Option Value → zS → Prop) : Prop :=
  ∀ x1 : Int32, (-2147483648 ≤ (s.1 P 10).toInt - a6.toInt ∧ (s.1 P 10).toInt - a6.toInt ≤ 2147483647 → x1.toInt = (s.1 P 10).toInt - a6.toInt) → (x1.toInt ≤ 60 → v_132_112 T P  a1 a2 a3 a4 a5 a6 a7 a8 s Q) ∧ (¬ (x1.toInt ≤ 60) → T 38 [.ref P, .int 9, .int a1] s (fun v2 s3 => v2 = none ∧ (v_132_112 T P  a1 a2 a3 a4 a5 a6 a7 a8 s3 Q)))
def v_132_79 (T : Nat → List Value → zS → (Option Value → zS → Prop) → Prop) (P : Nat) (R79 : Int32 → Int32 → Int32 → Int32 → Int32 → Int32 → Int32 → Int32 → zS → Prop) (a1 : Int32) (a2 : Int32) (a3 : Int32) (a4 : Int32) (a5 : Int32) (a6 : Int32) (a7 : Int32) (a8 : Int32) (s : zS) (Q : Option Value → zS → Prop) : Prop :=
  (a5.toInt ≤ a8.toInt → v_132_100 T P  a1 a2 a3 a4 a5 a6 a7 a8 s Q) ∧ (¬ (a5.toInt ≤ a8.toInt) → (¬ ((s.1 P 14).toInt = 0) → v_132_100 T P  a1 a2 a3 a4 a5 a6 a7 a8 s Q) ∧ ((s.1 P 14).toInt = 0 → (10 < a2.toInt → v_132_100 T P  a1 a2 a3 a4 a5 a6 a7 a8 s Q) ∧ (¬ (10 < a2.toInt) → ∀ x1 : Int32, (-2147483648 ≤ a7.toInt + 1 ∧ a7.toInt + 1 ≤ 2147483647 → x1.toInt = a7.toInt + 1) → ∀ x2 : Int32, (-2147483648 ≤ a2.toInt + 1 ∧ a2.toInt + 1 ≤ 2147483647 → x2.toInt = a2.toInt + 1) → T 132 [.ref 83, .int x1, .int x2] s (fun v3 s4 => ∃ x5, v3 = some (.int x5) ∧ (∀ x6 : Int32, (-2147483648 ≤ a8.toInt + 1 ∧ a8.toInt + 1 ≤ 2147483647 → x6.toInt = a8.toInt + 1) → R79 a1 a2 a3 a4 a5 a6 x5 x6 s4)))))
def vl_132_79 (T : Nat → List Value → zS → (Option Value → zS → Prop) → Prop) (P : Nat)  (a1 : Int32) (a2 : Int32) (a3 : Int32) (a4 : Int32) (a5 : Int32) (a6 : Int32) (a7 : Int32) (a8 : Int32) (s : zS) (Q : Option Value → zS → Prop) : Prop :=
  ∃ (I : Int32 → Int32 → Int32 → Int32 → Int32 → Int32 → Int32 → Int32 → zS → Prop) (μ : Int32 → Int32 → Int32 → Int32 → Int32 → Int32 → Int32 → Int32 → zS → Nat), I a1 a2 a3 a4 a5 a6 a7 a8 s ∧ ∀ (a1 : Int32) (a2 : Int32) (a3 : Int32) (a4 : Int32) (a5 : Int32) (a6 : Int32) (a7 : Int32) (a8 : Int32) (s : zS), I a1 a2 a3 a4 a5 a6 a7 a8 s → v_132_79 T P (fun a1' a2' a3' a4' a5' a6' a7' a8' s' => I a1' a2' a3' a4' a5' a6' a7' a8' s' ∧ μ a1' a2' a3' a4' a5' a6' a7' a8' s' < μ a1 a2 a3 a4 a5 a6 a7 a8 s) a1 a2 a3 a4 a5 a6 a7 a8 s Q
def v_132_49 (T : Nat → List Value → zS → (Option Value → zS → Prop) → Prop) (P : Nat)  (a1 : Int32) (a2 : Int32) (a3 : Int32) (a4 : Int32) (a5 : Int32) (s : zS) (Q : Option Value → zS → Prop) : Prop :=
  ((s.1 P 10).toInt < 0 ∨ 18 ≤ (s.1 P 10).toInt) ∧ (∀ s1, s1 = zt s (P + 18) (s.1 P 10) a3 → ∀ x2 : Int32, (-2147483648 ≤ (s.1 P 10).toInt - 18738 ∧ (s.1 P 10).toInt - 18738 ≤ 2147483647 → x2.toInt = (s.1 P 10).toInt - 18738) → ∀ s3, s3 = zt s1 (P + 20) x2 a1 → ∀ x4 : Int32, (-2147483648 ≤ (s.1 P 10).toInt + 1 ∧ (s.1 P 10).toInt + 1 ≤ 2147483647 → x4.toInt = (s.1 P 10).toInt + 1) → (18 ≤ x4.toInt ∧ x4.toInt ≤ 2000000000) ∧ (∀ s5, s5 = zf s3 P 10 x4 → ∀ x6 : Int32, (-2147483648 ≤ a1.toInt + 1 ∧ a1.toInt + 1 ≤ 2147483647 → x6.toInt = a1.toInt + 1) → vl_132_79 T P  a1 a2 a3 a4 a5 (s.1 P 10) x6 0 s5 Q))
def v_132_28 (T : Nat → List Value → zS → (Option Value → zS → Prop) → Prop) (P : Nat)  (a1 : Int32) (a2 : Int32) (a3 : Int32) (a4 : Int32) (t0 : Int32) (s : zS) (Q : Option Value → zS → Prop) : Prop :=
  (0 ≤ a3.toInt → (t0.toInt = (zg s (P + 22) a3).toInt → v_132_49 T P  a1 a2 a3 a4 t0 s Q) ∧ (¬ (t0.toInt = (zg s (P + 22) a3).toInt) → T 38 [.ref P, .int 4, .int a1] s (fun v1 s2 => v1 = none ∧ (v_132_49 T P  a1 a2 a3 a4 t0 s2 Q)))) ∧ (¬ (0 ≤ a3.toInt) → T 38 [.ref P, .int 2, .int a1] s (fun v3 s4 => v3 = none ∧ (v_132_49 T P  a1 a2 a3 a4 t0 s4 Q)))
def v_132_16 (T : Nat → List Value → zS → (Option Value → zS → Prop) → Prop) (P : Nat)  (a1 : Int32) (a2 : Int32) (a3 : Int32) (t0 : Int32) (s : zS) (Q : Option Value → zS → Prop) : Prop :=
  (t0.toInt = 0 → v_132_28 T P  a1 a2 a3 t0 0 s Q) ∧ (¬ (t0.toInt = 0) → ∀ x1 : Int32, (-2147483648 ≤ a1.toInt + 1 ∧ a1.toInt + 1 ≤ 2147483647 → x1.toInt = a1.toInt + 1) → v_132_28 T P  a1 a2 a3 t0 (zg s (P + 12) x1) s Q)
def v_132_0 (T : Nat → List Value → zS → (Option Value → zS → Prop) → Prop) (P : Nat)  (a1 : Int32) (a2 : Int32) (s : zS) (Q : Option Value → zS → Prop) : Prop :=
  T 133 [.ref 83, .int a1] s (fun v1 s2 => ∃ x3, v1 = some (.int x3) ∧ (∀ x4 : Int32, (-2147483648 ≤ a1.toInt + 1 ∧ a1.toInt + 1 ≤ 2147483647 → x4.toInt = a1.toInt + 1) → (¬ ((zg s2 (P + 4) x4).toInt = 91) → v_132_16 T P  a1 a2 x3 0 s2 Q) ∧ ((zg s2 (P + 4) x4).toInt = 91 → v_132_16 T P  a1 a2 x3 1 s2 Q)))
set_option maxRecDepth 20000 in
theorem m_132_119_3 {d d0 : Nat} (hd : d = d0 + 8)  {a1 : Int32} {a2 : Int32} {a3 : Int32} {a4 : Int32} {a5 : Int32} {a6 : Int32} {a7 : Int32} {a8 : Int32} {t0 : Int32} {s : zS} {Q : Option Value → zS → Prop}  (h : v_132_119 (fun j => Zt d (wd 3 j) j) 3  a1 a2 a3 a4 a5 a6 a7 a8 t0 s Q) : Zn d [] [(3, 98)] ([(83, 1, 3), (83, 2, 4), (75, 0, 3), (75, 1, 21), (75, 2, 25)] : zW) ([(83, 1, 3), (83, 2, 4), (75, 0, 3), (75, 1, 21), (75, 2, 25)] : zW) xL_10 9 (some .int) xE_132 (xE_132.drop 119) [.ref 83, .int a1, .int a2, .int a3, .int a4, .int a5, .int a6, .int a7, .int a8, .null, .null, .null] [.int t0] s Q := by
  unfold v_132_119 at h
  exact zn_retI rfl h
set_option maxRecDepth 20000 in
theorem m_132_112_3 {d d0 : Nat} (hd : d = d0 + 8)  {a1 : Int32} {a2 : Int32} {a3 : Int32} {a4 : Int32} {a5 : Int32} {a6 : Int32} {a7 : Int32} {a8 : Int32} {s : zS} {Q : Option Value → zS → Prop}  (h : v_132_112 (fun j => Zt d (wd 3 j) j) 3  a1 a2 a3 a4 a5 a6 a7 a8 s Q) : Zn d [] [(3, 98)] ([(83, 1, 3), (83, 2, 4), (75, 0, 3), (75, 1, 21), (75, 2, 25)] : zW) ([(83, 1, 3), (83, 2, 4), (75, 0, 3), (75, 1, 21), (75, 2, 25)] : zW) xL_10 9 (some .int) xE_132 (xE_132.drop 112) [.ref 83, .int a1, .int a2, .int a3, .int a4, .int a5, .int a6, .int a7, .int a8, .null, .null, .null] [] s Q := by
  unfold v_132_112 at h
  refine zn_ld rfl rfl rfl ?_
  refine zn_brP rfl rfl ⟨fun hcn => ?_, fun hcn => ?_⟩
  · replace h := h.1 ((i_eq (x := a4) (y := 0) rfl (show (0 : Int32).toInt = 0 by decide)).mp hcn)
    refine zn_ld rfl rfl rfl ?_
    exact m_132_119_3 hd  h
  · replace h := h.2 (fun q => hcn ((i_eq (x := a4) (y := 0) rfl (show (0 : Int32).toInt = 0 by decide)).mpr q))
    refine zn_ld rfl rfl rfl ?_
    refine zn_c [.int 1, .int a7] (xo_push (.int 1)) rfl rfl ?_
    replace h := h _ (i_add (x := a7) (y := 1) rfl (show (1 : Int32).toInt = 1 by decide))
    refine zn_c [.int (a7 + 1)] xo_iadd rfl rfl ?_
    refine zn_go rfl ?_
    exact m_132_119_3 hd  h
set_option maxRecDepth 20000 in
theorem m_132_100_3 {d d0 : Nat} (hd : d = d0 + 8)  {a1 : Int32} {a2 : Int32} {a3 : Int32} {a4 : Int32} {a5 : Int32} {a6 : Int32} {a7 : Int32} {a8 : Int32} {s : zS} {Q : Option Value → zS → Prop}  (h : v_132_100 (fun j => Zt d (wd 3 j) j) 3  a1 a2 a3 a4 a5 a6 a7 a8 s Q) : Zn d [] [(3, 98)] ([(83, 1, 3), (83, 2, 4), (75, 0, 3), (75, 1, 21), (75, 2, 25)] : zW) ([(83, 1, 3), (83, 2, 4), (75, 0, 3), (75, 1, 21), (75, 2, 25)] : zW) xL_10 9 (some .int) xE_132 (xE_132.drop 100) [.ref 83, .int a1, .int a2, .int a3, .int a4, .int a5, .int a6, .int a7, .int a8, .null, .null, .null] [] s Q := by
  unfold v_132_100 at h
  refine zn_ld rfl rfl rfl ?_
  refine zn_get (v := .ref 3) rfl (zv_C (a := 83) (n := 0) rfl rfl rfl) ?_
  refine zn_get (v := .int (s.1 3 10)) rfl (zv_I (a := 3) rfl rfl) ?_
  refine zn_ld rfl rfl rfl ?_
  replace h := h _ (i_sub (x := s.1 3 10) (y := a6) rfl rfl)
  refine zn_c [.int ((s.1 3 10) - a6)] xo_isub rfl rfl ?_
  refine zn_c [.int 60, .int ((s.1 3 10) - a6)] (xo_push (.int 60)) rfl rfl ?_
  refine zn_brP rfl rfl ⟨fun hcn => ?_, fun hcn => ?_⟩
  · replace h := h.1 ((i_le (x := ((s.1 3 10) - a6)) (y := 60) rfl (show (60 : Int32).toInt = 60 by decide)).mp hcn)
    exact m_132_112_3 hd  h
  · replace h := h.2 (fun q => hcn ((i_le (x := ((s.1 3 10) - a6)) (y := 60) rfl (show (60 : Int32).toInt = 60 by decide)).mpr q))
    refine zn_ld rfl rfl rfl ?_
    refine zn_get (v := .ref 3) rfl (zv_C (a := 83) (n := 0) rfl rfl rfl) ?_
    refine zn_c [.int 9, .ref 3] (xo_push (.int 9)) rfl rfl ?_
    refine zn_ld rfl rfl rfl ?_
    refine zn_zt [.ref 3, .int 9, .int a1] [] rfl rfl rfl rfl rfl (Zt.imp h (fun v2 s3 h => ?_))
    obtain ⟨rfl, h⟩ := h
    change Zn _ _ _ _ _ _ _ _ _ _ _ [] _ _
    exact m_132_112_3 hd  h
set_option maxRecDepth 20000 in
theorem m_132_79_3 {d d0 : Nat} (hd : d = d0 + 8) {R79 : Int32 → Int32 → Int32 → Int32 → Int32 → Int32 → Int32 → Int32 → zS → Prop} {a1 : Int32} {a2 : Int32} {a3 : Int32} {a4 : Int32} {a5 : Int32} {a6 : Int32} {a7 : Int32} {a8 : Int32} {s : zS} {Q : Option Value → zS → Prop} (r79 : ∀ a1 a2 a3 a4 a5 a6 a7 a8 s, R79 a1 a2 a3 a4 a5 a6 a7 a8 s → Zn d [] [(3, 98)] ([(83, 1, 3), (83, 2, 4), (75, 0, 3), (75, 1, 21), (75, 2, 25)] : zW) ([(83, 1, 3), (83, 2, 4), (75, 0, 3), (75, 1, 21), (75, 2, 25)] : zW) xL_10 9 (some .int) xE_132 (xE_132.drop 79) [.ref 83, .int a1, .int a2, .int a3, .int a4, .int a5, .int a6, .int a7, .int a8, .null, .null, .null] [] s Q) (h : v_132_79 (fun j => Zt d (wd 3 j) j) 3 R79 a1 a2 a3 a4 a5 a6 a7 a8 s Q) : Zn d [] [(3, 98)] ([(83, 1, 3), (83, 2, 4), (75, 0, 3), (75, 1, 21), (75, 2, 25)] : zW) ([(83, 1, 3), (83, 2, 4), (75, 0, 3), (75, 1, 21), (75, 2, 25)] : zW) xL_10 9 (some .int) xE_132 (xE_132.drop 79) [.ref 83, .int a1, .int a2, .int a3, .int a4, .int a5, .int a6, .int a7, .int a8, .null, .null, .null] [] s Q := by
  unfold v_132_79 at h
  refine zn_ld rfl rfl rfl ?_
  refine zn_ld rfl rfl rfl ?_
  refine zn_brP rfl rfl ⟨fun hcn => ?_, fun hcn => ?_⟩
  · replace h := h.1 ((i_le (x := a5) (y := a8) rfl rfl).mp hcn)
    exact m_132_100_3 hd  h
  · replace h := h.2 (fun q => hcn ((i_le (x := a5) (y := a8) rfl rfl).mpr q))
    refine zn_ld rfl rfl rfl ?_
    refine zn_get (v := .ref 3) rfl (zv_C (a := 83) (n := 0) rfl rfl rfl) ?_
    refine zn_get (v := .int (s.1 3 14)) rfl (zv_I (a := 3) rfl rfl) ?_
    refine zn_brN rfl rfl ⟨fun hcn => ?_, fun hcn => ?_⟩
    · replace h := h.1 (fun q => hcn ((i_eq (x := s.1 3 14) (y := 0) rfl (show (0 : Int32).toInt = 0 by decide)).mpr q))
      exact m_132_100_3 hd  h
    · replace h := h.2 ((i_eq (x := s.1 3 14) (y := 0) rfl (show (0 : Int32).toInt = 0 by decide)).mp hcn)
      refine zn_ld rfl rfl rfl ?_
      refine zn_c [.int 10, .int a2] (xo_push (.int 10)) rfl rfl ?_
      refine zn_brP rfl rfl ⟨fun hcn => ?_, fun hcn => ?_⟩
      · replace h := h.1 ((i_lt (x := 10) (y := a2) (show (10 : Int32).toInt = 10 by decide) rfl).mp hcn)
        exact m_132_100_3 hd  h
      · replace h := h.2 (fun q => hcn ((i_lt (x := 10) (y := a2) (show (10 : Int32).toInt = 10 by decide) rfl).mpr q))
        refine zn_ld rfl rfl rfl ?_
        refine zn_ld rfl rfl rfl ?_
        refine zn_c [.int 1, .int a7, .ref 83] (xo_push (.int 1)) rfl rfl ?_
        replace h := h _ (i_add (x := a7) (y := 1) rfl (show (1 : Int32).toInt = 1 by decide))
        refine zn_c [.int (a7 + 1), .ref 83] xo_iadd rfl rfl ?_
        refine zn_ld rfl rfl rfl ?_
        refine zn_c [.int 1, .int a2, .int (a7 + 1), .ref 83] (xo_push (.int 1)) rfl rfl ?_
        replace h := h _ (i_add (x := a2) (y := 1) rfl (show (1 : Int32).toInt = 1 by decide))
        refine zn_c [.int (a2 + 1), .int (a7 + 1), .ref 83] xo_iadd rfl rfl ?_
        refine zn_zt [.ref 83, .int (a7 + 1), .int (a2 + 1)] [] rfl rfl rfl rfl rfl (Zt.imp h (fun v3 s4 h => ?_))
        obtain ⟨x5, rfl, h⟩ := h
        change Zn _ _ _ _ _ _ _ _ _ _ _ [.int x5] _ _
        refine zn_st [.ref 83, .int a1, .int a2, .int a3, .int a4, .int a5, .int a6, .int x5, .int a8, .null, .null, .null] rfl rfl rfl ?_
        replace h := h _ (i_add (x := a8) (y := 1) rfl (show (1 : Int32).toInt = 1 by decide))
        refine zn_inc [.ref 83, .int a1, .int a2, .int a3, .int a4, .int a5, .int a6, .int x5, .int (a8 + 1), .null, .null, .null] rfl rfl rfl rfl ?_
        refine zn_go rfl ?_
        exact r79 a1 a2 a3 a4 a5 a6 x5 (a8 + 1) s4 h
theorem ml_132_79_3 {d d0 : Nat} (hd : d = d0 + 8)  {a1 : Int32} {a2 : Int32} {a3 : Int32} {a4 : Int32} {a5 : Int32} {a6 : Int32} {a7 : Int32} {a8 : Int32} {s : zS} {Q : Option Value → zS → Prop}  (h : vl_132_79 (fun j => Zt d (wd 3 j) j) 3  a1 a2 a3 a4 a5 a6 a7 a8 s Q) : Zn d [] [(3, 98)] ([(83, 1, 3), (83, 2, 4), (75, 0, 3), (75, 1, 21), (75, 2, 25)] : zW) ([(83, 1, 3), (83, 2, 4), (75, 0, 3), (75, 1, 21), (75, 2, 25)] : zW) xL_10 9 (some .int) xE_132 (xE_132.drop 79) [.ref 83, .int a1, .int a2, .int a3, .int a4, .int a5, .int a6, .int a7, .int a8, .null, .null, .null] [] s Q := by
  obtain ⟨I, μ, h0, h1⟩ := h
  have key : ∀ (n : Nat) (a1 : Int32) (a2 : Int32) (a3 : Int32) (a4 : Int32) (a5 : Int32) (a6 : Int32) (a7 : Int32) (a8 : Int32) (s : zS), μ a1 a2 a3 a4 a5 a6 a7 a8 s = n → I a1 a2 a3 a4 a5 a6 a7 a8 s → Zn d [] [(3, 98)] ([(83, 1, 3), (83, 2, 4), (75, 0, 3), (75, 1, 21), (75, 2, 25)] : zW) ([(83, 1, 3), (83, 2, 4), (75, 0, 3), (75, 1, 21), (75, 2, 25)] : zW) xL_10 9 (some .int) xE_132 (xE_132.drop 79) [.ref 83, .int a1, .int a2, .int a3, .int a4, .int a5, .int a6, .int a7, .int a8, .null, .null, .null] [] s Q := by
    intro n
    induction n using Nat.strongRecOn with
    | ind n ih =>
      intro a1 a2 a3 a4 a5 a6 a7 a8 s e hI
      exact m_132_79_3 hd (fun a1' a2' a3' a4' a5' a6' a7' a8' s' q => ih _ (by rw [← e]; exact q.2) a1' a2' a3' a4' a5' a6' a7' a8' s' rfl q.1) (h1 a1 a2 a3 a4 a5 a6 a7 a8 s hI)
  exact key _ a1 a2 a3 a4 a5 a6 a7 a8 s rfl h0
set_option maxRecDepth 20000 in
theorem m_132_49_3 {d d0 : Nat} (hd : d = d0 + 8)  {a1 : Int32} {a2 : Int32} {a3 : Int32} {a4 : Int32} {a5 : Int32} {s : zS} {Q : Option Value → zS → Prop}  (h : v_132_49 (fun j => Zt d (wd 3 j) j) 3  a1 a2 a3 a4 a5 s Q) : Zn d [] [(3, 98)] ([(83, 1, 3), (83, 2, 4), (75, 0, 3), (75, 1, 21), (75, 2, 25)] : zW) ([(83, 1, 3), (83, 2, 4), (75, 0, 3), (75, 1, 21), (75, 2, 25)] : zW) xL_10 9 (some .int) xE_132 (xE_132.drop 49) [.ref 83, .int a1, .int a2, .int a3, .int a4, .int a5, .null, .null, .null, .null, .null, .null] [] s Q := by
  unfold v_132_49 at h
  refine zn_ld rfl rfl rfl ?_
  refine zn_get (v := .ref 3) rfl (zv_C (a := 83) (n := 0) rfl rfl rfl) ?_
  refine zn_get (v := .int (s.1 3 10)) rfl (zv_I (a := 3) rfl rfl) ?_
  refine zn_st [.ref 83, .int a1, .int a2, .int a3, .int a4, .int a5, .int (s.1 3 10), .null, .null, .null, .null, .null] rfl rfl rfl ?_
  refine zn_ld rfl rfl rfl ?_
  refine zn_get (v := .ref 3) rfl (zv_C (a := 83) (n := 0) rfl rfl rfl) ?_
  refine zn_get (v := .ref 21) rfl (zv_R (a := 3) rfl rfl) ?_
  refine zn_ld rfl rfl rfl ?_
  refine zn_ld rfl rfl rfl ?_
  obtain ⟨hx18, h⟩ := h
  refine zn_set (s.1 3 10) a3 [] (a := 21) hd rfl rfl rfl rfl ⟨Int32.le_toInt _, Int.le_of_lt_add_one (Int32.toInt_lt _)⟩ rfl rfl ?_ (hx := Or.inr hx18)
  replace h := h _ rfl
  refine zn_ld rfl rfl rfl ?_
  refine zn_get (v := .ref 3) rfl (zv_C (a := 83) (n := 0) rfl rfl rfl) ?_
  refine zn_get (v := .ref 23) rfl (zv_R (a := 3) rfl rfl) ?_
  refine zn_ld rfl rfl rfl ?_
  refine zn_c [.int 18738, .int (s.1 3 10), .ref 23] (xo_push (.int 18738)) rfl rfl ?_
  replace h := h _ (i_sub (x := s.1 3 10) (y := 18738) rfl (show (18738 : Int32).toInt = 18738 by decide))
  refine zn_c [.int ((s.1 3 10) - 18738), .ref 23] xo_isub rfl rfl ?_
  refine zn_ld rfl rfl rfl ?_
  refine zn_set ((s.1 3 10) - 18738) a1 [] (a := 23) hd rfl rfl rfl rfl ⟨Int32.le_toInt _, Int.le_of_lt_add_one (Int32.toInt_lt _)⟩ rfl rfl ?_
  replace h := h _ rfl
  refine zn_ld rfl rfl rfl ?_
  refine zn_get (v := .ref 3) rfl (zv_C (a := 83) (n := 0) rfl rfl rfl) ?_
  refine zn_ld rfl rfl rfl ?_
  refine zn_c [.int 1, .int (s.1 3 10), .ref 3] (xo_push (.int 1)) rfl rfl ?_
  replace h := h _ (i_add (x := s.1 3 10) (y := 1) rfl (show (1 : Int32).toInt = 1 by decide))
  refine zn_c [.int ((s.1 3 10) + 1), .ref 3] xo_iadd rfl rfl ?_
  refine zn_putI (a := 3) rfl rfl rfl rfl ⟨Int.le_trans (by decide) h.1.1, h.1.2⟩ rfl rfl rfl ?_ (hkl := Or.inr (Or.inl ⟨⟨by decide, rfl⟩, h.1.1⟩))
  replace h := h.2
  replace h := h _ rfl
  refine zn_ld rfl rfl rfl ?_
  refine zn_c [.int 1, .int a1] (xo_push (.int 1)) rfl rfl ?_
  replace h := h _ (i_add (x := a1) (y := 1) rfl (show (1 : Int32).toInt = 1 by decide))
  refine zn_c [.int (a1 + 1)] xo_iadd rfl rfl ?_
  refine zn_st [.ref 83, .int a1, .int a2, .int a3, .int a4, .int a5, .int (s.1 3 10), .int (a1 + 1), .null, .null, .null, .null] rfl rfl rfl ?_
  refine zn_c [.int 0] (xo_push (.int 0)) rfl rfl ?_
  refine zn_st [.ref 83, .int a1, .int a2, .int a3, .int a4, .int a5, .int (s.1 3 10), .int (a1 + 1), .int 0, .null, .null, .null] rfl rfl rfl ?_
  exact ml_132_79_3 hd  h
set_option maxRecDepth 20000 in
theorem m_132_28_3 {d d0 : Nat} (hd : d = d0 + 8)  {a1 : Int32} {a2 : Int32} {a3 : Int32} {a4 : Int32} {t0 : Int32} {s : zS} {Q : Option Value → zS → Prop}  (h : v_132_28 (fun j => Zt d (wd 3 j) j) 3  a1 a2 a3 a4 t0 s Q) : Zn d [] [(3, 98)] ([(83, 1, 3), (83, 2, 4), (75, 0, 3), (75, 1, 21), (75, 2, 25)] : zW) ([(83, 1, 3), (83, 2, 4), (75, 0, 3), (75, 1, 21), (75, 2, 25)] : zW) xL_10 9 (some .int) xE_132 (xE_132.drop 28) [.ref 83, .int a1, .int a2, .int a3, .int a4, .null, .null, .null, .null, .null, .null, .null] [.int t0] s Q := by
  unfold v_132_28 at h
  refine zn_st [.ref 83, .int a1, .int a2, .int a3, .int a4, .int t0, .null, .null, .null, .null, .null, .null] rfl rfl rfl ?_
  refine zn_ld rfl rfl rfl ?_
  refine zn_brP rfl rfl ⟨fun hcn => ?_, fun hcn => ?_⟩
  · replace h := h.1 ((i_le (x := 0) (y := a3) (show (0 : Int32).toInt = 0 by decide) rfl).mp hcn)
    refine zn_ld rfl rfl rfl ?_
    refine zn_ld rfl rfl rfl ?_
    refine zn_get (v := .ref 3) rfl (zv_C (a := 83) (n := 0) rfl rfl rfl) ?_
    refine zn_get (v := .ref 25) rfl (zv_R (a := 3) rfl rfl) ?_
    refine zn_ld rfl rfl rfl ?_
    refine zn_row a3 [.int t0] (a := 25) hd rfl rfl rfl rfl ?_
    change Zn _ _ _ _ _ _ _ _ _ _ _ [.int (zg s 25 a3), .int t0] _ _
    refine zn_brP rfl rfl ⟨fun hcn => ?_, fun hcn => ?_⟩
    · replace h := h.1 ((i_eq (x := t0) (y := zg s 25 a3) rfl rfl).mp hcn)
      exact m_132_49_3 hd  h
    · replace h := h.2 (fun q => hcn ((i_eq (x := t0) (y := zg s 25 a3) rfl rfl).mpr q))
      refine zn_ld rfl rfl rfl ?_
      refine zn_get (v := .ref 3) rfl (zv_C (a := 83) (n := 0) rfl rfl rfl) ?_
      refine zn_c [.int 4, .ref 3] (xo_push (.int 4)) rfl rfl ?_
      refine zn_ld rfl rfl rfl ?_
      refine zn_zt [.ref 3, .int 4, .int a1] [] rfl rfl rfl rfl rfl (Zt.imp h (fun v1 s2 h => ?_))
      obtain ⟨rfl, h⟩ := h
      change Zn _ _ _ _ _ _ _ _ _ _ _ [] _ _
      exact m_132_49_3 hd  h
  · replace h := h.2 (fun q => hcn ((i_le (x := 0) (y := a3) (show (0 : Int32).toInt = 0 by decide) rfl).mpr q))
    refine zn_ld rfl rfl rfl ?_
    refine zn_get (v := .ref 3) rfl (zv_C (a := 83) (n := 0) rfl rfl rfl) ?_
    refine zn_c [.int 2, .ref 3] (xo_push (.int 2)) rfl rfl ?_
    refine zn_ld rfl rfl rfl ?_
    refine zn_zt [.ref 3, .int 2, .int a1] [] rfl rfl rfl rfl rfl (Zt.imp h (fun v3 s4 h => ?_))
    obtain ⟨rfl, h⟩ := h
    change Zn _ _ _ _ _ _ _ _ _ _ _ [] _ _
    refine zn_go rfl ?_
    exact m_132_49_3 hd  h
set_option maxRecDepth 20000 in
theorem m_132_16_3 {d d0 : Nat} (hd : d = d0 + 8)  {a1 : Int32} {a2 : Int32} {a3 : Int32} {t0 : Int32} {s : zS} {Q : Option Value → zS → Prop}  (h : v_132_16 (fun j => Zt d (wd 3 j) j) 3  a1 a2 a3 t0 s Q) : Zn d [] [(3, 98)] ([(83, 1, 3), (83, 2, 4), (75, 0, 3), (75, 1, 21), (75, 2, 25)] : zW) ([(83, 1, 3), (83, 2, 4), (75, 0, 3), (75, 1, 21), (75, 2, 25)] : zW) xL_10 9 (some .int) xE_132 (xE_132.drop 16) [.ref 83, .int a1, .int a2, .int a3, .null, .null, .null, .null, .null, .null, .null, .null] [.int t0] s Q := by
  unfold v_132_16 at h
  refine zn_st [.ref 83, .int a1, .int a2, .int a3, .int t0, .null, .null, .null, .null, .null, .null, .null] rfl rfl rfl ?_
  refine zn_ld rfl rfl rfl ?_
  refine zn_brP rfl rfl ⟨fun hcn => ?_, fun hcn => ?_⟩
  · replace h := h.1 ((i_eq (x := t0) (y := 0) rfl (show (0 : Int32).toInt = 0 by decide)).mp hcn)
    refine zn_c [.int 0] (xo_push (.int 0)) rfl rfl ?_
    exact m_132_28_3 hd  h
  · replace h := h.2 (fun q => hcn ((i_eq (x := t0) (y := 0) rfl (show (0 : Int32).toInt = 0 by decide)).mpr q))
    refine zn_ld rfl rfl rfl ?_
    refine zn_get (v := .ref 4) rfl (zv_C (a := 83) (n := 1) rfl rfl rfl) ?_
    refine zn_get (v := .ref 15) rfl (zv_R (a := 4) rfl rfl) ?_
    refine zn_ld rfl rfl rfl ?_
    refine zn_c [.int 1, .int a1, .ref 15] (xo_push (.int 1)) rfl rfl ?_
    replace h := h _ (i_add (x := a1) (y := 1) rfl (show (1 : Int32).toInt = 1 by decide))
    refine zn_c [.int (a1 + 1), .ref 15] xo_iadd rfl rfl ?_
    refine zn_row (a1 + 1) [] (a := 15) hd rfl rfl rfl rfl ?_
    change Zn _ _ _ _ _ _ _ _ _ _ _ [.int (zg s 15 (a1 + 1))] _ _
    refine zn_go rfl ?_
    exact m_132_28_3 hd  h
set_option maxRecDepth 20000 in
theorem m_132_0_3 {d d0 : Nat} (hd : d = d0 + 8)  {a1 : Int32} {a2 : Int32} {s : zS} {Q : Option Value → zS → Prop}  (h : v_132_0 (fun j => Zt d (wd 3 j) j) 3  a1 a2 s Q) : Zn d [] [(3, 98)] ([(83, 1, 3), (83, 2, 4), (75, 0, 3), (75, 1, 21), (75, 2, 25)] : zW) ([(83, 1, 3), (83, 2, 4), (75, 0, 3), (75, 1, 21), (75, 2, 25)] : zW) xL_10 9 (some .int) xE_132 (xE_132.drop 0) [.ref 83, .int a1, .int a2, .null, .null, .null, .null, .null, .null, .null, .null, .null] [] s Q := by
  unfold v_132_0 at h
  refine zn_ld rfl rfl rfl ?_
  refine zn_ld rfl rfl rfl ?_
  refine zn_zt [.ref 83, .int a1] [] rfl rfl rfl rfl rfl (Zt.imp h (fun v1 s2 h => ?_))
  obtain ⟨x3, rfl, h⟩ := h
  change Zn _ _ _ _ _ _ _ _ _ _ _ [.int x3] _ _
  refine zn_st [.ref 83, .int a1, .int a2, .int x3, .null, .null, .null, .null, .null, .null, .null, .null] rfl rfl rfl ?_
  refine zn_ld rfl rfl rfl ?_
  refine zn_get (v := .ref 4) rfl (zv_C (a := 83) (n := 1) rfl rfl rfl) ?_
  refine zn_get (v := .ref 7) rfl (zv_R (a := 4) rfl rfl) ?_
  refine zn_ld rfl rfl rfl ?_
  refine zn_c [.int 1, .int a1, .ref 7] (xo_push (.int 1)) rfl rfl ?_
  replace h := h _ (i_add (x := a1) (y := 1) rfl (show (1 : Int32).toInt = 1 by decide))
  refine zn_c [.int (a1 + 1), .ref 7] xo_iadd rfl rfl ?_
  refine zn_row (a1 + 1) [] (a := 7) hd rfl rfl rfl rfl ?_
  change Zn _ _ _ _ _ _ _ _ _ _ _ [.int (zg s2 7 (a1 + 1))] _ _
  refine zn_c [.int 91, .int (zg s2 7 (a1 + 1))] (xo_push (.int 91)) rfl rfl ?_
  refine zn_brN rfl rfl ⟨fun hcn => ?_, fun hcn => ?_⟩
  · replace h := h.1 (fun q => hcn ((i_eq (x := zg s2 7 (a1 + 1)) (y := 91) rfl (show (91 : Int32).toInt = 91 by decide)).mpr q))
    refine zn_c [.int 0] (xo_push (.int 0)) rfl rfl ?_
    exact m_132_16_3 hd  h
  · replace h := h.2 ((i_eq (x := zg s2 7 (a1 + 1)) (y := 91) rfl (show (91 : Int32).toInt = 91 by decide)).mp hcn)
    refine zn_c [.int 1] (xo_push (.int 1)) rfl rfl ?_
    refine zn_go rfl ?_
    exact m_132_16_3 hd  h
theorem zq_132_3 {d : Nat} {a1 : Int32} {a2 : Int32} {s : zS} {Q : Option Value → zS → Prop} (h : v_132_0 (fun j => Zt (d + 8) (wd 3 j) j) 3 a1 a2 s Q) : Zt (d + 9) ([(83, 1, 3), (83, 2, 4), (75, 0, 3), (75, 1, 21), (75, 2, 25)] : zW) 132 [.ref 83, .int a1, .int a2] s Q := zt_of (E := xE_132) (L := xL_10) (ml := 9) (ret := some .int) rfl rfl rfl (m_132_0_3 rfl h)
set_option maxRecDepth 20000 in
theorem m_132_119_39 {d d0 : Nat} (hd : d = d0 + 8)  {a1 : Int32} {a2 : Int32} {a3 : Int32} {a4 : Int32} {a5 : Int32} {a6 : Int32} {a7 : Int32} {a8 : Int32} {t0 : Int32} {s : zS} {Q : Option Value → zS → Prop}  (h : v_132_119 (fun j => Zt d (wd 39 j) j) 39  a1 a2 a3 a4 a5 a6 a7 a8 t0 s Q) : Zn d [] [(39, 98)] ([(83, 1, 39), (83, 2, 40), (75, 0, 39), (75, 1, 57), (75, 2, 61)] : zW) ([(83, 1, 39), (83, 2, 40), (75, 0, 39), (75, 1, 57), (75, 2, 61)] : zW) xL_10 9 (some .int) xE_132 (xE_132.drop 119) [.ref 83, .int a1, .int a2, .int a3, .int a4, .int a5, .int a6, .int a7, .int a8, .null, .null, .null] [.int t0] s Q := by
  unfold v_132_119 at h
  exact zn_retI rfl h
set_option maxRecDepth 20000 in
theorem m_132_112_39 {d d0 : Nat} (hd : d = d0 + 8)  {a1 : Int32} {a2 : Int32} {a3 : Int32} {a4 : Int32} {a5 : Int32} {a6 : Int32} {a7 : Int32} {a8 : Int32} {s : zS} {Q : Option Value → zS → Prop}  (h : v_132_112 (fun j => Zt d (wd 39 j) j) 39  a1 a2 a3 a4 a5 a6 a7 a8 s Q) : Zn d [] [(39, 98)] ([(83, 1, 39), (83, 2, 40), (75, 0, 39), (75, 1, 57), (75, 2, 61)] : zW) ([(83, 1, 39), (83, 2, 40), (75, 0, 39), (75, 1, 57), (75, 2, 61)] : zW) xL_10 9 (some .int) xE_132 (xE_132.drop 112) [.ref 83, .int a1, .int a2, .int a3, .int a4, .int a5, .int a6, .int a7, .int a8, .null, .null, .null] [] s Q := by
  unfold v_132_112 at h
  refine zn_ld rfl rfl rfl ?_
  refine zn_brP rfl rfl ⟨fun hcn => ?_, fun hcn => ?_⟩
  · replace h := h.1 ((i_eq (x := a4) (y := 0) rfl (show (0 : Int32).toInt = 0 by decide)).mp hcn)
    refine zn_ld rfl rfl rfl ?_
    exact m_132_119_39 hd  h
  · replace h := h.2 (fun q => hcn ((i_eq (x := a4) (y := 0) rfl (show (0 : Int32).toInt = 0 by decide)).mpr q))
    refine zn_ld rfl rfl rfl ?_
    refine zn_c [.int 1, .int a7] (xo_push (.int 1)) rfl rfl ?_
    replace h := h _ (i_add (x := a7) (y := 1) rfl (show (1 : Int32).toInt = 1 by decide))
    refine zn_c [.int (a7 + 1)] xo_iadd rfl rfl ?_
    refine zn_go rfl ?_
    exact m_132_119_39 hd  h
set_option maxRecDepth 20000 in
theorem m_132_100_39 {d d0 : Nat} (hd : d = d0 + 8)  {a1 : Int32} {a2 : Int32} {a3 : Int32} {a4 : Int32} {a5 : Int32} {a6 : Int32} {a7 : Int32} {a8 : Int32} {s : zS} {Q : Option Value → zS → Prop}  (h : v_132_100 (fun j => Zt d (wd 39 j) j) 39  a1 a2 a3 a4 a5 a6 a7 a8 s Q) : Zn d [] [(39, 98)] ([(83, 1, 39), (83, 2, 40), (75, 0, 39), (75, 1, 57), (75, 2, 61)] : zW) ([(83, 1, 39), (83, 2, 40), (75, 0, 39), (75, 1, 57), (75, 2, 61)] : zW) xL_10 9 (some .int) xE_132 (xE_132.drop 100) [.ref 83, .int a1, .int a2, .int a3, .int a4, .int a5, .int a6, .int a7, .int a8, .null, .null, .null] [] s Q := by
  unfold v_132_100 at h
  refine zn_ld rfl rfl rfl ?_
  refine zn_get (v := .ref 39) rfl (zv_C (a := 83) (n := 0) rfl rfl rfl) ?_
  refine zn_get (v := .int (s.1 39 10)) rfl (zv_I (a := 39) rfl rfl) ?_
  refine zn_ld rfl rfl rfl ?_
  replace h := h _ (i_sub (x := s.1 39 10) (y := a6) rfl rfl)
  refine zn_c [.int ((s.1 39 10) - a6)] xo_isub rfl rfl ?_
  refine zn_c [.int 60, .int ((s.1 39 10) - a6)] (xo_push (.int 60)) rfl rfl ?_
  refine zn_brP rfl rfl ⟨fun hcn => ?_, fun hcn => ?_⟩
  · replace h := h.1 ((i_le (x := ((s.1 39 10) - a6)) (y := 60) rfl (show (60 : Int32).toInt = 60 by decide)).mp hcn)
    exact m_132_112_39 hd  h
  · replace h := h.2 (fun q => hcn ((i_le (x := ((s.1 39 10) - a6)) (y := 60) rfl (show (60 : Int32).toInt = 60 by decide)).mpr q))
    refine zn_ld rfl rfl rfl ?_
    refine zn_get (v := .ref 39) rfl (zv_C (a := 83) (n := 0) rfl rfl rfl) ?_
    refine zn_c [.int 9, .ref 39] (xo_push (.int 9)) rfl rfl ?_
    refine zn_ld rfl rfl rfl ?_
    refine zn_zt [.ref 39, .int 9, .int a1] [] rfl rfl rfl rfl rfl (Zt.imp h (fun v2 s3 h => ?_))
    obtain ⟨rfl, h⟩ := h
    change Zn _ _ _ _ _ _ _ _ _ _ _ [] _ _
    exact m_132_112_39 hd  h
set_option maxRecDepth 20000 in
theorem m_132_79_39 {d d0 : Nat} (hd : d = d0 + 8) {R79 : Int32 → Int32 → Int32 → Int32 → Int32 → Int32 → Int32 → Int32 → zS → Prop} {a1 : Int32} {a2 : Int32} {a3 : Int32} {a4 : Int32} {a5 : Int32} {a6 : Int32} {a7 : Int32} {a8 : Int32} {s : zS} {Q : Option Value → zS → Prop} (r79 : ∀ a1 a2 a3 a4 a5 a6 a7 a8 s, R79 a1 a2 a3 a4 a5 a6 a7 a8 s → Zn d [] [(39, 98)] ([(83, 1, 39), (83, 2, 40), (75, 0, 39), (75, 1, 57), (75, 2, 61)] : zW) ([(83, 1, 39), (83, 2, 40), (75, 0, 39), (75, 1, 57), (75, 2, 61)] : zW) xL_10 9 (some .int) xE_132 (xE_132.drop 79) [.ref 83, .int a1, .int a2, .int a3, .int a4, .int a5, .int a6, .int a7, .int a8, .null, .null, .null] [] s Q) (h : v_132_79 (fun j => Zt d (wd 39 j) j) 39 R79 a1 a2 a3 a4 a5 a6 a7 a8 s Q) : Zn d [] [(39, 98)] ([(83, 1, 39), (83, 2, 40), (75, 0, 39), (75, 1, 57), (75, 2, 61)] : zW) ([(83, 1, 39), (83, 2, 40), (75, 0, 39), (75, 1, 57), (75, 2, 61)] : zW) xL_10 9 (some .int) xE_132 (xE_132.drop 79) [.ref 83, .int a1, .int a2, .int a3, .int a4, .int a5, .int a6, .int a7, .int a8, .null, .null, .null] [] s Q := by
  unfold v_132_79 at h
  refine zn_ld rfl rfl rfl ?_
  refine zn_ld rfl rfl rfl ?_
  refine zn_brP rfl rfl ⟨fun hcn => ?_, fun hcn => ?_⟩
  · replace h := h.1 ((i_le (x := a5) (y := a8) rfl rfl).mp hcn)
    exact m_132_100_39 hd  h
  · replace h := h.2 (fun q => hcn ((i_le (x := a5) (y := a8) rfl rfl).mpr q))
    refine zn_ld rfl rfl rfl ?_
    refine zn_get (v := .ref 39) rfl (zv_C (a := 83) (n := 0) rfl rfl rfl) ?_
    refine zn_get (v := .int (s.1 39 14)) rfl (zv_I (a := 39) rfl rfl) ?_
    refine zn_brN rfl rfl ⟨fun hcn => ?_, fun hcn => ?_⟩
    · replace h := h.1 (fun q => hcn ((i_eq (x := s.1 39 14) (y := 0) rfl (show (0 : Int32).toInt = 0 by decide)).mpr q))
      exact m_132_100_39 hd  h
    · replace h := h.2 ((i_eq (x := s.1 39 14) (y := 0) rfl (show (0 : Int32).toInt = 0 by decide)).mp hcn)
      refine zn_ld rfl rfl rfl ?_
      refine zn_c [.int 10, .int a2] (xo_push (.int 10)) rfl rfl ?_
      refine zn_brP rfl rfl ⟨fun hcn => ?_, fun hcn => ?_⟩
      · replace h := h.1 ((i_lt (x := 10) (y := a2) (show (10 : Int32).toInt = 10 by decide) rfl).mp hcn)
        exact m_132_100_39 hd  h
      · replace h := h.2 (fun q => hcn ((i_lt (x := 10) (y := a2) (show (10 : Int32).toInt = 10 by decide) rfl).mpr q))
        refine zn_ld rfl rfl rfl ?_
        refine zn_ld rfl rfl rfl ?_
        refine zn_c [.int 1, .int a7, .ref 83] (xo_push (.int 1)) rfl rfl ?_
        replace h := h _ (i_add (x := a7) (y := 1) rfl (show (1 : Int32).toInt = 1 by decide))
        refine zn_c [.int (a7 + 1), .ref 83] xo_iadd rfl rfl ?_
        refine zn_ld rfl rfl rfl ?_
        refine zn_c [.int 1, .int a2, .int (a7 + 1), .ref 83] (xo_push (.int 1)) rfl rfl ?_
        replace h := h _ (i_add (x := a2) (y := 1) rfl (show (1 : Int32).toInt = 1 by decide))
        refine zn_c [.int (a2 + 1), .int (a7 + 1), .ref 83] xo_iadd rfl rfl ?_
        refine zn_zt [.ref 83, .int (a7 + 1), .int (a2 + 1)] [] rfl rfl rfl rfl rfl (Zt.imp h (fun v3 s4 h => ?_))
        obtain ⟨x5, rfl, h⟩ := h
        change Zn _ _ _ _ _ _ _ _ _ _ _ [.int x5] _ _
        refine zn_st [.ref 83, .int a1, .int a2, .int a3, .int a4, .int a5, .int a6, .int x5, .int a8, .null, .null, .null] rfl rfl rfl ?_
        replace h := h _ (i_add (x := a8) (y := 1) rfl (show (1 : Int32).toInt = 1 by decide))
        refine zn_inc [.ref 83, .int a1, .int a2, .int a3, .int a4, .int a5, .int a6, .int x5, .int (a8 + 1), .null, .null, .null] rfl rfl rfl rfl ?_
        refine zn_go rfl ?_
        exact r79 a1 a2 a3 a4 a5 a6 x5 (a8 + 1) s4 h
theorem ml_132_79_39 {d d0 : Nat} (hd : d = d0 + 8)  {a1 : Int32} {a2 : Int32} {a3 : Int32} {a4 : Int32} {a5 : Int32} {a6 : Int32} {a7 : Int32} {a8 : Int32} {s : zS} {Q : Option Value → zS → Prop}  (h : vl_132_79 (fun j => Zt d (wd 39 j) j) 39  a1 a2 a3 a4 a5 a6 a7 a8 s Q) : Zn d [] [(39, 98)] ([(83, 1, 39), (83, 2, 40), (75, 0, 39), (75, 1, 57), (75, 2, 61)] : zW) ([(83, 1, 39), (83, 2, 40), (75, 0, 39), (75, 1, 57), (75, 2, 61)] : zW) xL_10 9 (some .int) xE_132 (xE_132.drop 79) [.ref 83, .int a1, .int a2, .int a3, .int a4, .int a5, .int a6, .int a7, .int a8, .null, .null, .null] [] s Q := by
  obtain ⟨I, μ, h0, h1⟩ := h
  have key : ∀ (n : Nat) (a1 : Int32) (a2 : Int32) (a3 : Int32) (a4 : Int32) (a5 : Int32) (a6 : Int32) (a7 : Int32) (a8 : Int32) (s : zS), μ a1 a2 a3 a4 a5 a6 a7 a8 s = n → I a1 a2 a3 a4 a5 a6 a7 a8 s → Zn d [] [(39, 98)] ([(83, 1, 39), (83, 2, 40), (75, 0, 39), (75, 1, 57), (75, 2, 61)] : zW) ([(83, 1, 39), (83, 2, 40), (75, 0, 39), (75, 1, 57), (75, 2, 61)] : zW) xL_10 9 (some .int) xE_132 (xE_132.drop 79) [.ref 83, .int a1, .int a2, .int a3, .int a4, .int a5, .int a6, .int a7, .int a8, .null, .null, .null] [] s Q := by
    intro n
    induction n using Nat.strongRecOn with
    | ind n ih =>
      intro a1 a2 a3 a4 a5 a6 a7 a8 s e hI
      exact m_132_79_39 hd (fun a1' a2' a3' a4' a5' a6' a7' a8' s' q => ih _ (by rw [← e]; exact q.2) a1' a2' a3' a4' a5' a6' a7' a8' s' rfl q.1) (h1 a1 a2 a3 a4 a5 a6 a7 a8 s hI)
  exact key _ a1 a2 a3 a4 a5 a6 a7 a8 s rfl h0
set_option maxRecDepth 20000 in
theorem m_132_49_39 {d d0 : Nat} (hd : d = d0 + 8)  {a1 : Int32} {a2 : Int32} {a3 : Int32} {a4 : Int32} {a5 : Int32} {s : zS} {Q : Option Value → zS → Prop}  (h : v_132_49 (fun j => Zt d (wd 39 j) j) 39  a1 a2 a3 a4 a5 s Q) : Zn d [] [(39, 98)] ([(83, 1, 39), (83, 2, 40), (75, 0, 39), (75, 1, 57), (75, 2, 61)] : zW) ([(83, 1, 39), (83, 2, 40), (75, 0, 39), (75, 1, 57), (75, 2, 61)] : zW) xL_10 9 (some .int) xE_132 (xE_132.drop 49) [.ref 83, .int a1, .int a2, .int a3, .int a4, .int a5, .null, .null, .null, .null, .null, .null] [] s Q := by
  unfold v_132_49 at h
  refine zn_ld rfl rfl rfl ?_
  refine zn_get (v := .ref 39) rfl (zv_C (a := 83) (n := 0) rfl rfl rfl) ?_
  refine zn_get (v := .int (s.1 39 10)) rfl (zv_I (a := 39) rfl rfl) ?_
  refine zn_st [.ref 83, .int a1, .int a2, .int a3, .int a4, .int a5, .int (s.1 39 10), .null, .null, .null, .null, .null] rfl rfl rfl ?_
  refine zn_ld rfl rfl rfl ?_
  refine zn_get (v := .ref 39) rfl (zv_C (a := 83) (n := 0) rfl rfl rfl) ?_
  refine zn_get (v := .ref 57) rfl (zv_R (a := 39) rfl rfl) ?_
  refine zn_ld rfl rfl rfl ?_
  refine zn_ld rfl rfl rfl ?_
  obtain ⟨hx18, h⟩ := h
  refine zn_set (s.1 39 10) a3 [] (a := 57) hd rfl rfl rfl rfl ⟨Int32.le_toInt _, Int.le_of_lt_add_one (Int32.toInt_lt _)⟩ rfl rfl ?_ (hx := Or.inr hx18)
  replace h := h _ rfl
  refine zn_ld rfl rfl rfl ?_
  refine zn_get (v := .ref 39) rfl (zv_C (a := 83) (n := 0) rfl rfl rfl) ?_
  refine zn_get (v := .ref 59) rfl (zv_R (a := 39) rfl rfl) ?_
  refine zn_ld rfl rfl rfl ?_
  refine zn_c [.int 18738, .int (s.1 39 10), .ref 59] (xo_push (.int 18738)) rfl rfl ?_
  replace h := h _ (i_sub (x := s.1 39 10) (y := 18738) rfl (show (18738 : Int32).toInt = 18738 by decide))
  refine zn_c [.int ((s.1 39 10) - 18738), .ref 59] xo_isub rfl rfl ?_
  refine zn_ld rfl rfl rfl ?_
  refine zn_set ((s.1 39 10) - 18738) a1 [] (a := 59) hd rfl rfl rfl rfl ⟨Int32.le_toInt _, Int.le_of_lt_add_one (Int32.toInt_lt _)⟩ rfl rfl ?_
  replace h := h _ rfl
  refine zn_ld rfl rfl rfl ?_
  refine zn_get (v := .ref 39) rfl (zv_C (a := 83) (n := 0) rfl rfl rfl) ?_
  refine zn_ld rfl rfl rfl ?_
  refine zn_c [.int 1, .int (s.1 39 10), .ref 39] (xo_push (.int 1)) rfl rfl ?_
  replace h := h _ (i_add (x := s.1 39 10) (y := 1) rfl (show (1 : Int32).toInt = 1 by decide))
  refine zn_c [.int ((s.1 39 10) + 1), .ref 39] xo_iadd rfl rfl ?_
  refine zn_putI (a := 39) rfl rfl rfl rfl ⟨Int.le_trans (by decide) h.1.1, h.1.2⟩ rfl rfl rfl ?_ (hkl := Or.inr (Or.inl ⟨⟨by decide, rfl⟩, h.1.1⟩))
  replace h := h.2
  replace h := h _ rfl
  refine zn_ld rfl rfl rfl ?_
  refine zn_c [.int 1, .int a1] (xo_push (.int 1)) rfl rfl ?_
  replace h := h _ (i_add (x := a1) (y := 1) rfl (show (1 : Int32).toInt = 1 by decide))
  refine zn_c [.int (a1 + 1)] xo_iadd rfl rfl ?_
  refine zn_st [.ref 83, .int a1, .int a2, .int a3, .int a4, .int a5, .int (s.1 39 10), .int (a1 + 1), .null, .null, .null, .null] rfl rfl rfl ?_
  refine zn_c [.int 0] (xo_push (.int 0)) rfl rfl ?_
  refine zn_st [.ref 83, .int a1, .int a2, .int a3, .int a4, .int a5, .int (s.1 39 10), .int (a1 + 1), .int 0, .null, .null, .null] rfl rfl rfl ?_
  exact ml_132_79_39 hd  h
set_option maxRecDepth 20000 in
theorem m_132_28_39 {d d0 : Nat} (hd : d = d0 + 8)  {a1 : Int32} {a2 : Int32} {a3 : Int32} {a4 : Int32} {t0 : Int32} {s : zS} {Q : Option Value → zS → Prop}  (h : v_132_28 (fun j => Zt d (wd 39 j) j) 39  a1 a2 a3 a4 t0 s Q) : Zn d [] [(39, 98)] ([(83, 1, 39), (83, 2, 40), (75, 0, 39), (75, 1, 57), (75, 2, 61)] : zW) ([(83, 1, 39), (83, 2, 40), (75, 0, 39), (75, 1, 57), (75, 2, 61)] : zW) xL_10 9 (some .int) xE_132 (xE_132.drop 28) [.ref 83, .int a1, .int a2, .int a3, .int a4, .null, .null, .null, .null, .null, .null, .null] [.int t0] s Q := by
  unfold v_132_28 at h
  refine zn_st [.ref 83, .int a1, .int a2, .int a3, .int a4, .int t0, .null, .null, .null, .null, .null, .null] rfl rfl rfl ?_
  refine zn_ld rfl rfl rfl ?_
  refine zn_brP rfl rfl ⟨fun hcn => ?_, fun hcn => ?_⟩
  · replace h := h.1 ((i_le (x := 0) (y := a3) (show (0 : Int32).toInt = 0 by decide) rfl).mp hcn)
    refine zn_ld rfl rfl rfl ?_
    refine zn_ld rfl rfl rfl ?_
    refine zn_get (v := .ref 39) rfl (zv_C (a := 83) (n := 0) rfl rfl rfl) ?_
    refine zn_get (v := .ref 61) rfl (zv_R (a := 39) rfl rfl) ?_
    refine zn_ld rfl rfl rfl ?_
    refine zn_row a3 [.int t0] (a := 61) hd rfl rfl rfl rfl ?_
    change Zn _ _ _ _ _ _ _ _ _ _ _ [.int (zg s 61 a3), .int t0] _ _
    refine zn_brP rfl rfl ⟨fun hcn => ?_, fun hcn => ?_⟩
    · replace h := h.1 ((i_eq (x := t0) (y := zg s 61 a3) rfl rfl).mp hcn)
      exact m_132_49_39 hd  h
    · replace h := h.2 (fun q => hcn ((i_eq (x := t0) (y := zg s 61 a3) rfl rfl).mpr q))
      refine zn_ld rfl rfl rfl ?_
      refine zn_get (v := .ref 39) rfl (zv_C (a := 83) (n := 0) rfl rfl rfl) ?_
      refine zn_c [.int 4, .ref 39] (xo_push (.int 4)) rfl rfl ?_
      refine zn_ld rfl rfl rfl ?_
      refine zn_zt [.ref 39, .int 4, .int a1] [] rfl rfl rfl rfl rfl (Zt.imp h (fun v1 s2 h => ?_))
      obtain ⟨rfl, h⟩ := h
      change Zn _ _ _ _ _ _ _ _ _ _ _ [] _ _
      exact m_132_49_39 hd  h
  · replace h := h.2 (fun q => hcn ((i_le (x := 0) (y := a3) (show (0 : Int32).toInt = 0 by decide) rfl).mpr q))
    refine zn_ld rfl rfl rfl ?_
    refine zn_get (v := .ref 39) rfl (zv_C (a := 83) (n := 0) rfl rfl rfl) ?_
    refine zn_c [.int 2, .ref 39] (xo_push (.int 2)) rfl rfl ?_
    refine zn_ld rfl rfl rfl ?_
    refine zn_zt [.ref 39, .int 2, .int a1] [] rfl rfl rfl rfl rfl (Zt.imp h (fun v3 s4 h => ?_))
    obtain ⟨rfl, h⟩ := h
    change Zn _ _ _ _ _ _ _ _ _ _ _ [] _ _
    refine zn_go rfl ?_
    exact m_132_49_39 hd  h
set_option maxRecDepth 20000 in
theorem m_132_16_39 {d d0 : Nat} (hd : d = d0 + 8)  {a1 : Int32} {a2 : Int32} {a3 : Int32} {t0 : Int32} {s : zS} {Q : Option Value → zS → Prop}  (h : v_132_16 (fun j => Zt d (wd 39 j) j) 39  a1 a2 a3 t0 s Q) : Zn d [] [(39, 98)] ([(83, 1, 39), (83, 2, 40), (75, 0, 39), (75, 1, 57), (75, 2, 61)] : zW) ([(83, 1, 39), (83, 2, 40), (75, 0, 39), (75, 1, 57), (75, 2, 61)] : zW) xL_10 9 (some .int) xE_132 (xE_132.drop 16) [.ref 83, .int a1, .int a2, .int a3, .null, .null, .null, .null, .null, .null, .null, .null] [.int t0] s Q := by
  unfold v_132_16 at h
  refine zn_st [.ref 83, .int a1, .int a2, .int a3, .int t0, .null, .null, .null, .null, .null, .null, .null] rfl rfl rfl ?_
  refine zn_ld rfl rfl rfl ?_
  refine zn_brP rfl rfl ⟨fun hcn => ?_, fun hcn => ?_⟩
  · replace h := h.1 ((i_eq (x := t0) (y := 0) rfl (show (0 : Int32).toInt = 0 by decide)).mp hcn)
    refine zn_c [.int 0] (xo_push (.int 0)) rfl rfl ?_
    exact m_132_28_39 hd  h
  · replace h := h.2 (fun q => hcn ((i_eq (x := t0) (y := 0) rfl (show (0 : Int32).toInt = 0 by decide)).mpr q))
    refine zn_ld rfl rfl rfl ?_
    refine zn_get (v := .ref 40) rfl (zv_C (a := 83) (n := 1) rfl rfl rfl) ?_
    refine zn_get (v := .ref 51) rfl (zv_R (a := 40) rfl rfl) ?_
    refine zn_ld rfl rfl rfl ?_
    refine zn_c [.int 1, .int a1, .ref 51] (xo_push (.int 1)) rfl rfl ?_
    replace h := h _ (i_add (x := a1) (y := 1) rfl (show (1 : Int32).toInt = 1 by decide))
    refine zn_c [.int (a1 + 1), .ref 51] xo_iadd rfl rfl ?_
    refine zn_row (a1 + 1) [] (a := 51) hd rfl rfl rfl rfl ?_
    change Zn _ _ _ _ _ _ _ _ _ _ _ [.int (zg s 51 (a1 + 1))] _ _
    refine zn_go rfl ?_
    exact m_132_28_39 hd  h
set_option maxRecDepth 20000 in
theorem m_132_0_39 {d d0 : Nat} (hd : d = d0 + 8)  {a1 : Int32} {a2 : Int32} {s : zS} {Q : Option Value → zS → Prop}  (h : v_132_0 (fun j => Zt d (wd 39 j) j) 39  a1 a2 s Q) : Zn d [] [(39, 98)] ([(83, 1, 39), (83, 2, 40), (75, 0, 39), (75, 1, 57), (75, 2, 61)] : zW) ([(83, 1, 39), (83, 2, 40), (75, 0, 39), (75, 1, 57), (75, 2, 61)] : zW) xL_10 9 (some .int) xE_132 (xE_132.drop 0) [.ref 83, .int a1, .int a2, .null, .null, .null, .null, .null, .null, .null, .null, .null] [] s Q := by
  unfold v_132_0 at h
  refine zn_ld rfl rfl rfl ?_
  refine zn_ld rfl rfl rfl ?_
  refine zn_zt [.ref 83, .int a1] [] rfl rfl rfl rfl rfl (Zt.imp h (fun v1 s2 h => ?_))
  obtain ⟨x3, rfl, h⟩ := h
  change Zn _ _ _ _ _ _ _ _ _ _ _ [.int x3] _ _
  refine zn_st [.ref 83, .int a1, .int a2, .int x3, .null, .null, .null, .null, .null, .null, .null, .null] rfl rfl rfl ?_
  refine zn_ld rfl rfl rfl ?_
  refine zn_get (v := .ref 40) rfl (zv_C (a := 83) (n := 1) rfl rfl rfl) ?_
  refine zn_get (v := .ref 43) rfl (zv_R (a := 40) rfl rfl) ?_
  refine zn_ld rfl rfl rfl ?_
  refine zn_c [.int 1, .int a1, .ref 43] (xo_push (.int 1)) rfl rfl ?_
  replace h := h _ (i_add (x := a1) (y := 1) rfl (show (1 : Int32).toInt = 1 by decide))
  refine zn_c [.int (a1 + 1), .ref 43] xo_iadd rfl rfl ?_
  refine zn_row (a1 + 1) [] (a := 43) hd rfl rfl rfl rfl ?_
  change Zn _ _ _ _ _ _ _ _ _ _ _ [.int (zg s2 43 (a1 + 1))] _ _
  refine zn_c [.int 91, .int (zg s2 43 (a1 + 1))] (xo_push (.int 91)) rfl rfl ?_
  refine zn_brN rfl rfl ⟨fun hcn => ?_, fun hcn => ?_⟩
  · replace h := h.1 (fun q => hcn ((i_eq (x := zg s2 43 (a1 + 1)) (y := 91) rfl (show (91 : Int32).toInt = 91 by decide)).mpr q))
    refine zn_c [.int 0] (xo_push (.int 0)) rfl rfl ?_
    exact m_132_16_39 hd  h
  · replace h := h.2 ((i_eq (x := zg s2 43 (a1 + 1)) (y := 91) rfl (show (91 : Int32).toInt = 91 by decide)).mp hcn)
    refine zn_c [.int 1] (xo_push (.int 1)) rfl rfl ?_
    refine zn_go rfl ?_
    exact m_132_16_39 hd  h
theorem zq_132_39 {d : Nat} {a1 : Int32} {a2 : Int32} {s : zS} {Q : Option Value → zS → Prop} (h : v_132_0 (fun j => Zt (d + 8) (wd 39 j) j) 39 a1 a2 s Q) : Zt (d + 9) ([(83, 1, 39), (83, 2, 40), (75, 0, 39), (75, 1, 57), (75, 2, 61)] : zW) 132 [.ref 83, .int a1, .int a2] s Q := zt_of (E := xE_132) (L := xL_10) (ml := 9) (ret := some .int) rfl rfl rfl (m_132_0_39 rfl h)
theorem zc_132 {d P : Nat} (hP : P = 3 ∨ P = 39) {a1 : Int32} {a2 : Int32} {s : zS} {Q : Option Value → zS → Prop} (h : v_132_0 (fun j => Zt (d + 8) (wd P j) j) P a1 a2 s Q) : Zt (d + 9) (wd P 132) 132 [.ref 83, .int a1, .int a2] s Q := by
  rcases hP with rfl | rfl
  · exact zq_132_3 h
  · exact zq_132_39 h
/-! FeatherBench$Told.codeOf -/
def v_133_62 (T : Nat → List Value → zS → (Option Value → zS → Prop) → Prop) (P : Nat) (R62 : Int32 → Int32 → Int32 → Int32 → Int32 → zS → Prop) (a1 : Int32) (a2 : Int32) (a3 : Int32) (a4 : Int32) (a5 : Int32) (s : zS) (Q : Option Value → zS → Prop) : Prop :=
  (a4.toInt ≤ a5.toInt → T 51 [.ref P, .ref (P + 1), .int a1] s (fun v1 s2 => ∃ x3, v1 = some (.int x3) ∧ (Q (some (.int x3)) s2))) ∧ (¬ (a4.toInt ≤ a5.toInt) → ∀ x4 : Int32, (-2147483648 ≤ (s.1 75 5).toInt + a5.toInt ∧ (s.1 75 5).toInt + a5.toInt ≤ 2147483647 → x4.toInt = (s.1 75 5).toInt + a5.toInt) → (¬ ((zg s (P + 10) (zg s (P + 30) (x4 * 5 + 0))).toInt = a2.toInt) → ∀ x6 : Int32, (-2147483648 ≤ a5.toInt + 1 ∧ a5.toInt + 1 ≤ 2147483647 → x6.toInt = a5.toInt + 1) → R62 a1 a2 a3 a4 x6 s) ∧ ((zg s (P + 10) (zg s (P + 30) (x4 * 5 + 0))).toInt = a2.toInt → ∀ x7 : Int32, (-2147483648 ≤ 24 + a5.toInt ∧ 24 + a5.toInt ≤ 2147483647 → x7.toInt = 24 + a5.toInt) → Q (some (.int x7)) s))
def vl_133_62 (T : Nat → List Value → zS → (Option Value → zS → Prop) → Prop) (P : Nat)  (a1 : Int32) (a2 : Int32) (a3 : Int32) (a4 : Int32) (a5 : Int32) (s : zS) (Q : Option Value → zS → Prop) : Prop :=
  ∃ (I : Int32 → Int32 → Int32 → Int32 → Int32 → zS → Prop) (μ : Int32 → Int32 → Int32 → Int32 → Int32 → zS → Nat), I a1 a2 a3 a4 a5 s ∧ ∀ (a1 : Int32) (a2 : Int32) (a3 : Int32) (a4 : Int32) (a5 : Int32) (s : zS), I a1 a2 a3 a4 a5 s → v_133_62 T P (fun a1' a2' a3' a4' a5' s' => I a1' a2' a3' a4' a5' s' ∧ μ a1' a2' a3' a4' a5' s' < μ a1 a2 a3 a4 a5 s) a1 a2 a3 a4 a5 s Q
def v_133_30 (T : Nat → List Value → zS → (Option Value → zS → Prop) → Prop) (P : Nat) (R30 : Int32 → Int32 → Int32 → Int32 → Int32 → zS → Prop) (a1 : Int32) (a2 : Int32) (a3 : Int32) (a4 : Int32) (a5 : Int32) (s : zS) (Q : Option Value → zS → Prop) : Prop :=
  (a4.toInt ≤ a5.toInt → vl_133_62 T P  a1 a2 a3 (zg s (P + 22) (s.1 75 4)) 0 s Q) ∧ (¬ (a4.toInt ≤ a5.toInt) → ∀ x1 : Int32, (-2147483648 ≤ a3.toInt + a5.toInt ∧ a3.toInt + a5.toInt ≤ 2147483647 → x1.toInt = a3.toInt + a5.toInt) → (¬ ((zg s (P + 10) (zg s (P + 30) (x1 * 5 + 0))).toInt = a2.toInt) → ∀ x3 : Int32, (-2147483648 ≤ a5.toInt + 1 ∧ a5.toInt + 1 ≤ 2147483647 → x3.toInt = a5.toInt + 1) → R30 a1 a2 a3 a4 x3 s) ∧ ((zg s (P + 10) (zg s (P + 30) (x1 * 5 + 0))).toInt = a2.toInt → ∀ x4 : Int32, (-2147483648 ≤ 30 + a5.toInt ∧ 30 + a5.toInt ≤ 2147483647 → x4.toInt = 30 + a5.toInt) → Q (some (.int x4)) s))
def vl_133_30 (T : Nat → List Value → zS → (Option Value → zS → Prop) → Prop) (P : Nat)  (a1 : Int32) (a2 : Int32) (a3 : Int32) (a4 : Int32) (a5 : Int32) (s : zS) (Q : Option Value → zS → Prop) : Prop :=
  ∃ (I : Int32 → Int32 → Int32 → Int32 → Int32 → zS → Prop) (μ : Int32 → Int32 → Int32 → Int32 → Int32 → zS → Nat), I a1 a2 a3 a4 a5 s ∧ ∀ (a1 : Int32) (a2 : Int32) (a3 : Int32) (a4 : Int32) (a5 : Int32) (s : zS), I a1 a2 a3 a4 a5 s → v_133_30 T P (fun a1' a2' a3' a4' a5' s' => I a1' a2' a3' a4' a5' s' ∧ μ a1' a2' a3' a4' a5' s' < μ a1 a2 a3 a4 a5 s) a1 a2 a3 a4 a5 s Q
def v_133_27 (T : Nat → List Value → zS → (Option Value → zS → Prop) → Prop) (P : Nat)  (a1 : Int32) (a2 : Int32) (a3 : Int32) (t0 : Int32) (s : zS) (Q : Option Value → zS → Prop) : Prop :=
  vl_133_30 T P  a1 a2 a3 t0 0 s Q
def v_133_0 (T : Nat → List Value → zS → (Option Value → zS → Prop) → Prop) (P : Nat)  (a1 : Int32) (s : zS) (Q : Option Value → zS → Prop) : Prop :=
  (0 ≤ (s.1 75 6).toInt → v_133_27 T P  a1 (zg s (P + 10) a1) (zg s (P + 28) ((s.1 75 6) * 5 + 2)) (zg s (P + 28) ((s.1 75 6) * 5 + 3)) s Q) ∧ (¬ (0 ≤ (s.1 75 6).toInt) → v_133_27 T P  a1 (zg s (P + 10) a1) (zg s (P + 28) ((s.1 75 6) * 5 + 2)) 0 s Q)
set_option maxRecDepth 20000 in
theorem m_133_62_3 {d d0 : Nat} (hd : d = d0 + 8) {R62 : Int32 → Int32 → Int32 → Int32 → Int32 → zS → Prop} {a1 : Int32} {a2 : Int32} {a3 : Int32} {a4 : Int32} {a5 : Int32} {s : zS} {Q : Option Value → zS → Prop} (r62 : ∀ a1 a2 a3 a4 a5 s, R62 a1 a2 a3 a4 a5 s → Zn d [] [] ([(83, 1, 3), (83, 2, 4), (75, 0, 3), (75, 1, 21), (75, 2, 25)] : zW) ([(83, 1, 3), (83, 2, 4), (75, 0, 3), (75, 1, 21), (75, 2, 25)] : zW) xL_10 6 (some .int) xE_133 (xE_133.drop 62) [.ref 83, .int a1, .int a2, .int a3, .int a4, .int a5, .null, .null] [] s Q) (h : v_133_62 (fun j => Zt d (wd 3 j) j) 3 R62 a1 a2 a3 a4 a5 s Q) : Zn d [] [] ([(83, 1, 3), (83, 2, 4), (75, 0, 3), (75, 1, 21), (75, 2, 25)] : zW) ([(83, 1, 3), (83, 2, 4), (75, 0, 3), (75, 1, 21), (75, 2, 25)] : zW) xL_10 6 (some .int) xE_133 (xE_133.drop 62) [.ref 83, .int a1, .int a2, .int a3, .int a4, .int a5, .null, .null] [] s Q := by
  unfold v_133_62 at h
  refine zn_ld rfl rfl rfl ?_
  refine zn_ld rfl rfl rfl ?_
  refine zn_brP rfl rfl ⟨fun hcn => ?_, fun hcn => ?_⟩
  · replace h := h.1 ((i_le (x := a4) (y := a5) rfl rfl).mp hcn)
    refine zn_ld rfl rfl rfl ?_
    refine zn_get (v := .ref 3) rfl (zv_C (a := 83) (n := 0) rfl rfl rfl) ?_
    refine zn_ld rfl rfl rfl ?_
    refine zn_get (v := .ref 4) rfl (zv_C (a := 83) (n := 1) rfl rfl rfl) ?_
    refine zn_ld rfl rfl rfl ?_
    refine zn_zt [.ref 3, .ref 4, .int a1] [] rfl rfl rfl rfl rfl (Zt.imp h (fun v1 s2 h => ?_))
    obtain ⟨x3, rfl, h⟩ := h
    change Zn _ _ _ _ _ _ _ _ _ _ _ [.int x3] _ _
    exact zn_retI rfl h
  · replace h := h.2 (fun q => hcn ((i_le (x := a4) (y := a5) rfl rfl).mpr q))
    refine zn_ld rfl rfl rfl ?_
    refine zn_get (v := .ref 4) rfl (zv_C (a := 83) (n := 1) rfl rfl rfl) ?_
    refine zn_get (v := .ref 13) rfl (zv_R (a := 4) rfl rfl) ?_
    refine zn_ld rfl rfl rfl ?_
    refine zn_get (v := .ref 3) rfl (zv_C (a := 83) (n := 0) rfl rfl rfl) ?_
    refine zn_ld rfl rfl rfl ?_
    refine zn_get (v := .ref 75) rfl (zv_R (a := 83) rfl rfl) ?_
    refine zn_get (v := .int (s.1 75 5)) rfl (zv_I (a := 75) rfl rfl) ?_
    refine zn_ld rfl rfl rfl ?_
    replace h := h _ (i_add (x := s.1 75 5) (y := a5) rfl rfl)
    refine zn_c [.int ((s.1 75 5) + a5), .ref 3, .ref 13] xo_iadd rfl rfl ?_
    refine zn_c [.int 0, .int ((s.1 75 5) + a5), .ref 3, .ref 13] (xo_push (.int 0)) rfl rfl ?_
    refine zn_zt [.ref 3, .int ((s.1 75 5) + a5), .int 0] [.ref 13] (c := []) rfl rfl rfl rfl rfl (Zt.imp (zp_42 hd (Or.inl rfl)) (fun vq sq hq => ?_))
    obtain ⟨rfl, hq⟩ := hq
    rw [hq]
    change Zn _ _ _ _ _ _ _ _ _ _ _ [.int (zg s 33 (((s.1 75 5) + a5) * 5 + 0)), .ref 13] _ _
    refine zn_row (zg s 33 (((s.1 75 5) + a5) * 5 + 0)) [] (a := 13) hd rfl rfl rfl rfl ?_
    change Zn _ _ _ _ _ _ _ _ _ _ _ [.int (zg s 13 (zg s 33 (((s.1 75 5) + a5) * 5 + 0)))] _ _
    refine zn_ld rfl rfl rfl ?_
    refine zn_brN rfl rfl ⟨fun hcn => ?_, fun hcn => ?_⟩
    · replace h := h.1 (fun q => hcn ((i_eq (x := zg s 13 (zg s 33 (((s.1 75 5) + a5) * 5 + 0))) (y := a2) rfl rfl).mpr q))
      replace h := h _ (i_add (x := a5) (y := 1) rfl (show (1 : Int32).toInt = 1 by decide))
      refine zn_inc [.ref 83, .int a1, .int a2, .int a3, .int a4, .int (a5 + 1), .null, .null] rfl rfl rfl rfl ?_
      refine zn_go rfl ?_
      exact r62 a1 a2 a3 a4 (a5 + 1) s h
    · replace h := h.2 ((i_eq (x := zg s 13 (zg s 33 (((s.1 75 5) + a5) * 5 + 0))) (y := a2) rfl rfl).mp hcn)
      refine zn_c [.int 24] (xo_push (.int 24)) rfl rfl ?_
      refine zn_ld rfl rfl rfl ?_
      replace h := h _ (i_add (x := 24) (y := a5) (show (24 : Int32).toInt = 24 by decide) rfl)
      refine zn_c [.int (24 + a5)] xo_iadd rfl rfl ?_
      exact zn_retI rfl h
theorem ml_133_62_3 {d d0 : Nat} (hd : d = d0 + 8)  {a1 : Int32} {a2 : Int32} {a3 : Int32} {a4 : Int32} {a5 : Int32} {s : zS} {Q : Option Value → zS → Prop}  (h : vl_133_62 (fun j => Zt d (wd 3 j) j) 3  a1 a2 a3 a4 a5 s Q) : Zn d [] [] ([(83, 1, 3), (83, 2, 4), (75, 0, 3), (75, 1, 21), (75, 2, 25)] : zW) ([(83, 1, 3), (83, 2, 4), (75, 0, 3), (75, 1, 21), (75, 2, 25)] : zW) xL_10 6 (some .int) xE_133 (xE_133.drop 62) [.ref 83, .int a1, .int a2, .int a3, .int a4, .int a5, .null, .null] [] s Q := by
  obtain ⟨I, μ, h0, h1⟩ := h
  have key : ∀ (n : Nat) (a1 : Int32) (a2 : Int32) (a3 : Int32) (a4 : Int32) (a5 : Int32) (s : zS), μ a1 a2 a3 a4 a5 s = n → I a1 a2 a3 a4 a5 s → Zn d [] [] ([(83, 1, 3), (83, 2, 4), (75, 0, 3), (75, 1, 21), (75, 2, 25)] : zW) ([(83, 1, 3), (83, 2, 4), (75, 0, 3), (75, 1, 21), (75, 2, 25)] : zW) xL_10 6 (some .int) xE_133 (xE_133.drop 62) [.ref 83, .int a1, .int a2, .int a3, .int a4, .int a5, .null, .null] [] s Q := by
    intro n
    induction n using Nat.strongRecOn with
    | ind n ih =>
      intro a1 a2 a3 a4 a5 s e hI
      exact m_133_62_3 hd (fun a1' a2' a3' a4' a5' s' q => ih _ (by rw [← e]; exact q.2) a1' a2' a3' a4' a5' s' rfl q.1) (h1 a1 a2 a3 a4 a5 s hI)
  exact key _ a1 a2 a3 a4 a5 s rfl h0
set_option maxRecDepth 20000 in
theorem m_133_30_3 {d d0 : Nat} (hd : d = d0 + 8) {R30 : Int32 → Int32 → Int32 → Int32 → Int32 → zS → Prop} {a1 : Int32} {a2 : Int32} {a3 : Int32} {a4 : Int32} {a5 : Int32} {s : zS} {Q : Option Value → zS → Prop} (r30 : ∀ a1 a2 a3 a4 a5 s, R30 a1 a2 a3 a4 a5 s → Zn d [] [] ([(83, 1, 3), (83, 2, 4), (75, 0, 3), (75, 1, 21), (75, 2, 25)] : zW) ([(83, 1, 3), (83, 2, 4), (75, 0, 3), (75, 1, 21), (75, 2, 25)] : zW) xL_10 6 (some .int) xE_133 (xE_133.drop 30) [.ref 83, .int a1, .int a2, .int a3, .int a4, .int a5, .null, .null] [] s Q) (h : v_133_30 (fun j => Zt d (wd 3 j) j) 3 R30 a1 a2 a3 a4 a5 s Q) : Zn d [] [] ([(83, 1, 3), (83, 2, 4), (75, 0, 3), (75, 1, 21), (75, 2, 25)] : zW) ([(83, 1, 3), (83, 2, 4), (75, 0, 3), (75, 1, 21), (75, 2, 25)] : zW) xL_10 6 (some .int) xE_133 (xE_133.drop 30) [.ref 83, .int a1, .int a2, .int a3, .int a4, .int a5, .null, .null] [] s Q := by
  unfold v_133_30 at h
  refine zn_ld rfl rfl rfl ?_
  refine zn_ld rfl rfl rfl ?_
  refine zn_brP rfl rfl ⟨fun hcn => ?_, fun hcn => ?_⟩
  · replace h := h.1 ((i_le (x := a4) (y := a5) rfl rfl).mp hcn)
    refine zn_ld rfl rfl rfl ?_
    refine zn_get (v := .ref 3) rfl (zv_C (a := 83) (n := 0) rfl rfl rfl) ?_
    refine zn_get (v := .ref 25) rfl (zv_R (a := 3) rfl rfl) ?_
    refine zn_ld rfl rfl rfl ?_
    refine zn_get (v := .ref 75) rfl (zv_R (a := 83) rfl rfl) ?_
    refine zn_get (v := .int (s.1 75 4)) rfl (zv_I (a := 75) rfl rfl) ?_
    refine zn_row (s.1 75 4) [] (a := 25) hd rfl rfl rfl rfl ?_
    change Zn _ _ _ _ _ _ _ _ _ _ _ [.int (zg s 25 (s.1 75 4))] _ _
    refine zn_st [.ref 83, .int a1, .int a2, .int a3, .int (zg s 25 (s.1 75 4)), .int a5, .null, .null] rfl rfl rfl ?_
    refine zn_c [.int 0] (xo_push (.int 0)) rfl rfl ?_
    refine zn_st [.ref 83, .int a1, .int a2, .int a3, .int (zg s 25 (s.1 75 4)), .int 0, .null, .null] rfl rfl rfl ?_
    exact ml_133_62_3 hd  h
  · replace h := h.2 (fun q => hcn ((i_le (x := a4) (y := a5) rfl rfl).mpr q))
    refine zn_ld rfl rfl rfl ?_
    refine zn_get (v := .ref 4) rfl (zv_C (a := 83) (n := 1) rfl rfl rfl) ?_
    refine zn_get (v := .ref 13) rfl (zv_R (a := 4) rfl rfl) ?_
    refine zn_ld rfl rfl rfl ?_
    refine zn_get (v := .ref 3) rfl (zv_C (a := 83) (n := 0) rfl rfl rfl) ?_
    refine zn_ld rfl rfl rfl ?_
    refine zn_ld rfl rfl rfl ?_
    replace h := h _ (i_add (x := a3) (y := a5) rfl rfl)
    refine zn_c [.int (a3 + a5), .ref 3, .ref 13] xo_iadd rfl rfl ?_
    refine zn_c [.int 0, .int (a3 + a5), .ref 3, .ref 13] (xo_push (.int 0)) rfl rfl ?_
    refine zn_zt [.ref 3, .int (a3 + a5), .int 0] [.ref 13] (c := []) rfl rfl rfl rfl rfl (Zt.imp (zp_42 hd (Or.inl rfl)) (fun vq sq hq => ?_))
    obtain ⟨rfl, hq⟩ := hq
    rw [hq]
    change Zn _ _ _ _ _ _ _ _ _ _ _ [.int (zg s 33 ((a3 + a5) * 5 + 0)), .ref 13] _ _
    refine zn_row (zg s 33 ((a3 + a5) * 5 + 0)) [] (a := 13) hd rfl rfl rfl rfl ?_
    change Zn _ _ _ _ _ _ _ _ _ _ _ [.int (zg s 13 (zg s 33 ((a3 + a5) * 5 + 0)))] _ _
    refine zn_ld rfl rfl rfl ?_
    refine zn_brN rfl rfl ⟨fun hcn => ?_, fun hcn => ?_⟩
    · replace h := h.1 (fun q => hcn ((i_eq (x := zg s 13 (zg s 33 ((a3 + a5) * 5 + 0))) (y := a2) rfl rfl).mpr q))
      replace h := h _ (i_add (x := a5) (y := 1) rfl (show (1 : Int32).toInt = 1 by decide))
      refine zn_inc [.ref 83, .int a1, .int a2, .int a3, .int a4, .int (a5 + 1), .null, .null] rfl rfl rfl rfl ?_
      refine zn_go rfl ?_
      exact r30 a1 a2 a3 a4 (a5 + 1) s h
    · replace h := h.2 ((i_eq (x := zg s 13 (zg s 33 ((a3 + a5) * 5 + 0))) (y := a2) rfl rfl).mp hcn)
      refine zn_c [.int 30] (xo_push (.int 30)) rfl rfl ?_
      refine zn_ld rfl rfl rfl ?_
      replace h := h _ (i_add (x := 30) (y := a5) (show (30 : Int32).toInt = 30 by decide) rfl)
      refine zn_c [.int (30 + a5)] xo_iadd rfl rfl ?_
      exact zn_retI rfl h
theorem ml_133_30_3 {d d0 : Nat} (hd : d = d0 + 8)  {a1 : Int32} {a2 : Int32} {a3 : Int32} {a4 : Int32} {a5 : Int32} {s : zS} {Q : Option Value → zS → Prop}  (h : vl_133_30 (fun j => Zt d (wd 3 j) j) 3  a1 a2 a3 a4 a5 s Q) : Zn d [] [] ([(83, 1, 3), (83, 2, 4), (75, 0, 3), (75, 1, 21), (75, 2, 25)] : zW) ([(83, 1, 3), (83, 2, 4), (75, 0, 3), (75, 1, 21), (75, 2, 25)] : zW) xL_10 6 (some .int) xE_133 (xE_133.drop 30) [.ref 83, .int a1, .int a2, .int a3, .int a4, .int a5, .null, .null] [] s Q := by
  obtain ⟨I, μ, h0, h1⟩ := h
  have key : ∀ (n : Nat) (a1 : Int32) (a2 : Int32) (a3 : Int32) (a4 : Int32) (a5 : Int32) (s : zS), μ a1 a2 a3 a4 a5 s = n → I a1 a2 a3 a4 a5 s → Zn d [] [] ([(83, 1, 3), (83, 2, 4), (75, 0, 3), (75, 1, 21), (75, 2, 25)] : zW) ([(83, 1, 3), (83, 2, 4), (75, 0, 3), (75, 1, 21), (75, 2, 25)] : zW) xL_10 6 (some .int) xE_133 (xE_133.drop 30) [.ref 83, .int a1, .int a2, .int a3, .int a4, .int a5, .null, .null] [] s Q := by
    intro n
    induction n using Nat.strongRecOn with
    | ind n ih =>
      intro a1 a2 a3 a4 a5 s e hI
      exact m_133_30_3 hd (fun a1' a2' a3' a4' a5' s' q => ih _ (by rw [← e]; exact q.2) a1' a2' a3' a4' a5' s' rfl q.1) (h1 a1 a2 a3 a4 a5 s hI)
  exact key _ a1 a2 a3 a4 a5 s rfl h0
set_option maxRecDepth 20000 in
theorem m_133_27_3 {d d0 : Nat} (hd : d = d0 + 8)  {a1 : Int32} {a2 : Int32} {a3 : Int32} {t0 : Int32} {s : zS} {Q : Option Value → zS → Prop}  (h : v_133_27 (fun j => Zt d (wd 3 j) j) 3  a1 a2 a3 t0 s Q) : Zn d [] [] ([(83, 1, 3), (83, 2, 4), (75, 0, 3), (75, 1, 21), (75, 2, 25)] : zW) ([(83, 1, 3), (83, 2, 4), (75, 0, 3), (75, 1, 21), (75, 2, 25)] : zW) xL_10 6 (some .int) xE_133 (xE_133.drop 27) [.ref 83, .int a1, .int a2, .int a3, .null, .null, .null, .null] [.int t0] s Q := by
  unfold v_133_27 at h
  refine zn_st [.ref 83, .int a1, .int a2, .int a3, .int t0, .null, .null, .null] rfl rfl rfl ?_
  refine zn_c [.int 0] (xo_push (.int 0)) rfl rfl ?_
  refine zn_st [.ref 83, .int a1, .int a2, .int a3, .int t0, .int 0, .null, .null] rfl rfl rfl ?_
  exact ml_133_30_3 hd  h
set_option maxRecDepth 20000 in
theorem m_133_0_3 {d d0 : Nat} (hd : d = d0 + 8)  {a1 : Int32} {s : zS} {Q : Option Value → zS → Prop}  (h : v_133_0 (fun j => Zt d (wd 3 j) j) 3  a1 s Q) : Zn d [] [] ([(83, 1, 3), (83, 2, 4), (75, 0, 3), (75, 1, 21), (75, 2, 25)] : zW) ([(83, 1, 3), (83, 2, 4), (75, 0, 3), (75, 1, 21), (75, 2, 25)] : zW) xL_10 6 (some .int) xE_133 (xE_133.drop 0) [.ref 83, .int a1, .null, .null, .null, .null, .null, .null] [] s Q := by
  unfold v_133_0 at h
  refine zn_ld rfl rfl rfl ?_
  refine zn_get (v := .ref 4) rfl (zv_C (a := 83) (n := 1) rfl rfl rfl) ?_
  refine zn_get (v := .ref 13) rfl (zv_R (a := 4) rfl rfl) ?_
  refine zn_ld rfl rfl rfl ?_
  refine zn_row a1 [] (a := 13) hd rfl rfl rfl rfl ?_
  change Zn _ _ _ _ _ _ _ _ _ _ _ [.int (zg s 13 a1)] _ _
  refine zn_st [.ref 83, .int a1, .int (zg s 13 a1), .null, .null, .null, .null, .null] rfl rfl rfl ?_
  refine zn_ld rfl rfl rfl ?_
  refine zn_get (v := .ref 3) rfl (zv_C (a := 83) (n := 0) rfl rfl rfl) ?_
  refine zn_ld rfl rfl rfl ?_
  refine zn_get (v := .ref 75) rfl (zv_R (a := 83) rfl rfl) ?_
  refine zn_get (v := .int (s.1 75 6)) rfl (zv_I (a := 75) rfl rfl) ?_
  refine zn_c [.int 2, .int (s.1 75 6), .ref 3] (xo_push (.int 2)) rfl rfl ?_
  refine zn_zt [.ref 3, .int (s.1 75 6), .int 2] [] (c := []) rfl rfl rfl rfl rfl (Zt.imp (zp_41 hd (Or.inl rfl)) (fun vq sq hq => ?_))
  obtain ⟨rfl, hq⟩ := hq
  rw [hq]
  change Zn _ _ _ _ _ _ _ _ _ _ _ [.int (zg s 31 ((s.1 75 6) * 5 + 2))] _ _
  refine zn_st [.ref 83, .int a1, .int (zg s 13 a1), .int (zg s 31 ((s.1 75 6) * 5 + 2)), .null, .null, .null, .null] rfl rfl rfl ?_
  refine zn_ld rfl rfl rfl ?_
  refine zn_get (v := .ref 75) rfl (zv_R (a := 83) rfl rfl) ?_
  refine zn_get (v := .int (s.1 75 6)) rfl (zv_I (a := 75) rfl rfl) ?_
  refine zn_brP rfl rfl ⟨fun hcn => ?_, fun hcn => ?_⟩
  · replace h := h.1 ((i_le (x := 0) (y := s.1 75 6) (show (0 : Int32).toInt = 0 by decide) rfl).mp hcn)
    refine zn_ld rfl rfl rfl ?_
    refine zn_get (v := .ref 3) rfl (zv_C (a := 83) (n := 0) rfl rfl rfl) ?_
    refine zn_ld rfl rfl rfl ?_
    refine zn_get (v := .ref 75) rfl (zv_R (a := 83) rfl rfl) ?_
    refine zn_get (v := .int (s.1 75 6)) rfl (zv_I (a := 75) rfl rfl) ?_
    refine zn_c [.int 3, .int (s.1 75 6), .ref 3] (xo_push (.int 3)) rfl rfl ?_
    refine zn_zt [.ref 3, .int (s.1 75 6), .int 3] [] (c := []) rfl rfl rfl rfl rfl (Zt.imp (zp_41 hd (Or.inl rfl)) (fun vq sq hq => ?_))
    obtain ⟨rfl, hq⟩ := hq
    rw [hq]
    change Zn _ _ _ _ _ _ _ _ _ _ _ [.int (zg s 31 ((s.1 75 6) * 5 + 3))] _ _
    exact m_133_27_3 hd  h
  · replace h := h.2 (fun q => hcn ((i_le (x := 0) (y := s.1 75 6) (show (0 : Int32).toInt = 0 by decide) rfl).mpr q))
    refine zn_c [.int 0] (xo_push (.int 0)) rfl rfl ?_
    refine zn_go rfl ?_
    exact m_133_27_3 hd  h
theorem zq_133_3 {d : Nat} {a1 : Int32} {s : zS} {Q : Option Value → zS → Prop} (h : v_133_0 (fun j => Zt (d + 8) (wd 3 j) j) 3 a1 s Q) : Zt (d + 9) ([(83, 1, 3), (83, 2, 4), (75, 0, 3), (75, 1, 21), (75, 2, 25)] : zW) 133 [.ref 83, .int a1] s Q := zt_of (E := xE_133) (L := xL_10) (ml := 6) (ret := some .int) rfl rfl rfl (m_133_0_3 rfl h)
set_option maxRecDepth 20000 in
theorem m_133_62_39 {d d0 : Nat} (hd : d = d0 + 8) {R62 : Int32 → Int32 → Int32 → Int32 → Int32 → zS → Prop} {a1 : Int32} {a2 : Int32} {a3 : Int32} {a4 : Int32} {a5 : Int32} {s : zS} {Q : Option Value → zS → Prop} (r62 : ∀ a1 a2 a3 a4 a5 s, R62 a1 a2 a3 a4 a5 s → Zn d [] [] ([(83, 1, 39), (83, 2, 40), (75, 0, 39), (75, 1, 57), (75, 2, 61)] : zW) ([(83, 1, 39), (83, 2, 40), (75, 0, 39), (75, 1, 57), (75, 2, 61)] : zW) xL_10 6 (some .int) xE_133 (xE_133.drop 62) [.ref 83, .int a1, .int a2, .int a3, .int a4, .int a5, .null, .null] [] s Q) (h : v_133_62 (fun j => Zt d (wd 39 j) j) 39 R62 a1 a2 a3 a4 a5 s Q) : Zn d [] [] ([(83, 1, 39), (83, 2, 40), (75, 0, 39), (75, 1, 57), (75, 2, 61)] : zW) ([(83, 1, 39), (83, 2, 40), (75, 0, 39), (75, 1, 57), (75, 2, 61)] : zW) xL_10 6 (some .int) xE_133 (xE_133.drop 62) [.ref 83, .int a1, .int a2, .int a3, .int a4, .int a5, .null, .null] [] s Q := by
  unfold v_133_62 at h
  refine zn_ld rfl rfl rfl ?_
  refine zn_ld rfl rfl rfl ?_
  refine zn_brP rfl rfl ⟨fun hcn => ?_, fun hcn => ?_⟩
  · replace h := h.1 ((i_le (x := a4) (y := a5) rfl rfl).mp hcn)
    refine zn_ld rfl rfl rfl ?_
    refine zn_get (v := .ref 39) rfl (zv_C (a := 83) (n := 0) rfl rfl rfl) ?_
    refine zn_ld rfl rfl rfl ?_
    refine zn_get (v := .ref 40) rfl (zv_C (a := 83) (n := 1) rfl rfl rfl) ?_
    refine zn_ld rfl rfl rfl ?_
    refine zn_zt [.ref 39, .ref 40, .int a1] [] rfl rfl rfl rfl rfl (Zt.imp h (fun v1 s2 h => ?_))
    obtain ⟨x3, rfl, h⟩ := h
    change Zn _ _ _ _ _ _ _ _ _ _ _ [.int x3] _ _
    exact zn_retI rfl h
  · replace h := h.2 (fun q => hcn ((i_le (x := a4) (y := a5) rfl rfl).mpr q))
    refine zn_ld rfl rfl rfl ?_
    refine zn_get (v := .ref 40) rfl (zv_C (a := 83) (n := 1) rfl rfl rfl) ?_
    refine zn_get (v := .ref 49) rfl (zv_R (a := 40) rfl rfl) ?_
    refine zn_ld rfl rfl rfl ?_
    refine zn_get (v := .ref 39) rfl (zv_C (a := 83) (n := 0) rfl rfl rfl) ?_
    refine zn_ld rfl rfl rfl ?_
    refine zn_get (v := .ref 75) rfl (zv_R (a := 83) rfl rfl) ?_
    refine zn_get (v := .int (s.1 75 5)) rfl (zv_I (a := 75) rfl rfl) ?_
    refine zn_ld rfl rfl rfl ?_
    replace h := h _ (i_add (x := s.1 75 5) (y := a5) rfl rfl)
    refine zn_c [.int ((s.1 75 5) + a5), .ref 39, .ref 49] xo_iadd rfl rfl ?_
    refine zn_c [.int 0, .int ((s.1 75 5) + a5), .ref 39, .ref 49] (xo_push (.int 0)) rfl rfl ?_
    refine zn_zt [.ref 39, .int ((s.1 75 5) + a5), .int 0] [.ref 49] (c := []) rfl rfl rfl rfl rfl (Zt.imp (zp_42 hd (Or.inr rfl)) (fun vq sq hq => ?_))
    obtain ⟨rfl, hq⟩ := hq
    rw [hq]
    change Zn _ _ _ _ _ _ _ _ _ _ _ [.int (zg s 69 (((s.1 75 5) + a5) * 5 + 0)), .ref 49] _ _
    refine zn_row (zg s 69 (((s.1 75 5) + a5) * 5 + 0)) [] (a := 49) hd rfl rfl rfl rfl ?_
    change Zn _ _ _ _ _ _ _ _ _ _ _ [.int (zg s 49 (zg s 69 (((s.1 75 5) + a5) * 5 + 0)))] _ _
    refine zn_ld rfl rfl rfl ?_
    refine zn_brN rfl rfl ⟨fun hcn => ?_, fun hcn => ?_⟩
    · replace h := h.1 (fun q => hcn ((i_eq (x := zg s 49 (zg s 69 (((s.1 75 5) + a5) * 5 + 0))) (y := a2) rfl rfl).mpr q))
      replace h := h _ (i_add (x := a5) (y := 1) rfl (show (1 : Int32).toInt = 1 by decide))
      refine zn_inc [.ref 83, .int a1, .int a2, .int a3, .int a4, .int (a5 + 1), .null, .null] rfl rfl rfl rfl ?_
      refine zn_go rfl ?_
      exact r62 a1 a2 a3 a4 (a5 + 1) s h
    · replace h := h.2 ((i_eq (x := zg s 49 (zg s 69 (((s.1 75 5) + a5) * 5 + 0))) (y := a2) rfl rfl).mp hcn)
      refine zn_c [.int 24] (xo_push (.int 24)) rfl rfl ?_
      refine zn_ld rfl rfl rfl ?_
      replace h := h _ (i_add (x := 24) (y := a5) (show (24 : Int32).toInt = 24 by decide) rfl)
      refine zn_c [.int (24 + a5)] xo_iadd rfl rfl ?_
      exact zn_retI rfl h
theorem ml_133_62_39 {d d0 : Nat} (hd : d = d0 + 8)  {a1 : Int32} {a2 : Int32} {a3 : Int32} {a4 : Int32} {a5 : Int32} {s : zS} {Q : Option Value → zS → Prop}  (h : vl_133_62 (fun j => Zt d (wd 39 j) j) 39  a1 a2 a3 a4 a5 s Q) : Zn d [] [] ([(83, 1, 39), (83, 2, 40), (75, 0, 39), (75, 1, 57), (75, 2, 61)] : zW) ([(83, 1, 39), (83, 2, 40), (75, 0, 39), (75, 1, 57), (75, 2, 61)] : zW) xL_10 6 (some .int) xE_133 (xE_133.drop 62) [.ref 83, .int a1, .int a2, .int a3, .int a4, .int a5, .null, .null] [] s Q := by
  obtain ⟨I, μ, h0, h1⟩ := h
  have key : ∀ (n : Nat) (a1 : Int32) (a2 : Int32) (a3 : Int32) (a4 : Int32) (a5 : Int32) (s : zS), μ a1 a2 a3 a4 a5 s = n → I a1 a2 a3 a4 a5 s → Zn d [] [] ([(83, 1, 39), (83, 2, 40), (75, 0, 39), (75, 1, 57), (75, 2, 61)] : zW) ([(83, 1, 39), (83, 2, 40), (75, 0, 39), (75, 1, 57), (75, 2, 61)] : zW) xL_10 6 (some .int) xE_133 (xE_133.drop 62) [.ref 83, .int a1, .int a2, .int a3, .int a4, .int a5, .null, .null] [] s Q := by
    intro n
    induction n using Nat.strongRecOn with
    | ind n ih =>
      intro a1 a2 a3 a4 a5 s e hI
      exact m_133_62_39 hd (fun a1' a2' a3' a4' a5' s' q => ih _ (by rw [← e]; exact q.2) a1' a2' a3' a4' a5' s' rfl q.1) (h1 a1 a2 a3 a4 a5 s hI)
  exact key _ a1 a2 a3 a4 a5 s rfl h0
set_option maxRecDepth 20000 in
theorem m_133_30_39 {d d0 : Nat} (hd : d = d0 + 8) {R30 : Int32 → Int32 → Int32 → Int32 → Int32 → zS → Prop} {a1 : Int32} {a2 : Int32} {a3 : Int32} {a4 : Int32} {a5 : Int32} {s : zS} {Q : Option Value → zS → Prop} (r30 : ∀ a1 a2 a3 a4 a5 s, R30 a1 a2 a3 a4 a5 s → Zn d [] [] ([(83, 1, 39), (83, 2, 40), (75, 0, 39), (75, 1, 57), (75, 2, 61)] : zW) ([(83, 1, 39), (83, 2, 40), (75, 0, 39), (75, 1, 57), (75, 2, 61)] : zW) xL_10 6 (some .int) xE_133 (xE_133.drop 30) [.ref 83, .int a1, .int a2, .int a3, .int a4, .int a5, .null, .null] [] s Q) (h : v_133_30 (fun j => Zt d (wd 39 j) j) 39 R30 a1 a2 a3 a4 a5 s Q) : Zn d [] [] ([(83, 1, 39), (83, 2, 40), (75, 0, 39), (75, 1, 57), (75, 2, 61)] : zW) ([(83, 1, 39), (83, 2, 40), (75, 0, 39), (75, 1, 57), (75, 2, 61)] : zW) xL_10 6 (some .int) xE_133 (xE_133.drop 30) [.ref 83, .int a1, .int a2, .int a3, .int a4, .int a5, .null, .null] [] s Q := by
  unfold v_133_30 at h
  refine zn_ld rfl rfl rfl ?_
  refine zn_ld rfl rfl rfl ?_
  refine zn_brP rfl rfl ⟨fun hcn => ?_, fun hcn => ?_⟩
  · replace h := h.1 ((i_le (x := a4) (y := a5) rfl rfl).mp hcn)
    refine zn_ld rfl rfl rfl ?_
    refine zn_get (v := .ref 39) rfl (zv_C (a := 83) (n := 0) rfl rfl rfl) ?_
    refine zn_get (v := .ref 61) rfl (zv_R (a := 39) rfl rfl) ?_
    refine zn_ld rfl rfl rfl ?_
    refine zn_get (v := .ref 75) rfl (zv_R (a := 83) rfl rfl) ?_
    refine zn_get (v := .int (s.1 75 4)) rfl (zv_I (a := 75) rfl rfl) ?_
    refine zn_row (s.1 75 4) [] (a := 61) hd rfl rfl rfl rfl ?_
    change Zn _ _ _ _ _ _ _ _ _ _ _ [.int (zg s 61 (s.1 75 4))] _ _
    refine zn_st [.ref 83, .int a1, .int a2, .int a3, .int (zg s 61 (s.1 75 4)), .int a5, .null, .null] rfl rfl rfl ?_
    refine zn_c [.int 0] (xo_push (.int 0)) rfl rfl ?_
    refine zn_st [.ref 83, .int a1, .int a2, .int a3, .int (zg s 61 (s.1 75 4)), .int 0, .null, .null] rfl rfl rfl ?_
    exact ml_133_62_39 hd  h
  · replace h := h.2 (fun q => hcn ((i_le (x := a4) (y := a5) rfl rfl).mpr q))
    refine zn_ld rfl rfl rfl ?_
    refine zn_get (v := .ref 40) rfl (zv_C (a := 83) (n := 1) rfl rfl rfl) ?_
    refine zn_get (v := .ref 49) rfl (zv_R (a := 40) rfl rfl) ?_
    refine zn_ld rfl rfl rfl ?_
    refine zn_get (v := .ref 39) rfl (zv_C (a := 83) (n := 0) rfl rfl rfl) ?_
    refine zn_ld rfl rfl rfl ?_
    refine zn_ld rfl rfl rfl ?_
    replace h := h _ (i_add (x := a3) (y := a5) rfl rfl)
    refine zn_c [.int (a3 + a5), .ref 39, .ref 49] xo_iadd rfl rfl ?_
    refine zn_c [.int 0, .int (a3 + a5), .ref 39, .ref 49] (xo_push (.int 0)) rfl rfl ?_
    refine zn_zt [.ref 39, .int (a3 + a5), .int 0] [.ref 49] (c := []) rfl rfl rfl rfl rfl (Zt.imp (zp_42 hd (Or.inr rfl)) (fun vq sq hq => ?_))
    obtain ⟨rfl, hq⟩ := hq
    rw [hq]
    change Zn _ _ _ _ _ _ _ _ _ _ _ [.int (zg s 69 ((a3 + a5) * 5 + 0)), .ref 49] _ _
    refine zn_row (zg s 69 ((a3 + a5) * 5 + 0)) [] (a := 49) hd rfl rfl rfl rfl ?_
    change Zn _ _ _ _ _ _ _ _ _ _ _ [.int (zg s 49 (zg s 69 ((a3 + a5) * 5 + 0)))] _ _
    refine zn_ld rfl rfl rfl ?_
    refine zn_brN rfl rfl ⟨fun hcn => ?_, fun hcn => ?_⟩
    · replace h := h.1 (fun q => hcn ((i_eq (x := zg s 49 (zg s 69 ((a3 + a5) * 5 + 0))) (y := a2) rfl rfl).mpr q))
      replace h := h _ (i_add (x := a5) (y := 1) rfl (show (1 : Int32).toInt = 1 by decide))
      refine zn_inc [.ref 83, .int a1, .int a2, .int a3, .int a4, .int (a5 + 1), .null, .null] rfl rfl rfl rfl ?_
      refine zn_go rfl ?_
      exact r30 a1 a2 a3 a4 (a5 + 1) s h
    · replace h := h.2 ((i_eq (x := zg s 49 (zg s 69 ((a3 + a5) * 5 + 0))) (y := a2) rfl rfl).mp hcn)
      refine zn_c [.int 30] (xo_push (.int 30)) rfl rfl ?_
      refine zn_ld rfl rfl rfl ?_
      replace h := h _ (i_add (x := 30) (y := a5) (show (30 : Int32).toInt = 30 by decide) rfl)
      refine zn_c [.int (30 + a5)] xo_iadd rfl rfl ?_
      exact zn_retI rfl h
theorem ml_133_30_39 {d d0 : Nat} (hd : d = d0 + 8)  {a1 : Int32} {a2 : Int32} {a3 : Int32} {a4 : Int32} {a5 : Int32} {s : zS} {Q : Option Value → zS → Prop}  (h : vl_133_30 (fun j => Zt d (wd 39 j) j) 39  a1 a2 a3 a4 a5 s Q) : Zn d [] [] ([(83, 1, 39), (83, 2, 40), (75, 0, 39), (75, 1, 57), (75, 2, 61)] : zW) ([(83, 1, 39), (83, 2, 40), (75, 0, 39), (75, 1, 57), (75, 2, 61)] : zW) xL_10 6 (some .int) xE_133 (xE_133.drop 30) [.ref 83, .int a1, .int a2, .int a3, .int a4, .int a5, .null, .null] [] s Q := by
  obtain ⟨I, μ, h0, h1⟩ := h
  have key : ∀ (n : Nat) (a1 : Int32) (a2 : Int32) (a3 : Int32) (a4 : Int32) (a5 : Int32) (s : zS), μ a1 a2 a3 a4 a5 s = n → I a1 a2 a3 a4 a5 s → Zn d [] [] ([(83, 1, 39), (83, 2, 40), (75, 0, 39), (75, 1, 57), (75, 2, 61)] : zW) ([(83, 1, 39), (83, 2, 40), (75, 0, 39), (75, 1, 57), (75, 2, 61)] : zW) xL_10 6 (some .int) xE_133 (xE_133.drop 30) [.ref 83, .int a1, .int a2, .int a3, .int a4, .int a5, .null, .null] [] s Q := by
    intro n
    induction n using Nat.strongRecOn with
    | ind n ih =>
      intro a1 a2 a3 a4 a5 s e hI
      exact m_133_30_39 hd (fun a1' a2' a3' a4' a5' s' q => ih _ (by rw [← e]; exact q.2) a1' a2' a3' a4' a5' s' rfl q.1) (h1 a1 a2 a3 a4 a5 s hI)
  exact key _ a1 a2 a3 a4 a5 s rfl h0
set_option maxRecDepth 20000 in
theorem m_133_27_39 {d d0 : Nat} (hd : d = d0 + 8)  {a1 : Int32} {a2 : Int32} {a3 : Int32} {t0 : Int32} {s : zS} {Q : Option Value → zS → Prop}  (h : v_133_27 (fun j => Zt d (wd 39 j) j) 39  a1 a2 a3 t0 s Q) : Zn d [] [] ([(83, 1, 39), (83, 2, 40), (75, 0, 39), (75, 1, 57), (75, 2, 61)] : zW) ([(83, 1, 39), (83, 2, 40), (75, 0, 39), (75, 1, 57), (75, 2, 61)] : zW) xL_10 6 (some .int) xE_133 (xE_133.drop 27) [.ref 83, .int a1, .int a2, .int a3, .null, .null, .null, .null] [.int t0] s Q := by
  unfold v_133_27 at h
  refine zn_st [.ref 83, .int a1, .int a2, .int a3, .int t0, .null, .null, .null] rfl rfl rfl ?_
  refine zn_c [.int 0] (xo_push (.int 0)) rfl rfl ?_
  refine zn_st [.ref 83, .int a1, .int a2, .int a3, .int t0, .int 0, .null, .null] rfl rfl rfl ?_
  exact ml_133_30_39 hd  h
set_option maxRecDepth 20000 in
theorem m_133_0_39 {d d0 : Nat} (hd : d = d0 + 8)  {a1 : Int32} {s : zS} {Q : Option Value → zS → Prop}  (h : v_133_0 (fun j => Zt d (wd 39 j) j) 39  a1 s Q) : Zn d [] [] ([(83, 1, 39), (83, 2, 40), (75, 0, 39), (75, 1, 57), (75, 2, 61)] : zW) ([(83, 1, 39), (83, 2, 40), (75, 0, 39), (75, 1, 57), (75, 2, 61)] : zW) xL_10 6 (some .int) xE_133 (xE_133.drop 0) [.ref 83, .int a1, .null, .null, .null, .null, .null, .null] [] s Q := by
  unfold v_133_0 at h
  refine zn_ld rfl rfl rfl ?_
  refine zn_get (v := .ref 40) rfl (zv_C (a := 83) (n := 1) rfl rfl rfl) ?_
  refine zn_get (v := .ref 49) rfl (zv_R (a := 40) rfl rfl) ?_
  refine zn_ld rfl rfl rfl ?_
  refine zn_row a1 [] (a := 49) hd rfl rfl rfl rfl ?_
  change Zn _ _ _ _ _ _ _ _ _ _ _ [.int (zg s 49 a1)] _ _
  refine zn_st [.ref 83, .int a1, .int (zg s 49 a1), .null, .null, .null, .null, .null] rfl rfl rfl ?_
  refine zn_ld rfl rfl rfl ?_
  refine zn_get (v := .ref 39) rfl (zv_C (a := 83) (n := 0) rfl rfl rfl) ?_
  refine zn_ld rfl rfl rfl ?_
  refine zn_get (v := .ref 75) rfl (zv_R (a := 83) rfl rfl) ?_
  refine zn_get (v := .int (s.1 75 6)) rfl (zv_I (a := 75) rfl rfl) ?_
  refine zn_c [.int 2, .int (s.1 75 6), .ref 39] (xo_push (.int 2)) rfl rfl ?_
  refine zn_zt [.ref 39, .int (s.1 75 6), .int 2] [] (c := []) rfl rfl rfl rfl rfl (Zt.imp (zp_41 hd (Or.inr rfl)) (fun vq sq hq => ?_))
  obtain ⟨rfl, hq⟩ := hq
  rw [hq]
  change Zn _ _ _ _ _ _ _ _ _ _ _ [.int (zg s 67 ((s.1 75 6) * 5 + 2))] _ _
  refine zn_st [.ref 83, .int a1, .int (zg s 49 a1), .int (zg s 67 ((s.1 75 6) * 5 + 2)), .null, .null, .null, .null] rfl rfl rfl ?_
  refine zn_ld rfl rfl rfl ?_
  refine zn_get (v := .ref 75) rfl (zv_R (a := 83) rfl rfl) ?_
  refine zn_get (v := .int (s.1 75 6)) rfl (zv_I (a := 75) rfl rfl) ?_
  refine zn_brP rfl rfl ⟨fun hcn => ?_, fun hcn => ?_⟩
  · replace h := h.1 ((i_le (x := 0) (y := s.1 75 6) (show (0 : Int32).toInt = 0 by decide) rfl).mp hcn)
    refine zn_ld rfl rfl rfl ?_
    refine zn_get (v := .ref 39) rfl (zv_C (a := 83) (n := 0) rfl rfl rfl) ?_
    refine zn_ld rfl rfl rfl ?_
    refine zn_get (v := .ref 75) rfl (zv_R (a := 83) rfl rfl) ?_
    refine zn_get (v := .int (s.1 75 6)) rfl (zv_I (a := 75) rfl rfl) ?_
    refine zn_c [.int 3, .int (s.1 75 6), .ref 39] (xo_push (.int 3)) rfl rfl ?_
    refine zn_zt [.ref 39, .int (s.1 75 6), .int 3] [] (c := []) rfl rfl rfl rfl rfl (Zt.imp (zp_41 hd (Or.inr rfl)) (fun vq sq hq => ?_))
    obtain ⟨rfl, hq⟩ := hq
    rw [hq]
    change Zn _ _ _ _ _ _ _ _ _ _ _ [.int (zg s 67 ((s.1 75 6) * 5 + 3))] _ _
    exact m_133_27_39 hd  h
  · replace h := h.2 (fun q => hcn ((i_le (x := 0) (y := s.1 75 6) (show (0 : Int32).toInt = 0 by decide) rfl).mpr q))
    refine zn_c [.int 0] (xo_push (.int 0)) rfl rfl ?_
    refine zn_go rfl ?_
    exact m_133_27_39 hd  h
theorem zq_133_39 {d : Nat} {a1 : Int32} {s : zS} {Q : Option Value → zS → Prop} (h : v_133_0 (fun j => Zt (d + 8) (wd 39 j) j) 39 a1 s Q) : Zt (d + 9) ([(83, 1, 39), (83, 2, 40), (75, 0, 39), (75, 1, 57), (75, 2, 61)] : zW) 133 [.ref 83, .int a1] s Q := zt_of (E := xE_133) (L := xL_10) (ml := 6) (ret := some .int) rfl rfl rfl (m_133_0_39 rfl h)
theorem zc_133 {d P : Nat} (hP : P = 3 ∨ P = 39) {a1 : Int32} {s : zS} {Q : Option Value → zS → Prop} (h : v_133_0 (fun j => Zt (d + 8) (wd P j) j) P a1 s Q) : Zt (d + 9) (wd P 133) 133 [.ref 83, .int a1] s Q := by
  rcases hP with rfl | rfl
  · exact zq_133_3 h
  · exact zq_133_39 h
/-! FeatherBench$Told.lookAtBounds -/
def v_135_120 (T : Nat → List Value → zS → (Option Value → zS → Prop) → Prop) (P : Nat) (R2 : Int32 → Int32 → Int32 → zS → Prop) (a1 : Int32) (a2 : Int32) (a3 : Int32) (a4 : Int32) (s : zS) (Q : Option Value → zS → Prop) : Prop :=
  ∀ x1 : Int32, (-2147483648 ≤ a3.toInt + 1 ∧ a3.toInt + 1 ≤ 2147483647 → x1.toInt = a3.toInt + 1) → R2 a1 a2 x1 s
def v_135_118 (T : Nat → List Value → zS → (Option Value → zS → Prop) → Prop) (P : Nat) (R2 : Int32 → Int32 → Int32 → zS → Prop) (R7 : Int32 → Int32 → Int32 → Int32 → zS → Prop) (a1 : Int32) (a2 : Int32) (a3 : Int32) (a4 : Int32) (a5 : Int32) (a6 : Int32) (a7 : Int32) (a8 : Int32) (s : zS) (Q : Option Value → zS → Prop) : Prop :=
  ∀ x1 : Int32, (-2147483648 ≤ a4.toInt + (-1) ∧ a4.toInt + (-1) ≤ 2147483647 → x1.toInt = a4.toInt + (-1)) → R7 a1 a2 a3 x1 s
def v_135_95 (T : Nat → List Value → zS → (Option Value → zS → Prop) → Prop) (P : Nat) (R2 : Int32 → Int32 → Int32 → zS → Prop) (R7 : Int32 → Int32 → Int32 → Int32 → zS → Prop) (R44 : Int32 → Int32 → Int32 → Int32 → Int32 → Int32 → Int32 → Int32 → zS → Prop) (a1 : Int32) (a2 : Int32) (a3 : Int32) (a4 : Int32) (a5 : Int32) (a6 : Int32) (a7 : Int32) (a8 : Int32) (a9 : Int32) (a10 : Int32) (a11 : Int32) (t0 : Int32) (s : zS) (Q : Option Value → zS → Prop) : Prop :=
  ∀ x1 : Int32, (-2147483648 ≤ a7.toInt - 18738 ∧ a7.toInt - 18738 ≤ 2147483647 → x1.toInt = a7.toInt - 18738) → T 38 [.ref P, .int t0, .int (zg s (P + 20) x1)] s (fun v2 s3 => v2 = none ∧ (∀ s4, s4 = zf s3 75 3 a9 → T 83 [.ref 75, .int a7] s4 (fun v5 s6 => ∃ x7, v5 = some (.int x7) ∧ (∀ x8 : Int32, (-2147483648 ≤ a8.toInt + 1 ∧ a8.toInt + 1 ≤ 2147483647 → x8.toInt = a8.toInt + 1) → R44 a1 a2 a3 a4 a5 a6 x7 x8 s6))))
def v_135_44 (T : Nat → List Value → zS → (Option Value → zS → Prop) → Prop) (P : Nat) (R2 : Int32 → Int32 → Int32 → zS → Prop) (R7 : Int32 → Int32 → Int32 → Int32 → zS → Prop) (R44 : Int32 → Int32 → Int32 → Int32 → Int32 → Int32 → Int32 → Int32 → zS → Prop) (a1 : Int32) (a2 : Int32) (a3 : Int32) (a4 : Int32) (a5 : Int32) (a6 : Int32) (a7 : Int32) (a8 : Int32) (s : zS) (Q : Option Value → zS → Prop) : Prop :=
  (a6.toInt = 0 → v_135_118 T P R2 R7 a1 a2 a3 a4 a5 a6 a7 a8 s Q) ∧ (¬ (a6.toInt = 0) → ((zg s (P + 22) a5).toInt ≤ a8.toInt → v_135_118 T P R2 R7 a1 a2 a3 a4 a5 a6 a7 a8 s Q) ∧ (¬ ((zg s (P + 22) a5).toInt ≤ a8.toInt) → T 86 [.ref 75, .ref 76, .int a4, .int 0, .int 0] s (fun v1 s2 => v1 = none ∧ (∀ x4 : Int32, (-2147483648 ≤ (zg s2 (P + 24) (a5 * 6 + 2)).toInt + a8.toInt ∧ (zg s2 (P + 24) (a5 * 6 + 2)).toInt + a8.toInt ≤ 2147483647 → x4.toInt = (zg s2 (P + 24) (a5 * 6 + 2)).toInt + a8.toInt) → T 87 [.ref 75, .int (zg s2 (P + 30) (x4 * 5 + 3)), .ref 76] s2 (fun v6 s7 => ∃ x8, v6 = some (.int x8) ∧ ((0 ≤ x8.toInt → T 88 [.ref 75, .int a7, .int x8] s7 (fun v9 s10 => ∃ x11, v9 = some (.int x11) ∧ (v_135_95 T P R2 R7 R44 a1 a2 a3 a4 a5 a6 a7 a8 (s.1 75 3) (zg s2 (P + 30) (x4 * 5 + 3)) x8 x11 s10 Q))) ∧ (¬ (0 ≤ x8.toInt) → v_135_95 T P R2 R7 R44 a1 a2 a3 a4 a5 a6 a7 a8 (s.1 75 3) (zg s2 (P + 30) (x4 * 5 + 3)) x8 9 s7 Q)))))))
def vl_135_44 (T : Nat → List Value → zS → (Option Value → zS → Prop) → Prop) (P : Nat) (R2 : Int32 → Int32 → Int32 → zS → Prop) (R7 : Int32 → Int32 → Int32 → Int32 → zS → Prop) (a1 : Int32) (a2 : Int32) (a3 : Int32) (a4 : Int32) (a5 : Int32) (a6 : Int32) (a7 : Int32) (a8 : Int32) (s : zS) (Q : Option Value → zS → Prop) : Prop :=
  ∃ (I : Int32 → Int32 → Int32 → Int32 → Int32 → Int32 → Int32 → Int32 → zS → Prop) (μ : Int32 → Int32 → Int32 → Int32 → Int32 → Int32 → Int32 → Int32 → zS → Nat), I a1 a2 a3 a4 a5 a6 a7 a8 s ∧ ∀ (a1 : Int32) (a2 : Int32) (a3 : Int32) (a4 : Int32) (a5 : Int32) (a6 : Int32) (a7 : Int32) (a8 : Int32) (s : zS), I a1 a2 a3 a4 a5 a6 a7 a8 s → v_135_44 T P R2 R7 (fun a1' a2' a3' a4' a5' a6' a7' a8' s' => I a1' a2' a3' a4' a5' a6' a7' a8' s' ∧ μ a1' a2' a3' a4' a5' a6' a7' a8' s' < μ a1 a2 a3 a4 a5 a6 a7 a8 s) a1 a2 a3 a4 a5 a6 a7 a8 s Q
def v_135_37 (T : Nat → List Value → zS → (Option Value → zS → Prop) → Prop) (P : Nat) (R2 : Int32 → Int32 → Int32 → zS → Prop) (R7 : Int32 → Int32 → Int32 → Int32 → zS → Prop) (a1 : Int32) (a2 : Int32) (a3 : Int32) (a4 : Int32) (a5 : Int32) (t0 : Int32) (s : zS) (Q : Option Value → zS → Prop) : Prop :=
  ∀ x1 : Int32, (-2147483648 ≤ a4.toInt + 1 ∧ a4.toInt + 1 ≤ 2147483647 → x1.toInt = a4.toInt + 1) → vl_135_44 T P R2 R7 a1 a2 a3 a4 a5 t0 x1 0 s Q
def v_135_36 (T : Nat → List Value → zS → (Option Value → zS → Prop) → Prop) (P : Nat) (R2 : Int32 → Int32 → Int32 → zS → Prop) (R7 : Int32 → Int32 → Int32 → Int32 → zS → Prop) (a1 : Int32) (a2 : Int32) (a3 : Int32) (a4 : Int32) (a5 : Int32) (s : zS) (Q : Option Value → zS → Prop) : Prop :=
  v_135_37 T P R2 R7 a1 a2 a3 a4 a5 0 s Q
def v_135_7 (T : Nat → List Value → zS → (Option Value → zS → Prop) → Prop) (P : Nat) (R2 : Int32 → Int32 → Int32 → zS → Prop) (R7 : Int32 → Int32 → Int32 → Int32 → zS → Prop) (a1 : Int32) (a2 : Int32) (a3 : Int32) (a4 : Int32) (s : zS) (Q : Option Value → zS → Prop) : Prop :=
  (a4.toInt < a1.toInt → v_135_120 T P R2 a1 a2 a3 a4 s Q) ∧ (¬ (a4.toInt < a1.toInt) → (¬ ((s.1 P 14).toInt = 0) → v_135_120 T P R2 a1 a2 a3 a4 s Q) ∧ ((s.1 P 14).toInt = 0 → ((zg s (P + 22) (zg s (P + 18) a4)).toInt ≤ 0 → v_135_36 T P R2 R7 a1 a2 a3 a4 (zg s (P + 18) a4) s Q) ∧ (¬ ((zg s (P + 22) (zg s (P + 18) a4)).toInt ≤ 0) → T 83 [.ref 75, .int a4] s (fun v1 s2 => ∃ x3, v1 = some (.int x3) ∧ (∀ x4 : Int32, (-2147483648 ≤ a3.toInt + 1 ∧ a3.toInt + 1 ≤ 2147483647 → x4.toInt = a3.toInt + 1) → (¬ (x3.toInt = x4.toInt) → v_135_36 T P R2 R7 a1 a2 a3 a4 (zg s (P + 18) a4) s2 Q) ∧ (x3.toInt = x4.toInt → v_135_37 T P R2 R7 a1 a2 a3 a4 (zg s (P + 18) a4) 1 s2 Q))))))
def vl_135_7 (T : Nat → List Value → zS → (Option Value → zS → Prop) → Prop) (P : Nat) (R2 : Int32 → Int32 → Int32 → zS → Prop) (a1 : Int32) (a2 : Int32) (a3 : Int32) (a4 : Int32) (s : zS) (Q : Option Value → zS → Prop) : Prop :=
  ∃ (I : Int32 → Int32 → Int32 → Int32 → zS → Prop) (μ : Int32 → Int32 → Int32 → Int32 → zS → Nat), I a1 a2 a3 a4 s ∧ ∀ (a1 : Int32) (a2 : Int32) (a3 : Int32) (a4 : Int32) (s : zS), I a1 a2 a3 a4 s → v_135_7 T P R2 (fun a1' a2' a3' a4' s' => I a1' a2' a3' a4' s' ∧ μ a1' a2' a3' a4' s' < μ a1 a2 a3 a4 s) a1 a2 a3 a4 s Q
def v_135_2 (T : Nat → List Value → zS → (Option Value → zS → Prop) → Prop) (P : Nat) (R2 : Int32 → Int32 → Int32 → zS → Prop) (a1 : Int32) (a2 : Int32) (a3 : Int32) (s : zS) (Q : Option Value → zS → Prop) : Prop :=
  (a2.toInt ≤ a3.toInt → Q none s) ∧ (¬ (a2.toInt ≤ a3.toInt) → vl_135_7 T P R2 a1 a2 a3 a3 s Q)
def vl_135_2 (T : Nat → List Value → zS → (Option Value → zS → Prop) → Prop) (P : Nat)  (a1 : Int32) (a2 : Int32) (a3 : Int32) (s : zS) (Q : Option Value → zS → Prop) : Prop :=
  ∃ (I : Int32 → Int32 → Int32 → zS → Prop) (μ : Int32 → Int32 → Int32 → zS → Nat), I a1 a2 a3 s ∧ ∀ (a1 : Int32) (a2 : Int32) (a3 : Int32) (s : zS), I a1 a2 a3 s → v_135_2 T P (fun a1' a2' a3' s' => I a1' a2' a3' s' ∧ μ a1' a2' a3' s' < μ a1 a2 a3 s) a1 a2 a3 s Q
def v_135_0 (T : Nat → List Value → zS → (Option Value → zS → Prop) → Prop) (P : Nat)  (a1 : Int32) (a2 : Int32) (s : zS) (Q : Option Value → zS → Prop) : Prop :=
  vl_135_2 T P  a1 a2 a1 s Q
set_option maxRecDepth 20000 in
theorem m_135_120_3 {d d0 : Nat} (hd : d = d0 + 8) {R2 : Int32 → Int32 → Int32 → zS → Prop} {a1 : Int32} {a2 : Int32} {a3 : Int32} {a4 : Int32} {s : zS} {Q : Option Value → zS → Prop} (r2 : ∀ a1 a2 a3 s, R2 a1 a2 a3 s → Zn d [] [(3, 98)] ([(83, 1, 3), (83, 2, 4), (75, 0, 3), (75, 1, 21), (75, 2, 25)] : zW) ([(83, 1, 3), (83, 2, 4), (75, 0, 3), (75, 1, 21), (75, 2, 25)] : zW) xL_10 13 (none) xE_135 (xE_135.drop 2) [.ref 83, .int a1, .int a2, .int a3, .null, .null, .null, .null, .null, .null, .null, .null, .null, .null, .null, .null] [] s Q) (h : v_135_120 (fun j => Zt d (wd 3 j) j) 3 R2 a1 a2 a3 a4 s Q) : Zn d [] [(3, 98)] ([(83, 1, 3), (83, 2, 4), (75, 0, 3), (75, 1, 21), (75, 2, 25)] : zW) ([(83, 1, 3), (83, 2, 4), (75, 0, 3), (75, 1, 21), (75, 2, 25)] : zW) xL_10 13 (none) xE_135 (xE_135.drop 120) [.ref 83, .int a1, .int a2, .int a3, .int a4, .null, .null, .null, .null, .null, .null, .null, .null, .null, .null, .null] [] s Q := by
  unfold v_135_120 at h
  replace h := h _ (i_add (x := a3) (y := 1) rfl (show (1 : Int32).toInt = 1 by decide))
  refine zn_inc [.ref 83, .int a1, .int a2, .int (a3 + 1), .int a4, .null, .null, .null, .null, .null, .null, .null, .null, .null, .null, .null] rfl rfl rfl rfl ?_
  refine zn_go rfl ?_
  refine zn_fg 4 ?_
  exact r2 a1 a2 (a3 + 1) s h
set_option maxRecDepth 20000 in
theorem m_135_118_3 {d d0 : Nat} (hd : d = d0 + 8) {R2 : Int32 → Int32 → Int32 → zS → Prop} {R7 : Int32 → Int32 → Int32 → Int32 → zS → Prop} {a1 : Int32} {a2 : Int32} {a3 : Int32} {a4 : Int32} {a5 : Int32} {a6 : Int32} {a7 : Int32} {a8 : Int32} {s : zS} {Q : Option Value → zS → Prop} (r2 : ∀ a1 a2 a3 s, R2 a1 a2 a3 s → Zn d [] [(3, 98)] ([(83, 1, 3), (83, 2, 4), (75, 0, 3), (75, 1, 21), (75, 2, 25)] : zW) ([(83, 1, 3), (83, 2, 4), (75, 0, 3), (75, 1, 21), (75, 2, 25)] : zW) xL_10 13 (none) xE_135 (xE_135.drop 2) [.ref 83, .int a1, .int a2, .int a3, .null, .null, .null, .null, .null, .null, .null, .null, .null, .null, .null, .null] [] s Q) (r7 : ∀ a1 a2 a3 a4 s, R7 a1 a2 a3 a4 s → Zn d [] [(3, 98)] ([(83, 1, 3), (83, 2, 4), (75, 0, 3), (75, 1, 21), (75, 2, 25)] : zW) ([(83, 1, 3), (83, 2, 4), (75, 0, 3), (75, 1, 21), (75, 2, 25)] : zW) xL_10 13 (none) xE_135 (xE_135.drop 7) [.ref 83, .int a1, .int a2, .int a3, .int a4, .null, .null, .null, .null, .null, .null, .null, .null, .null, .null, .null] [] s Q) (h : v_135_118 (fun j => Zt d (wd 3 j) j) 3 R2 R7 a1 a2 a3 a4 a5 a6 a7 a8 s Q) : Zn d [] [(3, 98)] ([(83, 1, 3), (83, 2, 4), (75, 0, 3), (75, 1, 21), (75, 2, 25)] : zW) ([(83, 1, 3), (83, 2, 4), (75, 0, 3), (75, 1, 21), (75, 2, 25)] : zW) xL_10 13 (none) xE_135 (xE_135.drop 118) [.ref 83, .int a1, .int a2, .int a3, .int a4, .int a5, .int a6, .int a7, .int a8, .null, .null, .null, .null, .null, .null, .null] [] s Q := by
  unfold v_135_118 at h
  replace h := h _ (i_add (x := a4) (y := (-1)) rfl (show ((-1) : Int32).toInt = (-1) by decide))
  refine zn_inc [.ref 83, .int a1, .int a2, .int a3, .int (a4 + (-1)), .int a5, .int a6, .int a7, .int a8, .null, .null, .null, .null, .null, .null, .null] rfl rfl rfl rfl ?_
  refine zn_go rfl ?_
  refine zn_fg 5 ?_
  refine zn_fg 6 ?_
  refine zn_fg 7 ?_
  refine zn_fg 8 ?_
  exact r7 a1 a2 a3 (a4 + (-1)) s h
set_option maxRecDepth 20000 in
theorem m_135_95_3 {d d0 : Nat} (hd : d = d0 + 8) {R2 : Int32 → Int32 → Int32 → zS → Prop} {R7 : Int32 → Int32 → Int32 → Int32 → zS → Prop} {R44 : Int32 → Int32 → Int32 → Int32 → Int32 → Int32 → Int32 → Int32 → zS → Prop} {a1 : Int32} {a2 : Int32} {a3 : Int32} {a4 : Int32} {a5 : Int32} {a6 : Int32} {a7 : Int32} {a8 : Int32} {a9 : Int32} {a10 : Int32} {a11 : Int32} {t0 : Int32} {s : zS} {Q : Option Value → zS → Prop} (r2 : ∀ a1 a2 a3 s, R2 a1 a2 a3 s → Zn d [] [(3, 98)] ([(83, 1, 3), (83, 2, 4), (75, 0, 3), (75, 1, 21), (75, 2, 25)] : zW) ([(83, 1, 3), (83, 2, 4), (75, 0, 3), (75, 1, 21), (75, 2, 25)] : zW) xL_10 13 (none) xE_135 (xE_135.drop 2) [.ref 83, .int a1, .int a2, .int a3, .null, .null, .null, .null, .null, .null, .null, .null, .null, .null, .null, .null] [] s Q) (r7 : ∀ a1 a2 a3 a4 s, R7 a1 a2 a3 a4 s → Zn d [] [(3, 98)] ([(83, 1, 3), (83, 2, 4), (75, 0, 3), (75, 1, 21), (75, 2, 25)] : zW) ([(83, 1, 3), (83, 2, 4), (75, 0, 3), (75, 1, 21), (75, 2, 25)] : zW) xL_10 13 (none) xE_135 (xE_135.drop 7) [.ref 83, .int a1, .int a2, .int a3, .int a4, .null, .null, .null, .null, .null, .null, .null, .null, .null, .null, .null] [] s Q) (r44 : ∀ a1 a2 a3 a4 a5 a6 a7 a8 s, R44 a1 a2 a3 a4 a5 a6 a7 a8 s → Zn d [] [(3, 98)] ([(83, 1, 3), (83, 2, 4), (75, 0, 3), (75, 1, 21), (75, 2, 25)] : zW) ([(83, 1, 3), (83, 2, 4), (75, 0, 3), (75, 1, 21), (75, 2, 25)] : zW) xL_10 13 (none) xE_135 (xE_135.drop 44) [.ref 83, .int a1, .int a2, .int a3, .int a4, .int a5, .int a6, .int a7, .int a8, .null, .null, .null, .null, .null, .null, .null] [] s Q) (h : v_135_95 (fun j => Zt d (wd 3 j) j) 3 R2 R7 R44 a1 a2 a3 a4 a5 a6 a7 a8 a9 a10 a11 t0 s Q) : Zn d [] [(3, 98)] ([(83, 1, 3), (83, 2, 4), (75, 0, 3), (75, 1, 21), (75, 2, 25)] : zW) ([(83, 1, 3), (83, 2, 4), (75, 0, 3), (75, 1, 21), (75, 2, 25)] : zW) xL_10 13 (none) xE_135 (xE_135.drop 95) [.ref 83, .int a1, .int a2, .int a3, .int a4, .int a5, .int a6, .int a7, .int a8, .int a9, .int a10, .int a11, .null, .null, .null, .null] [.int t0] s Q := by
  unfold v_135_95 at h
  refine zn_st [.ref 83, .int a1, .int a2, .int a3, .int a4, .int a5, .int a6, .int a7, .int a8, .int a9, .int a10, .int a11, .int t0, .null, .null, .null] rfl rfl rfl ?_
  refine zn_ld rfl rfl rfl ?_
  refine zn_get (v := .ref 3) rfl (zv_C (a := 83) (n := 0) rfl rfl rfl) ?_
  refine zn_ld rfl rfl rfl ?_
  refine zn_ld rfl rfl rfl ?_
  refine zn_get (v := .ref 3) rfl (zv_C (a := 83) (n := 0) rfl rfl rfl) ?_
  refine zn_get (v := .ref 23) rfl (zv_R (a := 3) rfl rfl) ?_
  refine zn_ld rfl rfl rfl ?_
  refine zn_c [.int 18738, .int a7, .ref 23, .int t0, .ref 3] (xo_push (.int 18738)) rfl rfl ?_
  replace h := h _ (i_sub (x := a7) (y := 18738) rfl (show (18738 : Int32).toInt = 18738 by decide))
  refine zn_c [.int (a7 - 18738), .ref 23, .int t0, .ref 3] xo_isub rfl rfl ?_
  refine zn_row (a7 - 18738) [.int t0, .ref 3] (a := 23) hd rfl rfl rfl rfl ?_
  change Zn _ _ _ _ _ _ _ _ _ _ _ [.int (zg s 23 (a7 - 18738)), .int t0, .ref 3] _ _
  refine zn_zt [.ref 3, .int t0, .int (zg s 23 (a7 - 18738))] [] rfl rfl rfl rfl rfl (Zt.imp h (fun v2 s3 h => ?_))
  obtain ⟨rfl, h⟩ := h
  change Zn _ _ _ _ _ _ _ _ _ _ _ [] _ _
  refine zn_ld rfl rfl rfl ?_
  refine zn_get (v := .ref 75) rfl (zv_R (a := 83) rfl rfl) ?_
  refine zn_ld rfl rfl rfl ?_
  refine zn_putI (a := 75) rfl rfl rfl rfl ⟨Int32.le_toInt _, Int.le_of_lt_add_one (Int32.toInt_lt _)⟩ rfl rfl rfl ?_
  replace h := h _ rfl
  refine zn_ld rfl rfl rfl ?_
  refine zn_get (v := .ref 75) rfl (zv_R (a := 83) rfl rfl) ?_
  refine zn_ld rfl rfl rfl ?_
  refine zn_zt [.ref 75, .int a7] [] rfl rfl rfl rfl rfl (Zt.imp h (fun v5 s6 h => ?_))
  obtain ⟨x7, rfl, h⟩ := h
  change Zn _ _ _ _ _ _ _ _ _ _ _ [.int x7] _ _
  refine zn_st [.ref 83, .int a1, .int a2, .int a3, .int a4, .int a5, .int a6, .int x7, .int a8, .int a9, .int a10, .int a11, .int t0, .null, .null, .null] rfl rfl rfl ?_
  replace h := h _ (i_add (x := a8) (y := 1) rfl (show (1 : Int32).toInt = 1 by decide))
  refine zn_inc [.ref 83, .int a1, .int a2, .int a3, .int a4, .int a5, .int a6, .int x7, .int (a8 + 1), .int a9, .int a10, .int a11, .int t0, .null, .null, .null] rfl rfl rfl rfl ?_
  refine zn_go rfl ?_
  refine zn_fg 9 ?_
  refine zn_fg 10 ?_
  refine zn_fg 11 ?_
  refine zn_fg 12 ?_
  exact r44 a1 a2 a3 a4 a5 a6 x7 (a8 + 1) s6 h
set_option maxRecDepth 20000 in
theorem m_135_44_3 {d d0 : Nat} (hd : d = d0 + 8) {R2 : Int32 → Int32 → Int32 → zS → Prop} {R7 : Int32 → Int32 → Int32 → Int32 → zS → Prop} {R44 : Int32 → Int32 → Int32 → Int32 → Int32 → Int32 → Int32 → Int32 → zS → Prop} {a1 : Int32} {a2 : Int32} {a3 : Int32} {a4 : Int32} {a5 : Int32} {a6 : Int32} {a7 : Int32} {a8 : Int32} {s : zS} {Q : Option Value → zS → Prop} (r2 : ∀ a1 a2 a3 s, R2 a1 a2 a3 s → Zn d [] [(3, 98)] ([(83, 1, 3), (83, 2, 4), (75, 0, 3), (75, 1, 21), (75, 2, 25)] : zW) ([(83, 1, 3), (83, 2, 4), (75, 0, 3), (75, 1, 21), (75, 2, 25)] : zW) xL_10 13 (none) xE_135 (xE_135.drop 2) [.ref 83, .int a1, .int a2, .int a3, .null, .null, .null, .null, .null, .null, .null, .null, .null, .null, .null, .null] [] s Q) (r7 : ∀ a1 a2 a3 a4 s, R7 a1 a2 a3 a4 s → Zn d [] [(3, 98)] ([(83, 1, 3), (83, 2, 4), (75, 0, 3), (75, 1, 21), (75, 2, 25)] : zW) ([(83, 1, 3), (83, 2, 4), (75, 0, 3), (75, 1, 21), (75, 2, 25)] : zW) xL_10 13 (none) xE_135 (xE_135.drop 7) [.ref 83, .int a1, .int a2, .int a3, .int a4, .null, .null, .null, .null, .null, .null, .null, .null, .null, .null, .null] [] s Q) (r44 : ∀ a1 a2 a3 a4 a5 a6 a7 a8 s, R44 a1 a2 a3 a4 a5 a6 a7 a8 s → Zn d [] [(3, 98)] ([(83, 1, 3), (83, 2, 4), (75, 0, 3), (75, 1, 21), (75, 2, 25)] : zW) ([(83, 1, 3), (83, 2, 4), (75, 0, 3), (75, 1, 21), (75, 2, 25)] : zW) xL_10 13 (none) xE_135 (xE_135.drop 44) [.ref 83, .int a1, .int a2, .int a3, .int a4, .int a5, .int a6, .int a7, .int a8, .null, .null, .null, .null, .null, .null, .null] [] s Q) (h : v_135_44 (fun j => Zt d (wd 3 j) j) 3 R2 R7 R44 a1 a2 a3 a4 a5 a6 a7 a8 s Q) : Zn d [] [(3, 98)] ([(83, 1, 3), (83, 2, 4), (75, 0, 3), (75, 1, 21), (75, 2, 25)] : zW) ([(83, 1, 3), (83, 2, 4), (75, 0, 3), (75, 1, 21), (75, 2, 25)] : zW) xL_10 13 (none) xE_135 (xE_135.drop 44) [.ref 83, .int a1, .int a2, .int a3, .int a4, .int a5, .int a6, .int a7, .int a8, .null, .null, .null, .null, .null, .null, .null] [] s Q := by
  unfold v_135_44 at h
  refine zn_ld rfl rfl rfl ?_
  refine zn_brP rfl rfl ⟨fun hcn => ?_, fun hcn => ?_⟩
  · replace h := h.1 ((i_eq (x := a6) (y := 0) rfl (show (0 : Int32).toInt = 0 by decide)).mp hcn)
    exact m_135_118_3 hd r2 r7 h
  · replace h := h.2 (fun q => hcn ((i_eq (x := a6) (y := 0) rfl (show (0 : Int32).toInt = 0 by decide)).mpr q))
    refine zn_ld rfl rfl rfl ?_
    refine zn_ld rfl rfl rfl ?_
    refine zn_get (v := .ref 3) rfl (zv_C (a := 83) (n := 0) rfl rfl rfl) ?_
    refine zn_get (v := .ref 25) rfl (zv_R (a := 3) rfl rfl) ?_
    refine zn_ld rfl rfl rfl ?_
    refine zn_row a5 [.int a8] (a := 25) hd rfl rfl rfl rfl ?_
    change Zn _ _ _ _ _ _ _ _ _ _ _ [.int (zg s 25 a5), .int a8] _ _
    refine zn_brP rfl rfl ⟨fun hcn => ?_, fun hcn => ?_⟩
    · replace h := h.1 ((i_le (x := zg s 25 a5) (y := a8) rfl rfl).mp hcn)
      exact m_135_118_3 hd r2 r7 h
    · replace h := h.2 (fun q => hcn ((i_le (x := zg s 25 a5) (y := a8) rfl rfl).mpr q))
      refine zn_ld rfl rfl rfl ?_
      refine zn_get (v := .ref 75) rfl (zv_R (a := 83) rfl rfl) ?_
      refine zn_get (v := .int (s.1 75 3)) rfl (zv_I (a := 75) rfl rfl) ?_
      refine zn_st [.ref 83, .int a1, .int a2, .int a3, .int a4, .int a5, .int a6, .int a7, .int a8, .int (s.1 75 3), .null, .null, .null, .null, .null, .null] rfl rfl rfl ?_
      refine zn_ld rfl rfl rfl ?_
      refine zn_get (v := .ref 75) rfl (zv_R (a := 83) rfl rfl) ?_
      refine zn_ld rfl rfl rfl ?_
      refine zn_get (v := .ref 75) rfl (zv_R (a := 83) rfl rfl) ?_
      refine zn_get (v := .ref 76) rfl (zv_R (a := 75) rfl rfl) ?_
      refine zn_ld rfl rfl rfl ?_
      refine zn_c [.int 0, .int a4, .ref 76, .ref 75] (xo_push (.int 0)) rfl rfl ?_
      refine zn_c [.int 0, .int 0, .int a4, .ref 76, .ref 75] (xo_push (.int 0)) rfl rfl ?_
      refine zn_zt [.ref 75, .ref 76, .int a4, .int 0, .int 0] [] rfl rfl rfl rfl rfl (Zt.imp h (fun v1 s2 h => ?_))
      obtain ⟨rfl, h⟩ := h
      change Zn _ _ _ _ _ _ _ _ _ _ _ [] _ _
      refine zn_ld rfl rfl rfl ?_
      refine zn_get (v := .ref 3) rfl (zv_C (a := 83) (n := 0) rfl rfl rfl) ?_
      refine zn_ld rfl rfl rfl ?_
      refine zn_get (v := .ref 3) rfl (zv_C (a := 83) (n := 0) rfl rfl rfl) ?_
      refine zn_ld rfl rfl rfl ?_
      refine zn_c [.int 2, .int a5, .ref 3, .ref 3] (xo_push (.int 2)) rfl rfl ?_
      refine zn_zt [.ref 3, .int a5, .int 2] [.ref 3] (c := []) rfl rfl rfl rfl rfl (Zt.imp (zp_39 hd (Or.inl rfl)) (fun vq sq hq => ?_))
      obtain ⟨rfl, hq⟩ := hq
      rw [hq]
      change Zn _ _ _ _ _ _ _ _ _ _ _ [.int (zg s2 27 (a5 * 6 + 2)), .ref 3] _ _
      refine zn_ld rfl rfl rfl ?_
      replace h := h _ (i_add (x := zg s2 27 (a5 * 6 + 2)) (y := a8) rfl rfl)
      refine zn_c [.int ((zg s2 27 (a5 * 6 + 2)) + a8), .ref 3] xo_iadd rfl rfl ?_
      refine zn_c [.int 3, .int ((zg s2 27 (a5 * 6 + 2)) + a8), .ref 3] (xo_push (.int 3)) rfl rfl ?_
      refine zn_zt [.ref 3, .int ((zg s2 27 (a5 * 6 + 2)) + a8), .int 3] [] (c := []) rfl rfl rfl rfl rfl (Zt.imp (zp_42 hd (Or.inl rfl)) (fun vq sq hq => ?_))
      obtain ⟨rfl, hq⟩ := hq
      rw [hq]
      change Zn _ _ _ _ _ _ _ _ _ _ _ [.int (zg s2 33 (((zg s2 27 (a5 * 6 + 2)) + a8) * 5 + 3))] _ _
      refine zn_st [.ref 83, .int a1, .int a2, .int a3, .int a4, .int a5, .int a6, .int a7, .int a8, .int (s.1 75 3), .int (zg s2 33 (((zg s2 27 (a5 * 6 + 2)) + a8) * 5 + 3)), .null, .null, .null, .null, .null] rfl rfl rfl ?_
      refine zn_ld rfl rfl rfl ?_
      refine zn_get (v := .ref 75) rfl (zv_R (a := 83) rfl rfl) ?_
      refine zn_ld rfl rfl rfl ?_
      refine zn_ld rfl rfl rfl ?_
      refine zn_get (v := .ref 75) rfl (zv_R (a := 83) rfl rfl) ?_
      refine zn_get (v := .ref 76) rfl (zv_R (a := 75) rfl rfl) ?_
      refine zn_zt [.ref 75, .int (zg s2 33 (((zg s2 27 (a5 * 6 + 2)) + a8) * 5 + 3)), .ref 76] [] rfl rfl rfl rfl rfl (Zt.imp h (fun v6 s7 h => ?_))
      obtain ⟨x8, rfl, h⟩ := h
      change Zn _ _ _ _ _ _ _ _ _ _ _ [.int x8] _ _
      refine zn_st [.ref 83, .int a1, .int a2, .int a3, .int a4, .int a5, .int a6, .int a7, .int a8, .int (s.1 75 3), .int (zg s2 33 (((zg s2 27 (a5 * 6 + 2)) + a8) * 5 + 3)), .int x8, .null, .null, .null, .null] rfl rfl rfl ?_
      refine zn_ld rfl rfl rfl ?_
      refine zn_brP rfl rfl ⟨fun hcn => ?_, fun hcn => ?_⟩
      · replace h := h.1 ((i_le (x := 0) (y := x8) (show (0 : Int32).toInt = 0 by decide) rfl).mp hcn)
        refine zn_ld rfl rfl rfl ?_
        refine zn_get (v := .ref 75) rfl (zv_R (a := 83) rfl rfl) ?_
        refine zn_ld rfl rfl rfl ?_
        refine zn_ld rfl rfl rfl ?_
        refine zn_zt [.ref 75, .int a7, .int x8] [] rfl rfl rfl rfl rfl (Zt.imp h (fun v9 s10 h => ?_))
        obtain ⟨x11, rfl, h⟩ := h
        change Zn _ _ _ _ _ _ _ _ _ _ _ [.int x11] _ _
        exact m_135_95_3 hd r2 r7 r44 h
      · replace h := h.2 (fun q => hcn ((i_le (x := 0) (y := x8) (show (0 : Int32).toInt = 0 by decide) rfl).mpr q))
        refine zn_c [.int 9] (xo_push (.int 9)) rfl rfl ?_
        refine zn_go rfl ?_
        exact m_135_95_3 hd r2 r7 r44 h
theorem ml_135_44_3 {d d0 : Nat} (hd : d = d0 + 8) {R2 : Int32 → Int32 → Int32 → zS → Prop} {R7 : Int32 → Int32 → Int32 → Int32 → zS → Prop} {a1 : Int32} {a2 : Int32} {a3 : Int32} {a4 : Int32} {a5 : Int32} {a6 : Int32} {a7 : Int32} {a8 : Int32} {s : zS} {Q : Option Value → zS → Prop} (r2 : ∀ a1 a2 a3 s, R2 a1 a2 a3 s → Zn d [] [(3, 98)] ([(83, 1, 3), (83, 2, 4), (75, 0, 3), (75, 1, 21), (75, 2, 25)] : zW) ([(83, 1, 3), (83, 2, 4), (75, 0, 3), (75, 1, 21), (75, 2, 25)] : zW) xL_10 13 (none) xE_135 (xE_135.drop 2) [.ref 83, .int a1, .int a2, .int a3, .null, .null, .null, .null, .null, .null, .null, .null, .null, .null, .null, .null] [] s Q) (r7 : ∀ a1 a2 a3 a4 s, R7 a1 a2 a3 a4 s → Zn d [] [(3, 98)] ([(83, 1, 3), (83, 2, 4), (75, 0, 3), (75, 1, 21), (75, 2, 25)] : zW) ([(83, 1, 3), (83, 2, 4), (75, 0, 3), (75, 1, 21), (75, 2, 25)] : zW) xL_10 13 (none) xE_135 (xE_135.drop 7) [.ref 83, .int a1, .int a2, .int a3, .int a4, .null, .null, .null, .null, .null, .null, .null, .null, .null, .null, .null] [] s Q) (h : vl_135_44 (fun j => Zt d (wd 3 j) j) 3 R2 R7 a1 a2 a3 a4 a5 a6 a7 a8 s Q) : Zn d [] [(3, 98)] ([(83, 1, 3), (83, 2, 4), (75, 0, 3), (75, 1, 21), (75, 2, 25)] : zW) ([(83, 1, 3), (83, 2, 4), (75, 0, 3), (75, 1, 21), (75, 2, 25)] : zW) xL_10 13 (none) xE_135 (xE_135.drop 44) [.ref 83, .int a1, .int a2, .int a3, .int a4, .int a5, .int a6, .int a7, .int a8, .null, .null, .null, .null, .null, .null, .null] [] s Q := by
  obtain ⟨I, μ, h0, h1⟩ := h
  have key : ∀ (n : Nat) (a1 : Int32) (a2 : Int32) (a3 : Int32) (a4 : Int32) (a5 : Int32) (a6 : Int32) (a7 : Int32) (a8 : Int32) (s : zS), μ a1 a2 a3 a4 a5 a6 a7 a8 s = n → I a1 a2 a3 a4 a5 a6 a7 a8 s → Zn d [] [(3, 98)] ([(83, 1, 3), (83, 2, 4), (75, 0, 3), (75, 1, 21), (75, 2, 25)] : zW) ([(83, 1, 3), (83, 2, 4), (75, 0, 3), (75, 1, 21), (75, 2, 25)] : zW) xL_10 13 (none) xE_135 (xE_135.drop 44) [.ref 83, .int a1, .int a2, .int a3, .int a4, .int a5, .int a6, .int a7, .int a8, .null, .null, .null, .null, .null, .null, .null] [] s Q := by
    intro n
    induction n using Nat.strongRecOn with
    | ind n ih =>
      intro a1 a2 a3 a4 a5 a6 a7 a8 s e hI
      exact m_135_44_3 hd r2 r7 (fun a1' a2' a3' a4' a5' a6' a7' a8' s' q => ih _ (by rw [← e]; exact q.2) a1' a2' a3' a4' a5' a6' a7' a8' s' rfl q.1) (h1 a1 a2 a3 a4 a5 a6 a7 a8 s hI)
  exact key _ a1 a2 a3 a4 a5 a6 a7 a8 s rfl h0
set_option maxRecDepth 20000 in
theorem m_135_37_3 {d d0 : Nat} (hd : d = d0 + 8) {R2 : Int32 → Int32 → Int32 → zS → Prop} {R7 : Int32 → Int32 → Int32 → Int32 → zS → Prop} {a1 : Int32} {a2 : Int32} {a3 : Int32} {a4 : Int32} {a5 : Int32} {t0 : Int32} {s : zS} {Q : Option Value → zS → Prop} (r2 : ∀ a1 a2 a3 s, R2 a1 a2 a3 s → Zn d [] [(3, 98)] ([(83, 1, 3), (83, 2, 4), (75, 0, 3), (75, 1, 21), (75, 2, 25)] : zW) ([(83, 1, 3), (83, 2, 4), (75, 0, 3), (75, 1, 21), (75, 2, 25)] : zW) xL_10 13 (none) xE_135 (xE_135.drop 2) [.ref 83, .int a1, .int a2, .int a3, .null, .null, .null, .null, .null, .null, .null, .null, .null, .null, .null, .null] [] s Q) (r7 : ∀ a1 a2 a3 a4 s, R7 a1 a2 a3 a4 s → Zn d [] [(3, 98)] ([(83, 1, 3), (83, 2, 4), (75, 0, 3), (75, 1, 21), (75, 2, 25)] : zW) ([(83, 1, 3), (83, 2, 4), (75, 0, 3), (75, 1, 21), (75, 2, 25)] : zW) xL_10 13 (none) xE_135 (xE_135.drop 7) [.ref 83, .int a1, .int a2, .int a3, .int a4, .null, .null, .null, .null, .null, .null, .null, .null, .null, .null, .null] [] s Q) (h : v_135_37 (fun j => Zt d (wd 3 j) j) 3 R2 R7 a1 a2 a3 a4 a5 t0 s Q) : Zn d [] [(3, 98)] ([(83, 1, 3), (83, 2, 4), (75, 0, 3), (75, 1, 21), (75, 2, 25)] : zW) ([(83, 1, 3), (83, 2, 4), (75, 0, 3), (75, 1, 21), (75, 2, 25)] : zW) xL_10 13 (none) xE_135 (xE_135.drop 37) [.ref 83, .int a1, .int a2, .int a3, .int a4, .int a5, .null, .null, .null, .null, .null, .null, .null, .null, .null, .null] [.int t0] s Q := by
  unfold v_135_37 at h
  refine zn_st [.ref 83, .int a1, .int a2, .int a3, .int a4, .int a5, .int t0, .null, .null, .null, .null, .null, .null, .null, .null, .null] rfl rfl rfl ?_
  refine zn_ld rfl rfl rfl ?_
  refine zn_c [.int 1, .int a4] (xo_push (.int 1)) rfl rfl ?_
  replace h := h _ (i_add (x := a4) (y := 1) rfl (show (1 : Int32).toInt = 1 by decide))
  refine zn_c [.int (a4 + 1)] xo_iadd rfl rfl ?_
  refine zn_st [.ref 83, .int a1, .int a2, .int a3, .int a4, .int a5, .int t0, .int (a4 + 1), .null, .null, .null, .null, .null, .null, .null, .null] rfl rfl rfl ?_
  refine zn_c [.int 0] (xo_push (.int 0)) rfl rfl ?_
  refine zn_st [.ref 83, .int a1, .int a2, .int a3, .int a4, .int a5, .int t0, .int (a4 + 1), .int 0, .null, .null, .null, .null, .null, .null, .null] rfl rfl rfl ?_
  exact ml_135_44_3 hd r2 r7 h
set_option maxRecDepth 20000 in
theorem m_135_36_3 {d d0 : Nat} (hd : d = d0 + 8) {R2 : Int32 → Int32 → Int32 → zS → Prop} {R7 : Int32 → Int32 → Int32 → Int32 → zS → Prop} {a1 : Int32} {a2 : Int32} {a3 : Int32} {a4 : Int32} {a5 : Int32} {s : zS} {Q : Option Value → zS → Prop} (r2 : ∀ a1 a2 a3 s, R2 a1 a2 a3 s → Zn d [] [(3, 98)] ([(83, 1, 3), (83, 2, 4), (75, 0, 3), (75, 1, 21), (75, 2, 25)] : zW) ([(83, 1, 3), (83, 2, 4), (75, 0, 3), (75, 1, 21), (75, 2, 25)] : zW) xL_10 13 (none) xE_135 (xE_135.drop 2) [.ref 83, .int a1, .int a2, .int a3, .null, .null, .null, .null, .null, .null, .null, .null, .null, .null, .null, .null] [] s Q) (r7 : ∀ a1 a2 a3 a4 s, R7 a1 a2 a3 a4 s → Zn d [] [(3, 98)] ([(83, 1, 3), (83, 2, 4), (75, 0, 3), (75, 1, 21), (75, 2, 25)] : zW) ([(83, 1, 3), (83, 2, 4), (75, 0, 3), (75, 1, 21), (75, 2, 25)] : zW) xL_10 13 (none) xE_135 (xE_135.drop 7) [.ref 83, .int a1, .int a2, .int a3, .int a4, .null, .null, .null, .null, .null, .null, .null, .null, .null, .null, .null] [] s Q) (h : v_135_36 (fun j => Zt d (wd 3 j) j) 3 R2 R7 a1 a2 a3 a4 a5 s Q) : Zn d [] [(3, 98)] ([(83, 1, 3), (83, 2, 4), (75, 0, 3), (75, 1, 21), (75, 2, 25)] : zW) ([(83, 1, 3), (83, 2, 4), (75, 0, 3), (75, 1, 21), (75, 2, 25)] : zW) xL_10 13 (none) xE_135 (xE_135.drop 36) [.ref 83, .int a1, .int a2, .int a3, .int a4, .int a5, .null, .null, .null, .null, .null, .null, .null, .null, .null, .null] [] s Q := by
  unfold v_135_36 at h
  refine zn_c [.int 0] (xo_push (.int 0)) rfl rfl ?_
  exact m_135_37_3 hd r2 r7 h
set_option maxRecDepth 20000 in
theorem m_135_7_3 {d d0 : Nat} (hd : d = d0 + 8) {R2 : Int32 → Int32 → Int32 → zS → Prop} {R7 : Int32 → Int32 → Int32 → Int32 → zS → Prop} {a1 : Int32} {a2 : Int32} {a3 : Int32} {a4 : Int32} {s : zS} {Q : Option Value → zS → Prop} (r2 : ∀ a1 a2 a3 s, R2 a1 a2 a3 s → Zn d [] [(3, 98)] ([(83, 1, 3), (83, 2, 4), (75, 0, 3), (75, 1, 21), (75, 2, 25)] : zW) ([(83, 1, 3), (83, 2, 4), (75, 0, 3), (75, 1, 21), (75, 2, 25)] : zW) xL_10 13 (none) xE_135 (xE_135.drop 2) [.ref 83, .int a1, .int a2, .int a3, .null, .null, .null, .null, .null, .null, .null, .null, .null, .null, .null, .null] [] s Q) (r7 : ∀ a1 a2 a3 a4 s, R7 a1 a2 a3 a4 s → Zn d [] [(3, 98)] ([(83, 1, 3), (83, 2, 4), (75, 0, 3), (75, 1, 21), (75, 2, 25)] : zW) ([(83, 1, 3), (83, 2, 4), (75, 0, 3), (75, 1, 21), (75, 2, 25)] : zW) xL_10 13 (none) xE_135 (xE_135.drop 7) [.ref 83, .int a1, .int a2, .int a3, .int a4, .null, .null, .null, .null, .null, .null, .null, .null, .null, .null, .null] [] s Q) (h : v_135_7 (fun j => Zt d (wd 3 j) j) 3 R2 R7 a1 a2 a3 a4 s Q) : Zn d [] [(3, 98)] ([(83, 1, 3), (83, 2, 4), (75, 0, 3), (75, 1, 21), (75, 2, 25)] : zW) ([(83, 1, 3), (83, 2, 4), (75, 0, 3), (75, 1, 21), (75, 2, 25)] : zW) xL_10 13 (none) xE_135 (xE_135.drop 7) [.ref 83, .int a1, .int a2, .int a3, .int a4, .null, .null, .null, .null, .null, .null, .null, .null, .null, .null, .null] [] s Q := by
  unfold v_135_7 at h
  refine zn_ld rfl rfl rfl ?_
  refine zn_ld rfl rfl rfl ?_
  refine zn_brP rfl rfl ⟨fun hcn => ?_, fun hcn => ?_⟩
  · replace h := h.1 ((i_lt (x := a4) (y := a1) rfl rfl).mp hcn)
    exact m_135_120_3 hd r2 h
  · replace h := h.2 (fun q => hcn ((i_lt (x := a4) (y := a1) rfl rfl).mpr q))
    refine zn_ld rfl rfl rfl ?_
    refine zn_get (v := .ref 3) rfl (zv_C (a := 83) (n := 0) rfl rfl rfl) ?_
    refine zn_get (v := .int (s.1 3 14)) rfl (zv_I (a := 3) rfl rfl) ?_
    refine zn_brN rfl rfl ⟨fun hcn => ?_, fun hcn => ?_⟩
    · replace h := h.1 (fun q => hcn ((i_eq (x := s.1 3 14) (y := 0) rfl (show (0 : Int32).toInt = 0 by decide)).mpr q))
      exact m_135_120_3 hd r2 h
    · replace h := h.2 ((i_eq (x := s.1 3 14) (y := 0) rfl (show (0 : Int32).toInt = 0 by decide)).mp hcn)
      refine zn_ld rfl rfl rfl ?_
      refine zn_get (v := .ref 3) rfl (zv_C (a := 83) (n := 0) rfl rfl rfl) ?_
      refine zn_get (v := .ref 21) rfl (zv_R (a := 3) rfl rfl) ?_
      refine zn_ld rfl rfl rfl ?_
      refine zn_row a4 [] (a := 21) hd rfl rfl rfl rfl ?_
      change Zn _ _ _ _ _ _ _ _ _ _ _ [.int (zg s 21 a4)] _ _
      refine zn_st [.ref 83, .int a1, .int a2, .int a3, .int a4, .int (zg s 21 a4), .null, .null, .null, .null, .null, .null, .null, .null, .null, .null] rfl rfl rfl ?_
      refine zn_ld rfl rfl rfl ?_
      refine zn_get (v := .ref 3) rfl (zv_C (a := 83) (n := 0) rfl rfl rfl) ?_
      refine zn_get (v := .ref 25) rfl (zv_R (a := 3) rfl rfl) ?_
      refine zn_ld rfl rfl rfl ?_
      refine zn_row (zg s 21 a4) [] (a := 25) hd rfl rfl rfl rfl ?_
      change Zn _ _ _ _ _ _ _ _ _ _ _ [.int (zg s 25 (zg s 21 a4))] _ _
      refine zn_brP rfl rfl ⟨fun hcn => ?_, fun hcn => ?_⟩
      · replace h := h.1 ((i_le (x := zg s 25 (zg s 21 a4)) (y := 0) rfl (show (0 : Int32).toInt = 0 by decide)).mp hcn)
        exact m_135_36_3 hd r2 r7 h
      · replace h := h.2 (fun q => hcn ((i_le (x := zg s 25 (zg s 21 a4)) (y := 0) rfl (show (0 : Int32).toInt = 0 by decide)).mpr q))
        refine zn_ld rfl rfl rfl ?_
        refine zn_get (v := .ref 75) rfl (zv_R (a := 83) rfl rfl) ?_
        refine zn_ld rfl rfl rfl ?_
        refine zn_zt [.ref 75, .int a4] [] rfl rfl rfl rfl rfl (Zt.imp h (fun v1 s2 h => ?_))
        obtain ⟨x3, rfl, h⟩ := h
        change Zn _ _ _ _ _ _ _ _ _ _ _ [.int x3] _ _
        refine zn_ld rfl rfl rfl ?_
        refine zn_c [.int 1, .int a3, .int x3] (xo_push (.int 1)) rfl rfl ?_
        replace h := h _ (i_add (x := a3) (y := 1) rfl (show (1 : Int32).toInt = 1 by decide))
        refine zn_c [.int (a3 + 1), .int x3] xo_iadd rfl rfl ?_
        refine zn_brN rfl rfl ⟨fun hcn => ?_, fun hcn => ?_⟩
        · replace h := h.1 (fun q => hcn ((i_eq (x := x3) (y := (a3 + 1)) rfl rfl).mpr q))
          exact m_135_36_3 hd r2 r7 h
        · replace h := h.2 ((i_eq (x := x3) (y := (a3 + 1)) rfl rfl).mp hcn)
          refine zn_c [.int 1] (xo_push (.int 1)) rfl rfl ?_
          refine zn_go rfl ?_
          exact m_135_37_3 hd r2 r7 h
theorem ml_135_7_3 {d d0 : Nat} (hd : d = d0 + 8) {R2 : Int32 → Int32 → Int32 → zS → Prop} {a1 : Int32} {a2 : Int32} {a3 : Int32} {a4 : Int32} {s : zS} {Q : Option Value → zS → Prop} (r2 : ∀ a1 a2 a3 s, R2 a1 a2 a3 s → Zn d [] [(3, 98)] ([(83, 1, 3), (83, 2, 4), (75, 0, 3), (75, 1, 21), (75, 2, 25)] : zW) ([(83, 1, 3), (83, 2, 4), (75, 0, 3), (75, 1, 21), (75, 2, 25)] : zW) xL_10 13 (none) xE_135 (xE_135.drop 2) [.ref 83, .int a1, .int a2, .int a3, .null, .null, .null, .null, .null, .null, .null, .null, .null, .null, .null, .null] [] s Q) (h : vl_135_7 (fun j => Zt d (wd 3 j) j) 3 R2 a1 a2 a3 a4 s Q) : Zn d [] [(3, 98)] ([(83, 1, 3), (83, 2, 4), (75, 0, 3), (75, 1, 21), (75, 2, 25)] : zW) ([(83, 1, 3), (83, 2, 4), (75, 0, 3), (75, 1, 21), (75, 2, 25)] : zW) xL_10 13 (none) xE_135 (xE_135.drop 7) [.ref 83, .int a1, .int a2, .int a3, .int a4, .null, .null, .null, .null, .null, .null, .null, .null, .null, .null, .null] [] s Q := by
  obtain ⟨I, μ, h0, h1⟩ := h
  have key : ∀ (n : Nat) (a1 : Int32) (a2 : Int32) (a3 : Int32) (a4 : Int32) (s : zS), μ a1 a2 a3 a4 s = n → I a1 a2 a3 a4 s → Zn d [] [(3, 98)] ([(83, 1, 3), (83, 2, 4), (75, 0, 3), (75, 1, 21), (75, 2, 25)] : zW) ([(83, 1, 3), (83, 2, 4), (75, 0, 3), (75, 1, 21), (75, 2, 25)] : zW) xL_10 13 (none) xE_135 (xE_135.drop 7) [.ref 83, .int a1, .int a2, .int a3, .int a4, .null, .null, .null, .null, .null, .null, .null, .null, .null, .null, .null] [] s Q := by
    intro n
    induction n using Nat.strongRecOn with
    | ind n ih =>
      intro a1 a2 a3 a4 s e hI
      exact m_135_7_3 hd r2 (fun a1' a2' a3' a4' s' q => ih _ (by rw [← e]; exact q.2) a1' a2' a3' a4' s' rfl q.1) (h1 a1 a2 a3 a4 s hI)
  exact key _ a1 a2 a3 a4 s rfl h0
set_option maxRecDepth 20000 in
theorem m_135_2_3 {d d0 : Nat} (hd : d = d0 + 8) {R2 : Int32 → Int32 → Int32 → zS → Prop} {a1 : Int32} {a2 : Int32} {a3 : Int32} {s : zS} {Q : Option Value → zS → Prop} (r2 : ∀ a1 a2 a3 s, R2 a1 a2 a3 s → Zn d [] [(3, 98)] ([(83, 1, 3), (83, 2, 4), (75, 0, 3), (75, 1, 21), (75, 2, 25)] : zW) ([(83, 1, 3), (83, 2, 4), (75, 0, 3), (75, 1, 21), (75, 2, 25)] : zW) xL_10 13 (none) xE_135 (xE_135.drop 2) [.ref 83, .int a1, .int a2, .int a3, .null, .null, .null, .null, .null, .null, .null, .null, .null, .null, .null, .null] [] s Q) (h : v_135_2 (fun j => Zt d (wd 3 j) j) 3 R2 a1 a2 a3 s Q) : Zn d [] [(3, 98)] ([(83, 1, 3), (83, 2, 4), (75, 0, 3), (75, 1, 21), (75, 2, 25)] : zW) ([(83, 1, 3), (83, 2, 4), (75, 0, 3), (75, 1, 21), (75, 2, 25)] : zW) xL_10 13 (none) xE_135 (xE_135.drop 2) [.ref 83, .int a1, .int a2, .int a3, .null, .null, .null, .null, .null, .null, .null, .null, .null, .null, .null, .null] [] s Q := by
  unfold v_135_2 at h
  refine zn_ld rfl rfl rfl ?_
  refine zn_ld rfl rfl rfl ?_
  refine zn_brP rfl rfl ⟨fun hcn => ?_, fun hcn => ?_⟩
  · replace h := h.1 ((i_le (x := a2) (y := a3) rfl rfl).mp hcn)
    exact zn_ret0 rfl h
  · replace h := h.2 (fun q => hcn ((i_le (x := a2) (y := a3) rfl rfl).mpr q))
    refine zn_ld rfl rfl rfl ?_
    refine zn_st [.ref 83, .int a1, .int a2, .int a3, .int a3, .null, .null, .null, .null, .null, .null, .null, .null, .null, .null, .null] rfl rfl rfl ?_
    exact ml_135_7_3 hd r2 h
theorem ml_135_2_3 {d d0 : Nat} (hd : d = d0 + 8)  {a1 : Int32} {a2 : Int32} {a3 : Int32} {s : zS} {Q : Option Value → zS → Prop}  (h : vl_135_2 (fun j => Zt d (wd 3 j) j) 3  a1 a2 a3 s Q) : Zn d [] [(3, 98)] ([(83, 1, 3), (83, 2, 4), (75, 0, 3), (75, 1, 21), (75, 2, 25)] : zW) ([(83, 1, 3), (83, 2, 4), (75, 0, 3), (75, 1, 21), (75, 2, 25)] : zW) xL_10 13 (none) xE_135 (xE_135.drop 2) [.ref 83, .int a1, .int a2, .int a3, .null, .null, .null, .null, .null, .null, .null, .null, .null, .null, .null, .null] [] s Q := by
  obtain ⟨I, μ, h0, h1⟩ := h
  have key : ∀ (n : Nat) (a1 : Int32) (a2 : Int32) (a3 : Int32) (s : zS), μ a1 a2 a3 s = n → I a1 a2 a3 s → Zn d [] [(3, 98)] ([(83, 1, 3), (83, 2, 4), (75, 0, 3), (75, 1, 21), (75, 2, 25)] : zW) ([(83, 1, 3), (83, 2, 4), (75, 0, 3), (75, 1, 21), (75, 2, 25)] : zW) xL_10 13 (none) xE_135 (xE_135.drop 2) [.ref 83, .int a1, .int a2, .int a3, .null, .null, .null, .null, .null, .null, .null, .null, .null, .null, .null, .null] [] s Q := by
    intro n
    induction n using Nat.strongRecOn with
    | ind n ih =>
      intro a1 a2 a3 s e hI
      exact m_135_2_3 hd (fun a1' a2' a3' s' q => ih _ (by rw [← e]; exact q.2) a1' a2' a3' s' rfl q.1) (h1 a1 a2 a3 s hI)
  exact key _ a1 a2 a3 s rfl h0
set_option maxRecDepth 20000 in
theorem m_135_0_3 {d d0 : Nat} (hd : d = d0 + 8)  {a1 : Int32} {a2 : Int32} {s : zS} {Q : Option Value → zS → Prop}  (h : v_135_0 (fun j => Zt d (wd 3 j) j) 3  a1 a2 s Q) : Zn d [] [(3, 98)] ([(83, 1, 3), (83, 2, 4), (75, 0, 3), (75, 1, 21), (75, 2, 25)] : zW) ([(83, 1, 3), (83, 2, 4), (75, 0, 3), (75, 1, 21), (75, 2, 25)] : zW) xL_10 13 (none) xE_135 (xE_135.drop 0) [.ref 83, .int a1, .int a2, .null, .null, .null, .null, .null, .null, .null, .null, .null, .null, .null, .null, .null] [] s Q := by
  unfold v_135_0 at h
  refine zn_ld rfl rfl rfl ?_
  refine zn_st [.ref 83, .int a1, .int a2, .int a1, .null, .null, .null, .null, .null, .null, .null, .null, .null, .null, .null, .null] rfl rfl rfl ?_
  exact ml_135_2_3 hd  h
theorem zq_135_3 {d : Nat} {a1 : Int32} {a2 : Int32} {s : zS} {Q : Option Value → zS → Prop} (h : v_135_0 (fun j => Zt (d + 8) (wd 3 j) j) 3 a1 a2 s Q) : Zt (d + 9) ([(83, 1, 3), (83, 2, 4), (75, 0, 3), (75, 1, 21), (75, 2, 25)] : zW) 135 [.ref 83, .int a1, .int a2] s Q := zt_of (E := xE_135) (L := xL_10) (ml := 13) (ret := none) rfl rfl rfl (m_135_0_3 rfl h)
set_option maxRecDepth 20000 in
theorem m_135_120_39 {d d0 : Nat} (hd : d = d0 + 8) {R2 : Int32 → Int32 → Int32 → zS → Prop} {a1 : Int32} {a2 : Int32} {a3 : Int32} {a4 : Int32} {s : zS} {Q : Option Value → zS → Prop} (r2 : ∀ a1 a2 a3 s, R2 a1 a2 a3 s → Zn d [] [(39, 98)] ([(83, 1, 39), (83, 2, 40), (75, 0, 39), (75, 1, 57), (75, 2, 61)] : zW) ([(83, 1, 39), (83, 2, 40), (75, 0, 39), (75, 1, 57), (75, 2, 61)] : zW) xL_10 13 (none) xE_135 (xE_135.drop 2) [.ref 83, .int a1, .int a2, .int a3, .null, .null, .null, .null, .null, .null, .null, .null, .null, .null, .null, .null] [] s Q) (h : v_135_120 (fun j => Zt d (wd 39 j) j) 39 R2 a1 a2 a3 a4 s Q) : Zn d [] [(39, 98)] ([(83, 1, 39), (83, 2, 40), (75, 0, 39), (75, 1, 57), (75, 2, 61)] : zW) ([(83, 1, 39), (83, 2, 40), (75, 0, 39), (75, 1, 57), (75, 2, 61)] : zW) xL_10 13 (none) xE_135 (xE_135.drop 120) [.ref 83, .int a1, .int a2, .int a3, .int a4, .null, .null, .null, .null, .null, .null, .null, .null, .null, .null, .null] [] s Q := by
  unfold v_135_120 at h
  replace h := h _ (i_add (x := a3) (y := 1) rfl (show (1 : Int32).toInt = 1 by decide))
  refine zn_inc [.ref 83, .int a1, .int a2, .int (a3 + 1), .int a4, .null, .null, .null, .null, .null, .null, .null, .null, .null, .null, .null] rfl rfl rfl rfl ?_
  refine zn_go rfl ?_
  refine zn_fg 4 ?_
  exact r2 a1 a2 (a3 + 1) s h
set_option maxRecDepth 20000 in
theorem m_135_118_39 {d d0 : Nat} (hd : d = d0 + 8) {R2 : Int32 → Int32 → Int32 → zS → Prop} {R7 : Int32 → Int32 → Int32 → Int32 → zS → Prop} {a1 : Int32} {a2 : Int32} {a3 : Int32} {a4 : Int32} {a5 : Int32} {a6 : Int32} {a7 : Int32} {a8 : Int32} {s : zS} {Q : Option Value → zS → Prop} (r2 : ∀ a1 a2 a3 s, R2 a1 a2 a3 s → Zn d [] [(39, 98)] ([(83, 1, 39), (83, 2, 40), (75, 0, 39), (75, 1, 57), (75, 2, 61)] : zW) ([(83, 1, 39), (83, 2, 40), (75, 0, 39), (75, 1, 57), (75, 2, 61)] : zW) xL_10 13 (none) xE_135 (xE_135.drop 2) [.ref 83, .int a1, .int a2, .int a3, .null, .null, .null, .null, .null, .null, .null, .null, .null, .null, .null, .null] [] s Q) (r7 : ∀ a1 a2 a3 a4 s, R7 a1 a2 a3 a4 s → Zn d [] [(39, 98)] ([(83, 1, 39), (83, 2, 40), (75, 0, 39), (75, 1, 57), (75, 2, 61)] : zW) ([(83, 1, 39), (83, 2, 40), (75, 0, 39), (75, 1, 57), (75, 2, 61)] : zW) xL_10 13 (none) xE_135 (xE_135.drop 7) [.ref 83, .int a1, .int a2, .int a3, .int a4, .null, .null, .null, .null, .null, .null, .null, .null, .null, .null, .null] [] s Q) (h : v_135_118 (fun j => Zt d (wd 39 j) j) 39 R2 R7 a1 a2 a3 a4 a5 a6 a7 a8 s Q) : Zn d [] [(39, 98)] ([(83, 1, 39), (83, 2, 40), (75, 0, 39), (75, 1, 57), (75, 2, 61)] : zW) ([(83, 1, 39), (83, 2, 40), (75, 0, 39), (75, 1, 57), (75, 2, 61)] : zW) xL_10 13 (none) xE_135 (xE_135.drop 118) [.ref 83, .int a1, .int a2, .int a3, .int a4, .int a5, .int a6, .int a7, .int a8, .null, .null, .null, .null, .null, .null, .null] [] s Q := by
  unfold v_135_118 at h
  replace h := h _ (i_add (x := a4) (y := (-1)) rfl (show ((-1) : Int32).toInt = (-1) by decide))
  refine zn_inc [.ref 83, .int a1, .int a2, .int a3, .int (a4 + (-1)), .int a5, .int a6, .int a7, .int a8, .null, .null, .null, .null, .null, .null, .null] rfl rfl rfl rfl ?_
  refine zn_go rfl ?_
  refine zn_fg 5 ?_
  refine zn_fg 6 ?_
  refine zn_fg 7 ?_
  refine zn_fg 8 ?_
  exact r7 a1 a2 a3 (a4 + (-1)) s h
set_option maxRecDepth 20000 in
theorem m_135_95_39 {d d0 : Nat} (hd : d = d0 + 8) {R2 : Int32 → Int32 → Int32 → zS → Prop} {R7 : Int32 → Int32 → Int32 → Int32 → zS → Prop} {R44 : Int32 → Int32 → Int32 → Int32 → Int32 → Int32 → Int32 → Int32 → zS → Prop} {a1 : Int32} {a2 : Int32} {a3 : Int32} {a4 : Int32} {a5 : Int32} {a6 : Int32} {a7 : Int32} {a8 : Int32} {a9 : Int32} {a10 : Int32} {a11 : Int32} {t0 : Int32} {s : zS} {Q : Option Value → zS → Prop} (r2 : ∀ a1 a2 a3 s, R2 a1 a2 a3 s → Zn d [] [(39, 98)] ([(83, 1, 39), (83, 2, 40), (75, 0, 39), (75, 1, 57), (75, 2, 61)] : zW) ([(83, 1, 39), (83, 2, 40), (75, 0, 39), (75, 1, 57), (75, 2, 61)] : zW) xL_10 13 (none) xE_135 (xE_135.drop 2) [.ref 83, .int a1, .int a2, .int a3, .null, .null, .null, .null, .null, .null, .null, .null, .null, .null, .null, .null] [] s Q) (r7 : ∀ a1 a2 a3 a4 s, R7 a1 a2 a3 a4 s → Zn d [] [(39, 98)] ([(83, 1, 39), (83, 2, 40), (75, 0, 39), (75, 1, 57), (75, 2, 61)] : zW) ([(83, 1, 39), (83, 2, 40), (75, 0, 39), (75, 1, 57), (75, 2, 61)] : zW) xL_10 13 (none) xE_135 (xE_135.drop 7) [.ref 83, .int a1, .int a2, .int a3, .int a4, .null, .null, .null, .null, .null, .null, .null, .null, .null, .null, .null] [] s Q) (r44 : ∀ a1 a2 a3 a4 a5 a6 a7 a8 s, R44 a1 a2 a3 a4 a5 a6 a7 a8 s → Zn d [] [(39, 98)] ([(83, 1, 39), (83, 2, 40), (75, 0, 39), (75, 1, 57), (75, 2, 61)] : zW) ([(83, 1, 39), (83, 2, 40), (75, 0, 39), (75, 1, 57), (75, 2, 61)] : zW) xL_10 13 (none) xE_135 (xE_135.drop 44) [.ref 83, .int a1, .int a2, .int a3, .int a4, .int a5, .int a6, .int a7, .int a8, .null, .null, .null, .null, .null, .null, .null] [] s Q) (h : v_135_95 (fun j => Zt d (wd 39 j) j) 39 R2 R7 R44 a1 a2 a3 a4 a5 a6 a7 a8 a9 a10 a11 t0 s Q) : Zn d [] [(39, 98)] ([(83, 1, 39), (83, 2, 40), (75, 0, 39), (75, 1, 57), (75, 2, 61)] : zW) ([(83, 1, 39), (83, 2, 40), (75, 0, 39), (75, 1, 57), (75, 2, 61)] : zW) xL_10 13 (none) xE_135 (xE_135.drop 95) [.ref 83, .int a1, .int a2, .int a3, .int a4, .int a5, .int a6, .int a7, .int a8, .int a9, .int a10, .int a11, .null, .null, .null, .null] [.int t0] s Q := by
  unfold v_135_95 at h
  refine zn_st [.ref 83, .int a1, .int a2, .int a3, .int a4, .int a5, .int a6, .int a7, .int a8, .int a9, .int a10, .int a11, .int t0, .null, .null, .null] rfl rfl rfl ?_
  refine zn_ld rfl rfl rfl ?_
  refine zn_get (v := .ref 39) rfl (zv_C (a := 83) (n := 0) rfl rfl rfl) ?_
  refine zn_ld rfl rfl rfl ?_
  refine zn_ld rfl rfl rfl ?_
  refine zn_get (v := .ref 39) rfl (zv_C (a := 83) (n := 0) rfl rfl rfl) ?_
  refine zn_get (v := .ref 59) rfl (zv_R (a := 39) rfl rfl) ?_
  refine zn_ld rfl rfl rfl ?_
  refine zn_c [.int 18738, .int a7, .ref 59, .int t0, .ref 39] (xo_push (.int 18738)) rfl rfl ?_
  replace h := h _ (i_sub (x := a7) (y := 18738) rfl (show (18738 : Int32).toInt = 18738 by decide))
  refine zn_c [.int (a7 - 18738), .ref 59, .int t0, .ref 39] xo_isub rfl rfl ?_
  refine zn_row (a7 - 18738) [.int t0, .ref 39] (a := 59) hd rfl rfl rfl rfl ?_
  change Zn _ _ _ _ _ _ _ _ _ _ _ [.int (zg s 59 (a7 - 18738)), .int t0, .ref 39] _ _
  refine zn_zt [.ref 39, .int t0, .int (zg s 59 (a7 - 18738))] [] rfl rfl rfl rfl rfl (Zt.imp h (fun v2 s3 h => ?_))
  obtain ⟨rfl, h⟩ := h
  change Zn _ _ _ _ _ _ _ _ _ _ _ [] _ _
  refine zn_ld rfl rfl rfl ?_
  refine zn_get (v := .ref 75) rfl (zv_R (a := 83) rfl rfl) ?_
  refine zn_ld rfl rfl rfl ?_
  refine zn_putI (a := 75) rfl rfl rfl rfl ⟨Int32.le_toInt _, Int.le_of_lt_add_one (Int32.toInt_lt _)⟩ rfl rfl rfl ?_
  replace h := h _ rfl
  refine zn_ld rfl rfl rfl ?_
  refine zn_get (v := .ref 75) rfl (zv_R (a := 83) rfl rfl) ?_
  refine zn_ld rfl rfl rfl ?_
  refine zn_zt [.ref 75, .int a7] [] rfl rfl rfl rfl rfl (Zt.imp h (fun v5 s6 h => ?_))
  obtain ⟨x7, rfl, h⟩ := h
  change Zn _ _ _ _ _ _ _ _ _ _ _ [.int x7] _ _
  refine zn_st [.ref 83, .int a1, .int a2, .int a3, .int a4, .int a5, .int a6, .int x7, .int a8, .int a9, .int a10, .int a11, .int t0, .null, .null, .null] rfl rfl rfl ?_
  replace h := h _ (i_add (x := a8) (y := 1) rfl (show (1 : Int32).toInt = 1 by decide))
  refine zn_inc [.ref 83, .int a1, .int a2, .int a3, .int a4, .int a5, .int a6, .int x7, .int (a8 + 1), .int a9, .int a10, .int a11, .int t0, .null, .null, .null] rfl rfl rfl rfl ?_
  refine zn_go rfl ?_
  refine zn_fg 9 ?_
  refine zn_fg 10 ?_
  refine zn_fg 11 ?_
  refine zn_fg 12 ?_
  exact r44 a1 a2 a3 a4 a5 a6 x7 (a8 + 1) s6 h
set_option maxRecDepth 20000 in
theorem m_135_44_39 {d d0 : Nat} (hd : d = d0 + 8) {R2 : Int32 → Int32 → Int32 → zS → Prop} {R7 : Int32 → Int32 → Int32 → Int32 → zS → Prop} {R44 : Int32 → Int32 → Int32 → Int32 → Int32 → Int32 → Int32 → Int32 → zS → Prop} {a1 : Int32} {a2 : Int32} {a3 : Int32} {a4 : Int32} {a5 : Int32} {a6 : Int32} {a7 : Int32} {a8 : Int32} {s : zS} {Q : Option Value → zS → Prop} (r2 : ∀ a1 a2 a3 s, R2 a1 a2 a3 s → Zn d [] [(39, 98)] ([(83, 1, 39), (83, 2, 40), (75, 0, 39), (75, 1, 57), (75, 2, 61)] : zW) ([(83, 1, 39), (83, 2, 40), (75, 0, 39), (75, 1, 57), (75, 2, 61)] : zW) xL_10 13 (none) xE_135 (xE_135.drop 2) [.ref 83, .int a1, .int a2, .int a3, .null, .null, .null, .null, .null, .null, .null, .null, .null, .null, .null, .null] [] s Q) (r7 : ∀ a1 a2 a3 a4 s, R7 a1 a2 a3 a4 s → Zn d [] [(39, 98)] ([(83, 1, 39), (83, 2, 40), (75, 0, 39), (75, 1, 57), (75, 2, 61)] : zW) ([(83, 1, 39), (83, 2, 40), (75, 0, 39), (75, 1, 57), (75, 2, 61)] : zW) xL_10 13 (none) xE_135 (xE_135.drop 7) [.ref 83, .int a1, .int a2, .int a3, .int a4, .null, .null, .null, .null, .null, .null, .null, .null, .null, .null, .null] [] s Q) (r44 : ∀ a1 a2 a3 a4 a5 a6 a7 a8 s, R44 a1 a2 a3 a4 a5 a6 a7 a8 s → Zn d [] [(39, 98)] ([(83, 1, 39), (83, 2, 40), (75, 0, 39), (75, 1, 57), (75, 2, 61)] : zW) ([(83, 1, 39), (83, 2, 40), (75, 0, 39), (75, 1, 57), (75, 2, 61)] : zW) xL_10 13 (none) xE_135 (xE_135.drop 44) [.ref 83, .int a1, .int a2, .int a3, .int a4, .int a5, .int a6, .int a7, .int a8, .null, .null, .null, .null, .null, .null, .null] [] s Q) (h : v_135_44 (fun j => Zt d (wd 39 j) j) 39 R2 R7 R44 a1 a2 a3 a4 a5 a6 a7 a8 s Q) : Zn d [] [(39, 98)] ([(83, 1, 39), (83, 2, 40), (75, 0, 39), (75, 1, 57), (75, 2, 61)] : zW) ([(83, 1, 39), (83, 2, 40), (75, 0, 39), (75, 1, 57), (75, 2, 61)] : zW) xL_10 13 (none) xE_135 (xE_135.drop 44) [.ref 83, .int a1, .int a2, .int a3, .int a4, .int a5, .int a6, .int a7, .int a8, .null, .null, .null, .null, .null, .null, .null] [] s Q := by
  unfold v_135_44 at h
  refine zn_ld rfl rfl rfl ?_
  refine zn_brP rfl rfl ⟨fun hcn => ?_, fun hcn => ?_⟩
  · replace h := h.1 ((i_eq (x := a6) (y := 0) rfl (show (0 : Int32).toInt = 0 by decide)).mp hcn)
    exact m_135_118_39 hd r2 r7 h
  · replace h := h.2 (fun q => hcn ((i_eq (x := a6) (y := 0) rfl (show (0 : Int32).toInt = 0 by decide)).mpr q))
    refine zn_ld rfl rfl rfl ?_
    refine zn_ld rfl rfl rfl ?_
    refine zn_get (v := .ref 39) rfl (zv_C (a := 83) (n := 0) rfl rfl rfl) ?_
    refine zn_get (v := .ref 61) rfl (zv_R (a := 39) rfl rfl) ?_
    refine zn_ld rfl rfl rfl ?_
    refine zn_row a5 [.int a8] (a := 61) hd rfl rfl rfl rfl ?_
    change Zn _ _ _ _ _ _ _ _ _ _ _ [.int (zg s 61 a5), .int a8] _ _
    refine zn_brP rfl rfl ⟨fun hcn => ?_, fun hcn => ?_⟩
    · replace h := h.1 ((i_le (x := zg s 61 a5) (y := a8) rfl rfl).mp hcn)
      exact m_135_118_39 hd r2 r7 h
    · replace h := h.2 (fun q => hcn ((i_le (x := zg s 61 a5) (y := a8) rfl rfl).mpr q))
      refine zn_ld rfl rfl rfl ?_
      refine zn_get (v := .ref 75) rfl (zv_R (a := 83) rfl rfl) ?_
      refine zn_get (v := .int (s.1 75 3)) rfl (zv_I (a := 75) rfl rfl) ?_
      refine zn_st [.ref 83, .int a1, .int a2, .int a3, .int a4, .int a5, .int a6, .int a7, .int a8, .int (s.1 75 3), .null, .null, .null, .null, .null, .null] rfl rfl rfl ?_
      refine zn_ld rfl rfl rfl ?_
      refine zn_get (v := .ref 75) rfl (zv_R (a := 83) rfl rfl) ?_
      refine zn_ld rfl rfl rfl ?_
      refine zn_get (v := .ref 75) rfl (zv_R (a := 83) rfl rfl) ?_
      refine zn_get (v := .ref 76) rfl (zv_R (a := 75) rfl rfl) ?_
      refine zn_ld rfl rfl rfl ?_
      refine zn_c [.int 0, .int a4, .ref 76, .ref 75] (xo_push (.int 0)) rfl rfl ?_
      refine zn_c [.int 0, .int 0, .int a4, .ref 76, .ref 75] (xo_push (.int 0)) rfl rfl ?_
      refine zn_zt [.ref 75, .ref 76, .int a4, .int 0, .int 0] [] rfl rfl rfl rfl rfl (Zt.imp h (fun v1 s2 h => ?_))
      obtain ⟨rfl, h⟩ := h
      change Zn _ _ _ _ _ _ _ _ _ _ _ [] _ _
      refine zn_ld rfl rfl rfl ?_
      refine zn_get (v := .ref 39) rfl (zv_C (a := 83) (n := 0) rfl rfl rfl) ?_
      refine zn_ld rfl rfl rfl ?_
      refine zn_get (v := .ref 39) rfl (zv_C (a := 83) (n := 0) rfl rfl rfl) ?_
      refine zn_ld rfl rfl rfl ?_
      refine zn_c [.int 2, .int a5, .ref 39, .ref 39] (xo_push (.int 2)) rfl rfl ?_
      refine zn_zt [.ref 39, .int a5, .int 2] [.ref 39] (c := []) rfl rfl rfl rfl rfl (Zt.imp (zp_39 hd (Or.inr rfl)) (fun vq sq hq => ?_))
      obtain ⟨rfl, hq⟩ := hq
      rw [hq]
      change Zn _ _ _ _ _ _ _ _ _ _ _ [.int (zg s2 63 (a5 * 6 + 2)), .ref 39] _ _
      refine zn_ld rfl rfl rfl ?_
      replace h := h _ (i_add (x := zg s2 63 (a5 * 6 + 2)) (y := a8) rfl rfl)
      refine zn_c [.int ((zg s2 63 (a5 * 6 + 2)) + a8), .ref 39] xo_iadd rfl rfl ?_
      refine zn_c [.int 3, .int ((zg s2 63 (a5 * 6 + 2)) + a8), .ref 39] (xo_push (.int 3)) rfl rfl ?_
      refine zn_zt [.ref 39, .int ((zg s2 63 (a5 * 6 + 2)) + a8), .int 3] [] (c := []) rfl rfl rfl rfl rfl (Zt.imp (zp_42 hd (Or.inr rfl)) (fun vq sq hq => ?_))
      obtain ⟨rfl, hq⟩ := hq
      rw [hq]
      change Zn _ _ _ _ _ _ _ _ _ _ _ [.int (zg s2 69 (((zg s2 63 (a5 * 6 + 2)) + a8) * 5 + 3))] _ _
      refine zn_st [.ref 83, .int a1, .int a2, .int a3, .int a4, .int a5, .int a6, .int a7, .int a8, .int (s.1 75 3), .int (zg s2 69 (((zg s2 63 (a5 * 6 + 2)) + a8) * 5 + 3)), .null, .null, .null, .null, .null] rfl rfl rfl ?_
      refine zn_ld rfl rfl rfl ?_
      refine zn_get (v := .ref 75) rfl (zv_R (a := 83) rfl rfl) ?_
      refine zn_ld rfl rfl rfl ?_
      refine zn_ld rfl rfl rfl ?_
      refine zn_get (v := .ref 75) rfl (zv_R (a := 83) rfl rfl) ?_
      refine zn_get (v := .ref 76) rfl (zv_R (a := 75) rfl rfl) ?_
      refine zn_zt [.ref 75, .int (zg s2 69 (((zg s2 63 (a5 * 6 + 2)) + a8) * 5 + 3)), .ref 76] [] rfl rfl rfl rfl rfl (Zt.imp h (fun v6 s7 h => ?_))
      obtain ⟨x8, rfl, h⟩ := h
      change Zn _ _ _ _ _ _ _ _ _ _ _ [.int x8] _ _
      refine zn_st [.ref 83, .int a1, .int a2, .int a3, .int a4, .int a5, .int a6, .int a7, .int a8, .int (s.1 75 3), .int (zg s2 69 (((zg s2 63 (a5 * 6 + 2)) + a8) * 5 + 3)), .int x8, .null, .null, .null, .null] rfl rfl rfl ?_
      refine zn_ld rfl rfl rfl ?_
      refine zn_brP rfl rfl ⟨fun hcn => ?_, fun hcn => ?_⟩
      · replace h := h.1 ((i_le (x := 0) (y := x8) (show (0 : Int32).toInt = 0 by decide) rfl).mp hcn)
        refine zn_ld rfl rfl rfl ?_
        refine zn_get (v := .ref 75) rfl (zv_R (a := 83) rfl rfl) ?_
        refine zn_ld rfl rfl rfl ?_
        refine zn_ld rfl rfl rfl ?_
        refine zn_zt [.ref 75, .int a7, .int x8] [] rfl rfl rfl rfl rfl (Zt.imp h (fun v9 s10 h => ?_))
        obtain ⟨x11, rfl, h⟩ := h
        change Zn _ _ _ _ _ _ _ _ _ _ _ [.int x11] _ _
        exact m_135_95_39 hd r2 r7 r44 h
      · replace h := h.2 (fun q => hcn ((i_le (x := 0) (y := x8) (show (0 : Int32).toInt = 0 by decide) rfl).mpr q))
        refine zn_c [.int 9] (xo_push (.int 9)) rfl rfl ?_
        refine zn_go rfl ?_
        exact m_135_95_39 hd r2 r7 r44 h
theorem ml_135_44_39 {d d0 : Nat} (hd : d = d0 + 8) {R2 : Int32 → Int32 → Int32 → zS → Prop} {R7 : Int32 → Int32 → Int32 → Int32 → zS → Prop} {a1 : Int32} {a2 : Int32} {a3 : Int32} {a4 : Int32} {a5 : Int32} {a6 : Int32} {a7 : Int32} {a8 : Int32} {s : zS} {Q : Option Value → zS → Prop} (r2 : ∀ a1 a2 a3 s, R2 a1 a2 a3 s → Zn d [] [(39, 98)] ([(83, 1, 39), (83, 2, 40), (75, 0, 39), (75, 1, 57), (75, 2, 61)] : zW) ([(83, 1, 39), (83, 2, 40), (75, 0, 39), (75, 1, 57), (75, 2, 61)] : zW) xL_10 13 (none) xE_135 (xE_135.drop 2) [.ref 83, .int a1, .int a2, .int a3, .null, .null, .null, .null, .null, .null, .null, .null, .null, .null, .null, .null] [] s Q) (r7 : ∀ a1 a2 a3 a4 s, R7 a1 a2 a3 a4 s → Zn d [] [(39, 98)] ([(83, 1, 39), (83, 2, 40), (75, 0, 39), (75, 1, 57), (75, 2, 61)] : zW) ([(83, 1, 39), (83, 2, 40), (75, 0, 39), (75, 1, 57), (75, 2, 61)] : zW) xL_10 13 (none) xE_135 (xE_135.drop 7) [.ref 83, .int a1, .int a2, .int a3, .int a4, .null, .null, .null, .null, .null, .null, .null, .null, .null, .null, .null] [] s Q) (h : vl_135_44 (fun j => Zt d (wd 39 j) j) 39 R2 R7 a1 a2 a3 a4 a5 a6 a7 a8 s Q) : Zn d [] [(39, 98)] ([(83, 1, 39), (83, 2, 40), (75, 0, 39), (75, 1, 57), (75, 2, 61)] : zW) ([(83, 1, 39), (83, 2, 40), (75, 0, 39), (75, 1, 57), (75, 2, 61)] : zW) xL_10 13 (none) xE_135 (xE_135.drop 44) [.ref 83, .int a1, .int a2, .int a3, .int a4, .int a5, .int a6, .int a7, .int a8, .null, .null, .null, .null, .null, .null, .null] [] s Q := by
  obtain ⟨I, μ, h0, h1⟩ := h
  have key : ∀ (n : Nat) (a1 : Int32) (a2 : Int32) (a3 : Int32) (a4 : Int32) (a5 : Int32) (a6 : Int32) (a7 : Int32) (a8 : Int32) (s : zS), μ a1 a2 a3 a4 a5 a6 a7 a8 s = n → I a1 a2 a3 a4 a5 a6 a7 a8 s → Zn d [] [(39, 98)] ([(83, 1, 39), (83, 2, 40), (75, 0, 39), (75, 1, 57), (75, 2, 61)] : zW) ([(83, 1, 39), (83, 2, 40), (75, 0, 39), (75, 1, 57), (75, 2, 61)] : zW) xL_10 13 (none) xE_135 (xE_135.drop 44) [.ref 83, .int a1, .int a2, .int a3, .int a4, .int a5, .int a6, .int a7, .int a8, .null, .null, .null, .null, .null, .null, .null] [] s Q := by
    intro n
    induction n using Nat.strongRecOn with
    | ind n ih =>
      intro a1 a2 a3 a4 a5 a6 a7 a8 s e hI
      exact m_135_44_39 hd r2 r7 (fun a1' a2' a3' a4' a5' a6' a7' a8' s' q => ih _ (by rw [← e]; exact q.2) a1' a2' a3' a4' a5' a6' a7' a8' s' rfl q.1) (h1 a1 a2 a3 a4 a5 a6 a7 a8 s hI)
  exact key _ a1 a2 a3 a4 a5 a6 a7 a8 s rfl h0
set_option maxRecDepth 20000 in
theorem m_135_37_39 {d d0 : Nat} (hd : d = d0 + 8) {R2 : Int32 → Int32 → Int32 → zS → Prop} {R7 : Int32 → Int32 → Int32 → Int32 → zS → Prop} {a1 : Int32} {a2 : Int32} {a3 : Int32} {a4 : Int32} {a5 : Int32} {t0 : Int32} {s : zS} {Q : Option Value → zS → Prop} (r2 : ∀ a1 a2 a3 s, R2 a1 a2 a3 s → Zn d [] [(39, 98)] ([(83, 1, 39), (83, 2, 40), (75, 0, 39), (75, 1, 57), (75, 2, 61)] : zW) ([(83, 1, 39), (83, 2, 40), (75, 0, 39), (75, 1, 57), (75, 2, 61)] : zW) xL_10 13 (none) xE_135 (xE_135.drop 2) [.ref 83, .int a1, .int a2, .int a3, .null, .null, .null, .null, .null, .null, .null, .null, .null, .null, .null, .null] [] s Q) (r7 : ∀ a1 a2 a3 a4 s, R7 a1 a2 a3 a4 s → Zn d [] [(39, 98)] ([(83, 1, 39), (83, 2, 40), (75, 0, 39), (75, 1, 57), (75, 2, 61)] : zW) ([(83, 1, 39), (83, 2, 40), (75, 0, 39), (75, 1, 57), (75, 2, 61)] : zW) xL_10 13 (none) xE_135 (xE_135.drop 7) [.ref 83, .int a1, .int a2, .int a3, .int a4, .null, .null, .null, .null, .null, .null, .null, .null, .null, .null, .null] [] s Q) (h : v_135_37 (fun j => Zt d (wd 39 j) j) 39 R2 R7 a1 a2 a3 a4 a5 t0 s Q) : Zn d [] [(39, 98)] ([(83, 1, 39), (83, 2, 40), (75, 0, 39), (75, 1, 57), (75, 2, 61)] : zW) ([(83, 1, 39), (83, 2, 40), (75, 0, 39), (75, 1, 57), (75, 2, 61)] : zW) xL_10 13 (none) xE_135 (xE_135.drop 37) [.ref 83, .int a1, .int a2, .int a3, .int a4, .int a5, .null, .null, .null, .null, .null, .null, .null, .null, .null, .null] [.int t0] s Q := by
  unfold v_135_37 at h
  refine zn_st [.ref 83, .int a1, .int a2, .int a3, .int a4, .int a5, .int t0, .null, .null, .null, .null, .null, .null, .null, .null, .null] rfl rfl rfl ?_
  refine zn_ld rfl rfl rfl ?_
  refine zn_c [.int 1, .int a4] (xo_push (.int 1)) rfl rfl ?_
  replace h := h _ (i_add (x := a4) (y := 1) rfl (show (1 : Int32).toInt = 1 by decide))
  refine zn_c [.int (a4 + 1)] xo_iadd rfl rfl ?_
  refine zn_st [.ref 83, .int a1, .int a2, .int a3, .int a4, .int a5, .int t0, .int (a4 + 1), .null, .null, .null, .null, .null, .null, .null, .null] rfl rfl rfl ?_
  refine zn_c [.int 0] (xo_push (.int 0)) rfl rfl ?_
  refine zn_st [.ref 83, .int a1, .int a2, .int a3, .int a4, .int a5, .int t0, .int (a4 + 1), .int 0, .null, .null, .null, .null, .null, .null, .null] rfl rfl rfl ?_
  exact ml_135_44_39 hd r2 r7 h
set_option maxRecDepth 20000 in
theorem m_135_36_39 {d d0 : Nat} (hd : d = d0 + 8) {R2 : Int32 → Int32 → Int32 → zS → Prop} {R7 : Int32 → Int32 → Int32 → Int32 → zS → Prop} {a1 : Int32} {a2 : Int32} {a3 : Int32} {a4 : Int32} {a5 : Int32} {s : zS} {Q : Option Value → zS → Prop} (r2 : ∀ a1 a2 a3 s, R2 a1 a2 a3 s → Zn d [] [(39, 98)] ([(83, 1, 39), (83, 2, 40), (75, 0, 39), (75, 1, 57), (75, 2, 61)] : zW) ([(83, 1, 39), (83, 2, 40), (75, 0, 39), (75, 1, 57), (75, 2, 61)] : zW) xL_10 13 (none) xE_135 (xE_135.drop 2) [.ref 83, .int a1, .int a2, .int a3, .null, .null, .null, .null, .null, .null, .null, .null, .null, .null, .null, .null] [] s Q) (r7 : ∀ a1 a2 a3 a4 s, R7 a1 a2 a3 a4 s → Zn d [] [(39, 98)] ([(83, 1, 39), (83, 2, 40), (75, 0, 39), (75, 1, 57), (75, 2, 61)] : zW) ([(83, 1, 39), (83, 2, 40), (75, 0, 39), (75, 1, 57), (75, 2, 61)] : zW) xL_10 13 (none) xE_135 (xE_135.drop 7) [.ref 83, .int a1, .int a2, .int a3, .int a4, .null, .null, .null, .null, .null, .null, .null, .null, .null, .null, .null] [] s Q) (h : v_135_36 (fun j => Zt d (wd 39 j) j) 39 R2 R7 a1 a2 a3 a4 a5 s Q) : Zn d [] [(39, 98)] ([(83, 1, 39), (83, 2, 40), (75, 0, 39), (75, 1, 57), (75, 2, 61)] : zW) ([(83, 1, 39), (83, 2, 40), (75, 0, 39), (75, 1, 57), (75, 2, 61)] : zW) xL_10 13 (none) xE_135 (xE_135.drop 36) [.ref 83, .int a1, .int a2, .int a3, .int a4, .int a5, .null, .null, .null, .null, .null, .null, .null, .null, .null, .null] [] s Q := by
  unfold v_135_36 at h
  refine zn_c [.int 0] (xo_push (.int 0)) rfl rfl ?_
  exact m_135_37_39 hd r2 r7 h
set_option maxRecDepth 20000 in
theorem m_135_7_39 {d d0 : Nat} (hd : d = d0 + 8) {R2 : Int32 → Int32 → Int32 → zS → Prop} {R7 : Int32 → Int32 → Int32 → Int32 → zS → Prop} {a1 : Int32} {a2 : Int32} {a3 : Int32} {a4 : Int32} {s : zS} {Q : Option Value → zS → Prop} (r2 : ∀ a1 a2 a3 s, R2 a1 a2 a3 s → Zn d [] [(39, 98)] ([(83, 1, 39), (83, 2, 40), (75, 0, 39), (75, 1, 57), (75, 2, 61)] : zW) ([(83, 1, 39), (83, 2, 40), (75, 0, 39), (75, 1, 57), (75, 2, 61)] : zW) xL_10 13 (none) xE_135 (xE_135.drop 2) [.ref 83, .int a1, .int a2, .int a3, .null, .null, .null, .null, .null, .null, .null, .null, .null, .null, .null, .null] [] s Q) (r7 : ∀ a1 a2 a3 a4 s, R7 a1 a2 a3 a4 s → Zn d [] [(39, 98)] ([(83, 1, 39), (83, 2, 40), (75, 0, 39), (75, 1, 57), (75, 2, 61)] : zW) ([(83, 1, 39), (83, 2, 40), (75, 0, 39), (75, 1, 57), (75, 2, 61)] : zW) xL_10 13 (none) xE_135 (xE_135.drop 7) [.ref 83, .int a1, .int a2, .int a3, .int a4, .null, .null, .null, .null, .null, .null, .null, .null, .null, .null, .null] [] s Q) (h : v_135_7 (fun j => Zt d (wd 39 j) j) 39 R2 R7 a1 a2 a3 a4 s Q) : Zn d [] [(39, 98)] ([(83, 1, 39), (83, 2, 40), (75, 0, 39), (75, 1, 57), (75, 2, 61)] : zW) ([(83, 1, 39), (83, 2, 40), (75, 0, 39), (75, 1, 57), (75, 2, 61)] : zW) xL_10 13 (none) xE_135 (xE_135.drop 7) [.ref 83, .int a1, .int a2, .int a3, .int a4, .null, .null, .null, .null, .null, .null, .null, .null, .null, .null, .null] [] s Q := by
  unfold v_135_7 at h
  refine zn_ld rfl rfl rfl ?_
  refine zn_ld rfl rfl rfl ?_
  refine zn_brP rfl rfl ⟨fun hcn => ?_, fun hcn => ?_⟩
  · replace h := h.1 ((i_lt (x := a4) (y := a1) rfl rfl).mp hcn)
    exact m_135_120_39 hd r2 h
  · replace h := h.2 (fun q => hcn ((i_lt (x := a4) (y := a1) rfl rfl).mpr q))
    refine zn_ld rfl rfl rfl ?_
    refine zn_get (v := .ref 39) rfl (zv_C (a := 83) (n := 0) rfl rfl rfl) ?_
    refine zn_get (v := .int (s.1 39 14)) rfl (zv_I (a := 39) rfl rfl) ?_
    refine zn_brN rfl rfl ⟨fun hcn => ?_, fun hcn => ?_⟩
    · replace h := h.1 (fun q => hcn ((i_eq (x := s.1 39 14) (y := 0) rfl (show (0 : Int32).toInt = 0 by decide)).mpr q))
      exact m_135_120_39 hd r2 h
    · replace h := h.2 ((i_eq (x := s.1 39 14) (y := 0) rfl (show (0 : Int32).toInt = 0 by decide)).mp hcn)
      refine zn_ld rfl rfl rfl ?_
      refine zn_get (v := .ref 39) rfl (zv_C (a := 83) (n := 0) rfl rfl rfl) ?_
      refine zn_get (v := .ref 57) rfl (zv_R (a := 39) rfl rfl) ?_
      refine zn_ld rfl rfl rfl ?_
      refine zn_row a4 [] (a := 57) hd rfl rfl rfl rfl ?_
      change Zn _ _ _ _ _ _ _ _ _ _ _ [.int (zg s 57 a4)] _ _
      refine zn_st [.ref 83, .int a1, .int a2, .int a3, .int a4, .int (zg s 57 a4), .null, .null, .null, .null, .null, .null, .null, .null, .null, .null] rfl rfl rfl ?_
      refine zn_ld rfl rfl rfl ?_
      refine zn_get (v := .ref 39) rfl (zv_C (a := 83) (n := 0) rfl rfl rfl) ?_
      refine zn_get (v := .ref 61) rfl (zv_R (a := 39) rfl rfl) ?_
      refine zn_ld rfl rfl rfl ?_
      refine zn_row (zg s 57 a4) [] (a := 61) hd rfl rfl rfl rfl ?_
      change Zn _ _ _ _ _ _ _ _ _ _ _ [.int (zg s 61 (zg s 57 a4))] _ _
      refine zn_brP rfl rfl ⟨fun hcn => ?_, fun hcn => ?_⟩
      · replace h := h.1 ((i_le (x := zg s 61 (zg s 57 a4)) (y := 0) rfl (show (0 : Int32).toInt = 0 by decide)).mp hcn)
        exact m_135_36_39 hd r2 r7 h
      · replace h := h.2 (fun q => hcn ((i_le (x := zg s 61 (zg s 57 a4)) (y := 0) rfl (show (0 : Int32).toInt = 0 by decide)).mpr q))
        refine zn_ld rfl rfl rfl ?_
        refine zn_get (v := .ref 75) rfl (zv_R (a := 83) rfl rfl) ?_
        refine zn_ld rfl rfl rfl ?_
        refine zn_zt [.ref 75, .int a4] [] rfl rfl rfl rfl rfl (Zt.imp h (fun v1 s2 h => ?_))
        obtain ⟨x3, rfl, h⟩ := h
        change Zn _ _ _ _ _ _ _ _ _ _ _ [.int x3] _ _
        refine zn_ld rfl rfl rfl ?_
        refine zn_c [.int 1, .int a3, .int x3] (xo_push (.int 1)) rfl rfl ?_
        replace h := h _ (i_add (x := a3) (y := 1) rfl (show (1 : Int32).toInt = 1 by decide))
        refine zn_c [.int (a3 + 1), .int x3] xo_iadd rfl rfl ?_
        refine zn_brN rfl rfl ⟨fun hcn => ?_, fun hcn => ?_⟩
        · replace h := h.1 (fun q => hcn ((i_eq (x := x3) (y := (a3 + 1)) rfl rfl).mpr q))
          exact m_135_36_39 hd r2 r7 h
        · replace h := h.2 ((i_eq (x := x3) (y := (a3 + 1)) rfl rfl).mp hcn)
          refine zn_c [.int 1] (xo_push (.int 1)) rfl rfl ?_
          refine zn_go rfl ?_
          exact m_135_37_39 hd r2 r7 h
theorem ml_135_7_39 {d d0 : Nat} (hd : d = d0 + 8) {R2 : Int32 → Int32 → Int32 → zS → Prop} {a1 : Int32} {a2 : Int32} {a3 : Int32} {a4 : Int32} {s : zS} {Q : Option Value → zS → Prop} (r2 : ∀ a1 a2 a3 s, R2 a1 a2 a3 s → Zn d [] [(39, 98)] ([(83, 1, 39), (83, 2, 40), (75, 0, 39), (75, 1, 57), (75, 2, 61)] : zW) ([(83, 1, 39), (83, 2, 40), (75, 0, 39), (75, 1, 57), (75, 2, 61)] : zW) xL_10 13 (none) xE_135 (xE_135.drop 2) [.ref 83, .int a1, .int a2, .int a3, .null, .null, .null, .null, .null, .null, .null, .null, .null, .null, .null, .null] [] s Q) (h : vl_135_7 (fun j => Zt d (wd 39 j) j) 39 R2 a1 a2 a3 a4 s Q) : Zn d [] [(39, 98)] ([(83, 1, 39), (83, 2, 40), (75, 0, 39), (75, 1, 57), (75, 2, 61)] : zW) ([(83, 1, 39), (83, 2, 40), (75, 0, 39), (75, 1, 57), (75, 2, 61)] : zW) xL_10 13 (none) xE_135 (xE_135.drop 7) [.ref 83, .int a1, .int a2, .int a3, .int a4, .null, .null, .null, .null, .null, .null, .null, .null, .null, .null, .null] [] s Q := by
  obtain ⟨I, μ, h0, h1⟩ := h
  have key : ∀ (n : Nat) (a1 : Int32) (a2 : Int32) (a3 : Int32) (a4 : Int32) (s : zS), μ a1 a2 a3 a4 s = n → I a1 a2 a3 a4 s → Zn d [] [(39, 98)] ([(83, 1, 39), (83, 2, 40), (75, 0, 39), (75, 1, 57), (75, 2, 61)] : zW) ([(83, 1, 39), (83, 2, 40), (75, 0, 39), (75, 1, 57), (75, 2, 61)] : zW) xL_10 13 (none) xE_135 (xE_135.drop 7) [.ref 83, .int a1, .int a2, .int a3, .int a4, .null, .null, .null, .null, .null, .null, .null, .null, .null, .null, .null] [] s Q := by
    intro n
    induction n using Nat.strongRecOn with
    | ind n ih =>
      intro a1 a2 a3 a4 s e hI
      exact m_135_7_39 hd r2 (fun a1' a2' a3' a4' s' q => ih _ (by rw [← e]; exact q.2) a1' a2' a3' a4' s' rfl q.1) (h1 a1 a2 a3 a4 s hI)
  exact key _ a1 a2 a3 a4 s rfl h0
set_option maxRecDepth 20000 in
theorem m_135_2_39 {d d0 : Nat} (hd : d = d0 + 8) {R2 : Int32 → Int32 → Int32 → zS → Prop} {a1 : Int32} {a2 : Int32} {a3 : Int32} {s : zS} {Q : Option Value → zS → Prop} (r2 : ∀ a1 a2 a3 s, R2 a1 a2 a3 s → Zn d [] [(39, 98)] ([(83, 1, 39), (83, 2, 40), (75, 0, 39), (75, 1, 57), (75, 2, 61)] : zW) ([(83, 1, 39), (83, 2, 40), (75, 0, 39), (75, 1, 57), (75, 2, 61)] : zW) xL_10 13 (none) xE_135 (xE_135.drop 2) [.ref 83, .int a1, .int a2, .int a3, .null, .null, .null, .null, .null, .null, .null, .null, .null, .null, .null, .null] [] s Q) (h : v_135_2 (fun j => Zt d (wd 39 j) j) 39 R2 a1 a2 a3 s Q) : Zn d [] [(39, 98)] ([(83, 1, 39), (83, 2, 40), (75, 0, 39), (75, 1, 57), (75, 2, 61)] : zW) ([(83, 1, 39), (83, 2, 40), (75, 0, 39), (75, 1, 57), (75, 2, 61)] : zW) xL_10 13 (none) xE_135 (xE_135.drop 2) [.ref 83, .int a1, .int a2, .int a3, .null, .null, .null, .null, .null, .null, .null, .null, .null, .null, .null, .null] [] s Q := by
  unfold v_135_2 at h
  refine zn_ld rfl rfl rfl ?_
  refine zn_ld rfl rfl rfl ?_
  refine zn_brP rfl rfl ⟨fun hcn => ?_, fun hcn => ?_⟩
  · replace h := h.1 ((i_le (x := a2) (y := a3) rfl rfl).mp hcn)
    exact zn_ret0 rfl h
  · replace h := h.2 (fun q => hcn ((i_le (x := a2) (y := a3) rfl rfl).mpr q))
    refine zn_ld rfl rfl rfl ?_
    refine zn_st [.ref 83, .int a1, .int a2, .int a3, .int a3, .null, .null, .null, .null, .null, .null, .null, .null, .null, .null, .null] rfl rfl rfl ?_
    exact ml_135_7_39 hd r2 h
theorem ml_135_2_39 {d d0 : Nat} (hd : d = d0 + 8)  {a1 : Int32} {a2 : Int32} {a3 : Int32} {s : zS} {Q : Option Value → zS → Prop}  (h : vl_135_2 (fun j => Zt d (wd 39 j) j) 39  a1 a2 a3 s Q) : Zn d [] [(39, 98)] ([(83, 1, 39), (83, 2, 40), (75, 0, 39), (75, 1, 57), (75, 2, 61)] : zW) ([(83, 1, 39), (83, 2, 40), (75, 0, 39), (75, 1, 57), (75, 2, 61)] : zW) xL_10 13 (none) xE_135 (xE_135.drop 2) [.ref 83, .int a1, .int a2, .int a3, .null, .null, .null, .null, .null, .null, .null, .null, .null, .null, .null, .null] [] s Q := by
  obtain ⟨I, μ, h0, h1⟩ := h
  have key : ∀ (n : Nat) (a1 : Int32) (a2 : Int32) (a3 : Int32) (s : zS), μ a1 a2 a3 s = n → I a1 a2 a3 s → Zn d [] [(39, 98)] ([(83, 1, 39), (83, 2, 40), (75, 0, 39), (75, 1, 57), (75, 2, 61)] : zW) ([(83, 1, 39), (83, 2, 40), (75, 0, 39), (75, 1, 57), (75, 2, 61)] : zW) xL_10 13 (none) xE_135 (xE_135.drop 2) [.ref 83, .int a1, .int a2, .int a3, .null, .null, .null, .null, .null, .null, .null, .null, .null, .null, .null, .null] [] s Q := by
    intro n
    induction n using Nat.strongRecOn with
    | ind n ih =>
      intro a1 a2 a3 s e hI
      exact m_135_2_39 hd (fun a1' a2' a3' s' q => ih _ (by rw [← e]; exact q.2) a1' a2' a3' s' rfl q.1) (h1 a1 a2 a3 s hI)
  exact key _ a1 a2 a3 s rfl h0
set_option maxRecDepth 20000 in
theorem m_135_0_39 {d d0 : Nat} (hd : d = d0 + 8)  {a1 : Int32} {a2 : Int32} {s : zS} {Q : Option Value → zS → Prop}  (h : v_135_0 (fun j => Zt d (wd 39 j) j) 39  a1 a2 s Q) : Zn d [] [(39, 98)] ([(83, 1, 39), (83, 2, 40), (75, 0, 39), (75, 1, 57), (75, 2, 61)] : zW) ([(83, 1, 39), (83, 2, 40), (75, 0, 39), (75, 1, 57), (75, 2, 61)] : zW) xL_10 13 (none) xE_135 (xE_135.drop 0) [.ref 83, .int a1, .int a2, .null, .null, .null, .null, .null, .null, .null, .null, .null, .null, .null, .null, .null] [] s Q := by
  unfold v_135_0 at h
  refine zn_ld rfl rfl rfl ?_
  refine zn_st [.ref 83, .int a1, .int a2, .int a1, .null, .null, .null, .null, .null, .null, .null, .null, .null, .null, .null, .null] rfl rfl rfl ?_
  exact ml_135_2_39 hd  h
theorem zq_135_39 {d : Nat} {a1 : Int32} {a2 : Int32} {s : zS} {Q : Option Value → zS → Prop} (h : v_135_0 (fun j => Zt (d + 8) (wd 39 j) j) 39 a1 a2 s Q) : Zt (d + 9) ([(83, 1, 39), (83, 2, 40), (75, 0, 39), (75, 1, 57), (75, 2, 61)] : zW) 135 [.ref 83, .int a1, .int a2] s Q := zt_of (E := xE_135) (L := xL_10) (ml := 13) (ret := none) rfl rfl rfl (m_135_0_39 rfl h)
theorem zc_135 {d P : Nat} (hP : P = 3 ∨ P = 39) {a1 : Int32} {a2 : Int32} {s : zS} {Q : Option Value → zS → Prop} (h : v_135_0 (fun j => Zt (d + 8) (wd P j) j) P a1 a2 s Q) : Zt (d + 9) (wd P 135) 135 [.ref 83, .int a1, .int a2] s Q := by
  rcases hP with rfl | rfl
  · exact zq_135_3 h
  · exact zq_135_39 h
/-! FeatherBench$Told.heldBy -/
def v_137_47 (T : Nat → List Value → zS → (Option Value → zS → Prop) → Prop) (P : Nat) (R17 : Int32 → Int32 → Int32 → Int32 → zS → Prop) (a1 : Int32) (a2 : Int32) (a3 : Int32) (a4 : Int32) (a5 : Int32) (t0 : Int32) (t1 : Int32) (s : zS) (Q : Option Value → zS → Prop) : Prop :=
  ∀ x1 : Int32, (-2147483648 ≤ a4.toInt + 1 ∧ a4.toInt + 1 ≤ 2147483647 → x1.toInt = a4.toInt + 1) → R17 a1 (t0 ||| t1) a3 x1 s
def v_137_17 (T : Nat → List Value → zS → (Option Value → zS → Prop) → Prop) (P : Nat) (R17 : Int32 → Int32 → Int32 → Int32 → zS → Prop) (a1 : Int32) (a2 : Int32) (a3 : Int32) (a4 : Int32) (s : zS) (Q : Option Value → zS → Prop) : Prop :=
  (a3.toInt ≤ a4.toInt → Q (some (.int a2)) s) ∧ (¬ (a3.toInt ≤ a4.toInt) → ∀ x2 : Int32, (-2147483648 ≤ (zg s (P + 24) (a1 * 6 + 3)).toInt + a4.toInt ∧ (zg s (P + 24) (a1 * 6 + 3)).toInt + a4.toInt ≤ 2147483647 → x2.toInt = (zg s (P + 24) (a1 * 6 + 3)).toInt + a4.toInt) → ((zStr s P (zg s (P + 18) (zg s (P + 30) (x2 * 5 + 3)))).toInt = 0 → v_137_47 T P R17 a1 a2 a3 a4 (zg s (P + 18) (zg s (P + 30) (x2 * 5 + 3))) a2 0 s Q) ∧ (¬ ((zStr s P (zg s (P + 18) (zg s (P + 30) (x2 * 5 + 3)))).toInt = 0) → v_137_47 T P R17 a1 a2 a3 a4 (zg s (P + 18) (zg s (P + 30) (x2 * 5 + 3))) a2 (1 <<< ((zg s (P + 18) (zg s (P + 30) (x2 * 5 + 3))) &&& 31)) s Q))
def vl_137_17 (T : Nat → List Value → zS → (Option Value → zS → Prop) → Prop) (P : Nat)  (a1 : Int32) (a2 : Int32) (a3 : Int32) (a4 : Int32) (s : zS) (Q : Option Value → zS → Prop) : Prop :=
  ∃ (I : Int32 → Int32 → Int32 → Int32 → zS → Prop) (μ : Int32 → Int32 → Int32 → Int32 → zS → Nat), I a1 a2 a3 a4 s ∧ ∀ (a1 : Int32) (a2 : Int32) (a3 : Int32) (a4 : Int32) (s : zS), I a1 a2 a3 a4 s → v_137_17 T P (fun a1' a2' a3' a4' s' => I a1' a2' a3' a4' s' ∧ μ a1' a2' a3' a4' s' < μ a1 a2 a3 a4 s) a1 a2 a3 a4 s Q
def v_137_14 (T : Nat → List Value → zS → (Option Value → zS → Prop) → Prop) (P : Nat)  (a1 : Int32) (a2 : Int32) (t0 : Int32) (s : zS) (Q : Option Value → zS → Prop) : Prop :=
  vl_137_17 T P  a1 a2 t0 0 s Q
def v_137_0 (T : Nat → List Value → zS → (Option Value → zS → Prop) → Prop) (P : Nat)  (a1 : Int32) (s : zS) (Q : Option Value → zS → Prop) : Prop :=
  ((zStr s P a1).toInt = 0 → v_137_14 T P  a1 0 0 s Q) ∧ (¬ ((zStr s P a1).toInt = 0) → v_137_14 T P  a1 0 (zg s (P + 24) (a1 * 6 + 4)) s Q)
set_option maxRecDepth 20000 in
theorem m_137_47_3 {d d0 : Nat} (hd : d = d0 + 8) {R17 : Int32 → Int32 → Int32 → Int32 → zS → Prop} {a1 : Int32} {a2 : Int32} {a3 : Int32} {a4 : Int32} {a5 : Int32} {t0 : Int32} {t1 : Int32} {s : zS} {Q : Option Value → zS → Prop} (r17 : ∀ a1 a2 a3 a4 s, R17 a1 a2 a3 a4 s → Zn d [] [] ([(83, 1, 3), (83, 2, 4), (75, 0, 3), (75, 1, 21), (75, 2, 25)] : zW) ([(83, 1, 3), (83, 2, 4), (75, 0, 3), (75, 1, 21), (75, 2, 25)] : zW) xL_10 6 (some .int) xE_137 (xE_137.drop 17) [.ref 83, .int a1, .int a2, .int a3, .int a4, .null, .null, .null] [] s Q) (h : v_137_47 (fun j => Zt d (wd 3 j) j) 3 R17 a1 a2 a3 a4 a5 t0 t1 s Q) : Zn d [] [] ([(83, 1, 3), (83, 2, 4), (75, 0, 3), (75, 1, 21), (75, 2, 25)] : zW) ([(83, 1, 3), (83, 2, 4), (75, 0, 3), (75, 1, 21), (75, 2, 25)] : zW) xL_10 6 (some .int) xE_137 (xE_137.drop 47) [.ref 83, .int a1, .int a2, .int a3, .int a4, .int a5, .null, .null] [.int t1, .int t0] s Q := by
  unfold v_137_47 at h
  refine zn_c [.int (t0 ||| t1)] xo_ior rfl rfl ?_
  refine zn_st [.ref 83, .int a1, .int (t0 ||| t1), .int a3, .int a4, .int a5, .null, .null] rfl rfl rfl ?_
  replace h := h _ (i_add (x := a4) (y := 1) rfl (show (1 : Int32).toInt = 1 by decide))
  refine zn_inc [.ref 83, .int a1, .int (t0 ||| t1), .int a3, .int (a4 + 1), .int a5, .null, .null] rfl rfl rfl rfl ?_
  refine zn_go rfl ?_
  refine zn_fg 5 ?_
  exact r17 a1 (t0 ||| t1) a3 (a4 + 1) s h
set_option maxRecDepth 20000 in
theorem m_137_17_3 {d d0 : Nat} (hd : d = d0 + 8) {R17 : Int32 → Int32 → Int32 → Int32 → zS → Prop} {a1 : Int32} {a2 : Int32} {a3 : Int32} {a4 : Int32} {s : zS} {Q : Option Value → zS → Prop} (r17 : ∀ a1 a2 a3 a4 s, R17 a1 a2 a3 a4 s → Zn d [] [] ([(83, 1, 3), (83, 2, 4), (75, 0, 3), (75, 1, 21), (75, 2, 25)] : zW) ([(83, 1, 3), (83, 2, 4), (75, 0, 3), (75, 1, 21), (75, 2, 25)] : zW) xL_10 6 (some .int) xE_137 (xE_137.drop 17) [.ref 83, .int a1, .int a2, .int a3, .int a4, .null, .null, .null] [] s Q) (h : v_137_17 (fun j => Zt d (wd 3 j) j) 3 R17 a1 a2 a3 a4 s Q) : Zn d [] [] ([(83, 1, 3), (83, 2, 4), (75, 0, 3), (75, 1, 21), (75, 2, 25)] : zW) ([(83, 1, 3), (83, 2, 4), (75, 0, 3), (75, 1, 21), (75, 2, 25)] : zW) xL_10 6 (some .int) xE_137 (xE_137.drop 17) [.ref 83, .int a1, .int a2, .int a3, .int a4, .null, .null, .null] [] s Q := by
  unfold v_137_17 at h
  refine zn_ld rfl rfl rfl ?_
  refine zn_ld rfl rfl rfl ?_
  refine zn_brP rfl rfl ⟨fun hcn => ?_, fun hcn => ?_⟩
  · replace h := h.1 ((i_le (x := a3) (y := a4) rfl rfl).mp hcn)
    refine zn_ld rfl rfl rfl ?_
    exact zn_retI rfl h
  · replace h := h.2 (fun q => hcn ((i_le (x := a3) (y := a4) rfl rfl).mpr q))
    refine zn_ld rfl rfl rfl ?_
    refine zn_get (v := .ref 3) rfl (zv_C (a := 83) (n := 0) rfl rfl rfl) ?_
    refine zn_get (v := .ref 21) rfl (zv_R (a := 3) rfl rfl) ?_
    refine zn_ld rfl rfl rfl ?_
    refine zn_get (v := .ref 3) rfl (zv_C (a := 83) (n := 0) rfl rfl rfl) ?_
    refine zn_ld rfl rfl rfl ?_
    refine zn_get (v := .ref 3) rfl (zv_C (a := 83) (n := 0) rfl rfl rfl) ?_
    refine zn_ld rfl rfl rfl ?_
    refine zn_c [.int 3, .int a1, .ref 3, .ref 3, .ref 21] (xo_push (.int 3)) rfl rfl ?_
    refine zn_zt [.ref 3, .int a1, .int 3] [.ref 3, .ref 21] (c := []) rfl rfl rfl rfl rfl (Zt.imp (zp_39 hd (Or.inl rfl)) (fun vq sq hq => ?_))
    obtain ⟨rfl, hq⟩ := hq
    rw [hq]
    change Zn _ _ _ _ _ _ _ _ _ _ _ [.int (zg s 27 (a1 * 6 + 3)), .ref 3, .ref 21] _ _
    refine zn_ld rfl rfl rfl ?_
    replace h := h _ (i_add (x := zg s 27 (a1 * 6 + 3)) (y := a4) rfl rfl)
    refine zn_c [.int ((zg s 27 (a1 * 6 + 3)) + a4), .ref 3, .ref 21] xo_iadd rfl rfl ?_
    refine zn_c [.int 3, .int ((zg s 27 (a1 * 6 + 3)) + a4), .ref 3, .ref 21] (xo_push (.int 3)) rfl rfl ?_
    refine zn_zt [.ref 3, .int ((zg s 27 (a1 * 6 + 3)) + a4), .int 3] [.ref 21] (c := []) rfl rfl rfl rfl rfl (Zt.imp (zp_42 hd (Or.inl rfl)) (fun vq sq hq => ?_))
    obtain ⟨rfl, hq⟩ := hq
    rw [hq]
    change Zn _ _ _ _ _ _ _ _ _ _ _ [.int (zg s 33 (((zg s 27 (a1 * 6 + 3)) + a4) * 5 + 3)), .ref 21] _ _
    refine zn_row (zg s 33 (((zg s 27 (a1 * 6 + 3)) + a4) * 5 + 3)) [] (a := 21) hd rfl rfl rfl rfl ?_
    change Zn _ _ _ _ _ _ _ _ _ _ _ [.int (zg s 21 (zg s 33 (((zg s 27 (a1 * 6 + 3)) + a4) * 5 + 3)))] _ _
    refine zn_st [.ref 83, .int a1, .int a2, .int a3, .int a4, .int (zg s 21 (zg s 33 (((zg s 27 (a1 * 6 + 3)) + a4) * 5 + 3))), .null, .null] rfl rfl rfl ?_
    refine zn_ld rfl rfl rfl ?_
    refine zn_ld rfl rfl rfl ?_
    refine zn_get (v := .ref 3) rfl (zv_C (a := 83) (n := 0) rfl rfl rfl) ?_
    refine zn_ld rfl rfl rfl ?_
    refine zn_zt [.ref 3, .int (zg s 21 (zg s 33 (((zg s 27 (a1 * 6 + 3)) + a4) * 5 + 3)))] [.int a2] (c := []) rfl rfl rfl rfl rfl (Zt.imp (zp_49 hd (Or.inl rfl)) (fun vq sq hq => ?_))
    obtain ⟨rfl, hq⟩ := hq
    rw [hq]
    change Zn _ _ _ _ _ _ _ _ _ _ _ [.int (zStr s 3 (zg s 21 (zg s 33 (((zg s 27 (a1 * 6 + 3)) + a4) * 5 + 3)))), .int a2] _ _
    refine zn_brP rfl rfl ⟨fun hcn => ?_, fun hcn => ?_⟩
    · replace h := h.1 ((i_eq (x := zStr s 3 (zg s 21 (zg s 33 (((zg s 27 (a1 * 6 + 3)) + a4) * 5 + 3)))) (y := 0) rfl (show (0 : Int32).toInt = 0 by decide)).mp hcn)
      refine zn_c [.int 0, .int a2] (xo_push (.int 0)) rfl rfl ?_
      exact m_137_47_3 hd r17 h
    · replace h := h.2 (fun q => hcn ((i_eq (x := zStr s 3 (zg s 21 (zg s 33 (((zg s 27 (a1 * 6 + 3)) + a4) * 5 + 3)))) (y := 0) rfl (show (0 : Int32).toInt = 0 by decide)).mpr q))
      refine zn_c [.int 1, .int a2] (xo_push (.int 1)) rfl rfl ?_
      refine zn_ld rfl rfl rfl ?_
      refine zn_c [.int (1 <<< ((zg s 21 (zg s 33 (((zg s 27 (a1 * 6 + 3)) + a4) * 5 + 3))) &&& 31)), .int a2] xo_ishl rfl rfl ?_
      refine zn_go rfl ?_
      exact m_137_47_3 hd r17 h
theorem ml_137_17_3 {d d0 : Nat} (hd : d = d0 + 8)  {a1 : Int32} {a2 : Int32} {a3 : Int32} {a4 : Int32} {s : zS} {Q : Option Value → zS → Prop}  (h : vl_137_17 (fun j => Zt d (wd 3 j) j) 3  a1 a2 a3 a4 s Q) : Zn d [] [] ([(83, 1, 3), (83, 2, 4), (75, 0, 3), (75, 1, 21), (75, 2, 25)] : zW) ([(83, 1, 3), (83, 2, 4), (75, 0, 3), (75, 1, 21), (75, 2, 25)] : zW) xL_10 6 (some .int) xE_137 (xE_137.drop 17) [.ref 83, .int a1, .int a2, .int a3, .int a4, .null, .null, .null] [] s Q := by
  obtain ⟨I, μ, h0, h1⟩ := h
  have key : ∀ (n : Nat) (a1 : Int32) (a2 : Int32) (a3 : Int32) (a4 : Int32) (s : zS), μ a1 a2 a3 a4 s = n → I a1 a2 a3 a4 s → Zn d [] [] ([(83, 1, 3), (83, 2, 4), (75, 0, 3), (75, 1, 21), (75, 2, 25)] : zW) ([(83, 1, 3), (83, 2, 4), (75, 0, 3), (75, 1, 21), (75, 2, 25)] : zW) xL_10 6 (some .int) xE_137 (xE_137.drop 17) [.ref 83, .int a1, .int a2, .int a3, .int a4, .null, .null, .null] [] s Q := by
    intro n
    induction n using Nat.strongRecOn with
    | ind n ih =>
      intro a1 a2 a3 a4 s e hI
      exact m_137_17_3 hd (fun a1' a2' a3' a4' s' q => ih _ (by rw [← e]; exact q.2) a1' a2' a3' a4' s' rfl q.1) (h1 a1 a2 a3 a4 s hI)
  exact key _ a1 a2 a3 a4 s rfl h0
set_option maxRecDepth 20000 in
theorem m_137_14_3 {d d0 : Nat} (hd : d = d0 + 8)  {a1 : Int32} {a2 : Int32} {t0 : Int32} {s : zS} {Q : Option Value → zS → Prop}  (h : v_137_14 (fun j => Zt d (wd 3 j) j) 3  a1 a2 t0 s Q) : Zn d [] [] ([(83, 1, 3), (83, 2, 4), (75, 0, 3), (75, 1, 21), (75, 2, 25)] : zW) ([(83, 1, 3), (83, 2, 4), (75, 0, 3), (75, 1, 21), (75, 2, 25)] : zW) xL_10 6 (some .int) xE_137 (xE_137.drop 14) [.ref 83, .int a1, .int a2, .null, .null, .null, .null, .null] [.int t0] s Q := by
  unfold v_137_14 at h
  refine zn_st [.ref 83, .int a1, .int a2, .int t0, .null, .null, .null, .null] rfl rfl rfl ?_
  refine zn_c [.int 0] (xo_push (.int 0)) rfl rfl ?_
  refine zn_st [.ref 83, .int a1, .int a2, .int t0, .int 0, .null, .null, .null] rfl rfl rfl ?_
  exact ml_137_17_3 hd  h
set_option maxRecDepth 20000 in
theorem m_137_0_3 {d d0 : Nat} (hd : d = d0 + 8)  {a1 : Int32} {s : zS} {Q : Option Value → zS → Prop}  (h : v_137_0 (fun j => Zt d (wd 3 j) j) 3  a1 s Q) : Zn d [] [] ([(83, 1, 3), (83, 2, 4), (75, 0, 3), (75, 1, 21), (75, 2, 25)] : zW) ([(83, 1, 3), (83, 2, 4), (75, 0, 3), (75, 1, 21), (75, 2, 25)] : zW) xL_10 6 (some .int) xE_137 (xE_137.drop 0) [.ref 83, .int a1, .null, .null, .null, .null, .null, .null] [] s Q := by
  unfold v_137_0 at h
  refine zn_c [.int 0] (xo_push (.int 0)) rfl rfl ?_
  refine zn_st [.ref 83, .int a1, .int 0, .null, .null, .null, .null, .null] rfl rfl rfl ?_
  refine zn_ld rfl rfl rfl ?_
  refine zn_get (v := .ref 3) rfl (zv_C (a := 83) (n := 0) rfl rfl rfl) ?_
  refine zn_ld rfl rfl rfl ?_
  refine zn_zt [.ref 3, .int a1] [] (c := []) rfl rfl rfl rfl rfl (Zt.imp (zp_49 hd (Or.inl rfl)) (fun vq sq hq => ?_))
  obtain ⟨rfl, hq⟩ := hq
  rw [hq]
  change Zn _ _ _ _ _ _ _ _ _ _ _ [.int (zStr s 3 a1)] _ _
  refine zn_brP rfl rfl ⟨fun hcn => ?_, fun hcn => ?_⟩
  · replace h := h.1 ((i_eq (x := zStr s 3 a1) (y := 0) rfl (show (0 : Int32).toInt = 0 by decide)).mp hcn)
    refine zn_c [.int 0] (xo_push (.int 0)) rfl rfl ?_
    exact m_137_14_3 hd  h
  · replace h := h.2 (fun q => hcn ((i_eq (x := zStr s 3 a1) (y := 0) rfl (show (0 : Int32).toInt = 0 by decide)).mpr q))
    refine zn_ld rfl rfl rfl ?_
    refine zn_get (v := .ref 3) rfl (zv_C (a := 83) (n := 0) rfl rfl rfl) ?_
    refine zn_ld rfl rfl rfl ?_
    refine zn_c [.int 4, .int a1, .ref 3] (xo_push (.int 4)) rfl rfl ?_
    refine zn_zt [.ref 3, .int a1, .int 4] [] (c := []) rfl rfl rfl rfl rfl (Zt.imp (zp_39 hd (Or.inl rfl)) (fun vq sq hq => ?_))
    obtain ⟨rfl, hq⟩ := hq
    rw [hq]
    change Zn _ _ _ _ _ _ _ _ _ _ _ [.int (zg s 27 (a1 * 6 + 4))] _ _
    refine zn_go rfl ?_
    exact m_137_14_3 hd  h
theorem zq_137_3 {d : Nat} {a1 : Int32} {s : zS} {Q : Option Value → zS → Prop} (h : v_137_0 (fun j => Zt (d + 8) (wd 3 j) j) 3 a1 s Q) : Zt (d + 9) ([(83, 1, 3), (83, 2, 4), (75, 0, 3), (75, 1, 21), (75, 2, 25)] : zW) 137 [.ref 83, .int a1] s Q := zt_of (E := xE_137) (L := xL_10) (ml := 6) (ret := some .int) rfl rfl rfl (m_137_0_3 rfl h)
set_option maxRecDepth 20000 in
theorem m_137_47_39 {d d0 : Nat} (hd : d = d0 + 8) {R17 : Int32 → Int32 → Int32 → Int32 → zS → Prop} {a1 : Int32} {a2 : Int32} {a3 : Int32} {a4 : Int32} {a5 : Int32} {t0 : Int32} {t1 : Int32} {s : zS} {Q : Option Value → zS → Prop} (r17 : ∀ a1 a2 a3 a4 s, R17 a1 a2 a3 a4 s → Zn d [] [] ([(83, 1, 39), (83, 2, 40), (75, 0, 39), (75, 1, 57), (75, 2, 61)] : zW) ([(83, 1, 39), (83, 2, 40), (75, 0, 39), (75, 1, 57), (75, 2, 61)] : zW) xL_10 6 (some .int) xE_137 (xE_137.drop 17) [.ref 83, .int a1, .int a2, .int a3, .int a4, .null, .null, .null] [] s Q) (h : v_137_47 (fun j => Zt d (wd 39 j) j) 39 R17 a1 a2 a3 a4 a5 t0 t1 s Q) : Zn d [] [] ([(83, 1, 39), (83, 2, 40), (75, 0, 39), (75, 1, 57), (75, 2, 61)] : zW) ([(83, 1, 39), (83, 2, 40), (75, 0, 39), (75, 1, 57), (75, 2, 61)] : zW) xL_10 6 (some .int) xE_137 (xE_137.drop 47) [.ref 83, .int a1, .int a2, .int a3, .int a4, .int a5, .null, .null] [.int t1, .int t0] s Q := by
  unfold v_137_47 at h
  refine zn_c [.int (t0 ||| t1)] xo_ior rfl rfl ?_
  refine zn_st [.ref 83, .int a1, .int (t0 ||| t1), .int a3, .int a4, .int a5, .null, .null] rfl rfl rfl ?_
  replace h := h _ (i_add (x := a4) (y := 1) rfl (show (1 : Int32).toInt = 1 by decide))
  refine zn_inc [.ref 83, .int a1, .int (t0 ||| t1), .int a3, .int (a4 + 1), .int a5, .null, .null] rfl rfl rfl rfl ?_
  refine zn_go rfl ?_
  refine zn_fg 5 ?_
  exact r17 a1 (t0 ||| t1) a3 (a4 + 1) s h
set_option maxRecDepth 20000 in
theorem m_137_17_39 {d d0 : Nat} (hd : d = d0 + 8) {R17 : Int32 → Int32 → Int32 → Int32 → zS → Prop} {a1 : Int32} {a2 : Int32} {a3 : Int32} {a4 : Int32} {s : zS} {Q : Option Value → zS → Prop} (r17 : ∀ a1 a2 a3 a4 s, R17 a1 a2 a3 a4 s → Zn d [] [] ([(83, 1, 39), (83, 2, 40), (75, 0, 39), (75, 1, 57), (75, 2, 61)] : zW) ([(83, 1, 39), (83, 2, 40), (75, 0, 39), (75, 1, 57), (75, 2, 61)] : zW) xL_10 6 (some .int) xE_137 (xE_137.drop 17) [.ref 83, .int a1, .int a2, .int a3, .int a4, .null, .null, .null] [] s Q) (h : v_137_17 (fun j => Zt d (wd 39 j) j) 39 R17 a1 a2 a3 a4 s Q) : Zn d [] [] ([(83, 1, 39), (83, 2, 40), (75, 0, 39), (75, 1, 57), (75, 2, 61)] : zW) ([(83, 1, 39), (83, 2, 40), (75, 0, 39), (75, 1, 57), (75, 2, 61)] : zW) xL_10 6 (some .int) xE_137 (xE_137.drop 17) [.ref 83, .int a1, .int a2, .int a3, .int a4, .null, .null, .null] [] s Q := by
  unfold v_137_17 at h
  refine zn_ld rfl rfl rfl ?_
  refine zn_ld rfl rfl rfl ?_
  refine zn_brP rfl rfl ⟨fun hcn => ?_, fun hcn => ?_⟩
  · replace h := h.1 ((i_le (x := a3) (y := a4) rfl rfl).mp hcn)
    refine zn_ld rfl rfl rfl ?_
    exact zn_retI rfl h
  · replace h := h.2 (fun q => hcn ((i_le (x := a3) (y := a4) rfl rfl).mpr q))
    refine zn_ld rfl rfl rfl ?_
    refine zn_get (v := .ref 39) rfl (zv_C (a := 83) (n := 0) rfl rfl rfl) ?_
    refine zn_get (v := .ref 57) rfl (zv_R (a := 39) rfl rfl) ?_
    refine zn_ld rfl rfl rfl ?_
    refine zn_get (v := .ref 39) rfl (zv_C (a := 83) (n := 0) rfl rfl rfl) ?_
    refine zn_ld rfl rfl rfl ?_
    refine zn_get (v := .ref 39) rfl (zv_C (a := 83) (n := 0) rfl rfl rfl) ?_
    refine zn_ld rfl rfl rfl ?_
    refine zn_c [.int 3, .int a1, .ref 39, .ref 39, .ref 57] (xo_push (.int 3)) rfl rfl ?_
    refine zn_zt [.ref 39, .int a1, .int 3] [.ref 39, .ref 57] (c := []) rfl rfl rfl rfl rfl (Zt.imp (zp_39 hd (Or.inr rfl)) (fun vq sq hq => ?_))
    obtain ⟨rfl, hq⟩ := hq
    rw [hq]
    change Zn _ _ _ _ _ _ _ _ _ _ _ [.int (zg s 63 (a1 * 6 + 3)), .ref 39, .ref 57] _ _
    refine zn_ld rfl rfl rfl ?_
    replace h := h _ (i_add (x := zg s 63 (a1 * 6 + 3)) (y := a4) rfl rfl)
    refine zn_c [.int ((zg s 63 (a1 * 6 + 3)) + a4), .ref 39, .ref 57] xo_iadd rfl rfl ?_
    refine zn_c [.int 3, .int ((zg s 63 (a1 * 6 + 3)) + a4), .ref 39, .ref 57] (xo_push (.int 3)) rfl rfl ?_
    refine zn_zt [.ref 39, .int ((zg s 63 (a1 * 6 + 3)) + a4), .int 3] [.ref 57] (c := []) rfl rfl rfl rfl rfl (Zt.imp (zp_42 hd (Or.inr rfl)) (fun vq sq hq => ?_))
    obtain ⟨rfl, hq⟩ := hq
    rw [hq]
    change Zn _ _ _ _ _ _ _ _ _ _ _ [.int (zg s 69 (((zg s 63 (a1 * 6 + 3)) + a4) * 5 + 3)), .ref 57] _ _
    refine zn_row (zg s 69 (((zg s 63 (a1 * 6 + 3)) + a4) * 5 + 3)) [] (a := 57) hd rfl rfl rfl rfl ?_
    change Zn _ _ _ _ _ _ _ _ _ _ _ [.int (zg s 57 (zg s 69 (((zg s 63 (a1 * 6 + 3)) + a4) * 5 + 3)))] _ _
    refine zn_st [.ref 83, .int a1, .int a2, .int a3, .int a4, .int (zg s 57 (zg s 69 (((zg s 63 (a1 * 6 + 3)) + a4) * 5 + 3))), .null, .null] rfl rfl rfl ?_
    refine zn_ld rfl rfl rfl ?_
    refine zn_ld rfl rfl rfl ?_
    refine zn_get (v := .ref 39) rfl (zv_C (a := 83) (n := 0) rfl rfl rfl) ?_
    refine zn_ld rfl rfl rfl ?_
    refine zn_zt [.ref 39, .int (zg s 57 (zg s 69 (((zg s 63 (a1 * 6 + 3)) + a4) * 5 + 3)))] [.int a2] (c := []) rfl rfl rfl rfl rfl (Zt.imp (zp_49 hd (Or.inr rfl)) (fun vq sq hq => ?_))
    obtain ⟨rfl, hq⟩ := hq
    rw [hq]
    change Zn _ _ _ _ _ _ _ _ _ _ _ [.int (zStr s 39 (zg s 57 (zg s 69 (((zg s 63 (a1 * 6 + 3)) + a4) * 5 + 3)))), .int a2] _ _
    refine zn_brP rfl rfl ⟨fun hcn => ?_, fun hcn => ?_⟩
    · replace h := h.1 ((i_eq (x := zStr s 39 (zg s 57 (zg s 69 (((zg s 63 (a1 * 6 + 3)) + a4) * 5 + 3)))) (y := 0) rfl (show (0 : Int32).toInt = 0 by decide)).mp hcn)
      refine zn_c [.int 0, .int a2] (xo_push (.int 0)) rfl rfl ?_
      exact m_137_47_39 hd r17 h
    · replace h := h.2 (fun q => hcn ((i_eq (x := zStr s 39 (zg s 57 (zg s 69 (((zg s 63 (a1 * 6 + 3)) + a4) * 5 + 3)))) (y := 0) rfl (show (0 : Int32).toInt = 0 by decide)).mpr q))
      refine zn_c [.int 1, .int a2] (xo_push (.int 1)) rfl rfl ?_
      refine zn_ld rfl rfl rfl ?_
      refine zn_c [.int (1 <<< ((zg s 57 (zg s 69 (((zg s 63 (a1 * 6 + 3)) + a4) * 5 + 3))) &&& 31)), .int a2] xo_ishl rfl rfl ?_
      refine zn_go rfl ?_
      exact m_137_47_39 hd r17 h
theorem ml_137_17_39 {d d0 : Nat} (hd : d = d0 + 8)  {a1 : Int32} {a2 : Int32} {a3 : Int32} {a4 : Int32} {s : zS} {Q : Option Value → zS → Prop}  (h : vl_137_17 (fun j => Zt d (wd 39 j) j) 39  a1 a2 a3 a4 s Q) : Zn d [] [] ([(83, 1, 39), (83, 2, 40), (75, 0, 39), (75, 1, 57), (75, 2, 61)] : zW) ([(83, 1, 39), (83, 2, 40), (75, 0, 39), (75, 1, 57), (75, 2, 61)] : zW) xL_10 6 (some .int) xE_137 (xE_137.drop 17) [.ref 83, .int a1, .int a2, .int a3, .int a4, .null, .null, .null] [] s Q := by
  obtain ⟨I, μ, h0, h1⟩ := h
  have key : ∀ (n : Nat) (a1 : Int32) (a2 : Int32) (a3 : Int32) (a4 : Int32) (s : zS), μ a1 a2 a3 a4 s = n → I a1 a2 a3 a4 s → Zn d [] [] ([(83, 1, 39), (83, 2, 40), (75, 0, 39), (75, 1, 57), (75, 2, 61)] : zW) ([(83, 1, 39), (83, 2, 40), (75, 0, 39), (75, 1, 57), (75, 2, 61)] : zW) xL_10 6 (some .int) xE_137 (xE_137.drop 17) [.ref 83, .int a1, .int a2, .int a3, .int a4, .null, .null, .null] [] s Q := by
    intro n
    induction n using Nat.strongRecOn with
    | ind n ih =>
      intro a1 a2 a3 a4 s e hI
      exact m_137_17_39 hd (fun a1' a2' a3' a4' s' q => ih _ (by rw [← e]; exact q.2) a1' a2' a3' a4' s' rfl q.1) (h1 a1 a2 a3 a4 s hI)
  exact key _ a1 a2 a3 a4 s rfl h0
set_option maxRecDepth 20000 in
theorem m_137_14_39 {d d0 : Nat} (hd : d = d0 + 8)  {a1 : Int32} {a2 : Int32} {t0 : Int32} {s : zS} {Q : Option Value → zS → Prop}  (h : v_137_14 (fun j => Zt d (wd 39 j) j) 39  a1 a2 t0 s Q) : Zn d [] [] ([(83, 1, 39), (83, 2, 40), (75, 0, 39), (75, 1, 57), (75, 2, 61)] : zW) ([(83, 1, 39), (83, 2, 40), (75, 0, 39), (75, 1, 57), (75, 2, 61)] : zW) xL_10 6 (some .int) xE_137 (xE_137.drop 14) [.ref 83, .int a1, .int a2, .null, .null, .null, .null, .null] [.int t0] s Q := by
  unfold v_137_14 at h
  refine zn_st [.ref 83, .int a1, .int a2, .int t0, .null, .null, .null, .null] rfl rfl rfl ?_
  refine zn_c [.int 0] (xo_push (.int 0)) rfl rfl ?_
  refine zn_st [.ref 83, .int a1, .int a2, .int t0, .int 0, .null, .null, .null] rfl rfl rfl ?_
  exact ml_137_17_39 hd  h
set_option maxRecDepth 20000 in
theorem m_137_0_39 {d d0 : Nat} (hd : d = d0 + 8)  {a1 : Int32} {s : zS} {Q : Option Value → zS → Prop}  (h : v_137_0 (fun j => Zt d (wd 39 j) j) 39  a1 s Q) : Zn d [] [] ([(83, 1, 39), (83, 2, 40), (75, 0, 39), (75, 1, 57), (75, 2, 61)] : zW) ([(83, 1, 39), (83, 2, 40), (75, 0, 39), (75, 1, 57), (75, 2, 61)] : zW) xL_10 6 (some .int) xE_137 (xE_137.drop 0) [.ref 83, .int a1, .null, .null, .null, .null, .null, .null] [] s Q := by
  unfold v_137_0 at h
  refine zn_c [.int 0] (xo_push (.int 0)) rfl rfl ?_
  refine zn_st [.ref 83, .int a1, .int 0, .null, .null, .null, .null, .null] rfl rfl rfl ?_
  refine zn_ld rfl rfl rfl ?_
  refine zn_get (v := .ref 39) rfl (zv_C (a := 83) (n := 0) rfl rfl rfl) ?_
  refine zn_ld rfl rfl rfl ?_
  refine zn_zt [.ref 39, .int a1] [] (c := []) rfl rfl rfl rfl rfl (Zt.imp (zp_49 hd (Or.inr rfl)) (fun vq sq hq => ?_))
  obtain ⟨rfl, hq⟩ := hq
  rw [hq]
  change Zn _ _ _ _ _ _ _ _ _ _ _ [.int (zStr s 39 a1)] _ _
  refine zn_brP rfl rfl ⟨fun hcn => ?_, fun hcn => ?_⟩
  · replace h := h.1 ((i_eq (x := zStr s 39 a1) (y := 0) rfl (show (0 : Int32).toInt = 0 by decide)).mp hcn)
    refine zn_c [.int 0] (xo_push (.int 0)) rfl rfl ?_
    exact m_137_14_39 hd  h
  · replace h := h.2 (fun q => hcn ((i_eq (x := zStr s 39 a1) (y := 0) rfl (show (0 : Int32).toInt = 0 by decide)).mpr q))
    refine zn_ld rfl rfl rfl ?_
    refine zn_get (v := .ref 39) rfl (zv_C (a := 83) (n := 0) rfl rfl rfl) ?_
    refine zn_ld rfl rfl rfl ?_
    refine zn_c [.int 4, .int a1, .ref 39] (xo_push (.int 4)) rfl rfl ?_
    refine zn_zt [.ref 39, .int a1, .int 4] [] (c := []) rfl rfl rfl rfl rfl (Zt.imp (zp_39 hd (Or.inr rfl)) (fun vq sq hq => ?_))
    obtain ⟨rfl, hq⟩ := hq
    rw [hq]
    change Zn _ _ _ _ _ _ _ _ _ _ _ [.int (zg s 63 (a1 * 6 + 4))] _ _
    refine zn_go rfl ?_
    exact m_137_14_39 hd  h
theorem zq_137_39 {d : Nat} {a1 : Int32} {s : zS} {Q : Option Value → zS → Prop} (h : v_137_0 (fun j => Zt (d + 8) (wd 39 j) j) 39 a1 s Q) : Zt (d + 9) ([(83, 1, 39), (83, 2, 40), (75, 0, 39), (75, 1, 57), (75, 2, 61)] : zW) 137 [.ref 83, .int a1] s Q := zt_of (E := xE_137) (L := xL_10) (ml := 6) (ret := some .int) rfl rfl rfl (m_137_0_39 rfl h)
theorem zc_137 {d P : Nat} (hP : P = 3 ∨ P = 39) {a1 : Int32} {s : zS} {Q : Option Value → zS → Prop} (h : v_137_0 (fun j => Zt (d + 8) (wd P j) j) P a1 s Q) : Zt (d + 9) (wd P 137) 137 [.ref 83, .int a1] s Q := by
  rcases hP with rfl | rfl
  · exact zq_137_3 h
  · exact zq_137_39 h
